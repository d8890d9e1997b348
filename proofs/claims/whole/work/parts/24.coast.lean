set_option maxHeartbeats 4000000 in
set_option maxRecDepth 100000 in
theorem c_X1_readFrom (l : Launch) (D : va_G) (cI cZ : ClassId) (kS vS : Nat) (h0 : Nat) (h5 : Nat) (h6 : Nat) (nv : Int32) (bar0 : Int32) (Kz : Nat → Int32) (Fz : Nat → Int32) (n : Nat) (g0 : Nat) (g1 : Nat) (ps : Nat) (pg : Nat → Nat) (hp24 : ps ≤ 24) (hlt : ∀ j, j < ps → pg j < 127) (hct : ∀ z, cat pg ps z < 127) (hn2 : 2 ≤ n) (hn5 : n ≤ 5) (hps : ps = n * 4 + 1) : CV l yX1_readFrom cX1_readFrom 3 D cI cZ kS vS 5 112 0 0 [.ref h0, .ref g0] [(h0, .inr (1, [.ref h5, .ref h6, .int nv, .int bar0])), (h5, .inl (cI, 5, .inl Kz)), (h6, .inl (cI, 5, .inl Fz)), (g0, .inr (4, [.ref g1, .int (nI ps)])), (g1, .inl (cI, 24, .inl (ro pg)))] (fun (_ : Unit) => True) (fun (_ : Unit) => [(h0, .inr (1, [.ref h5, .ref h6, .int (nI n), .int (nI (pg (n * 4)) - 48)])), (h5, .inl (cI, 5, .inl (ffl (fun j => kb (pg (j * 4))) Kz n))), (h6, .inl (cI, 5, .inl (ffl (fun j => nI (pg (j * 4 + 2)) - 48) Fz n))), (g0, .inr (4, [.ref g1, .int (nI ps)])), (g1, .inl (cI, 24, .inl (ro pg)))]) := by
  refine CV_intro (by decide) (Nat.le_of_ble_eq_true rfl) ?_
  intro p e s m args below meth c A Q ls C hini h hret hl
  have C : CX p s m args c cX1_readFrom 3 RX1 D cI cZ kS vS A := C
  have hx := C.1.1
  have hb := C.1.2.1
  have hl : lv_has ls 3 [(0, .ref h0), (1, .ref g0)] := hl
  refine lv_aload_n hx hb dX1_readFrom_0 rfl (lv_at hl 0 rfl) ?_
  refine lv_aload_n hx hb dX1_readFrom_1 rfl (lv_at hl 1 rfl) ?_
  refine k_Vi (rest := [.ref h0]) (as := []) (wc := [(g0, .inr (4, [.ref g1, .int (nI ps)])), (g1, .inl (cI, 24, .inl (ro pg)))]) (wr := [(h0, .inr (1, [.ref h5, .ref h6, .int nv, .int bar0])), (h5, .inl (cI, 5, .inl Kz)), (h6, .inl (cI, 5, .inl Fz))]) (isC := [3, 4]) (isR := [0, 1, 2]) (w2 := fun (_ : Unit) => [(h0, .inr (1, [.ref h5, .ref h6, .int nv, .int bar0])), (h5, .inl (cI, 5, .inl Kz)), (h6, .inl (cI, 5, .inl Fz)), (g0, .inr (4, [.ref g1, .int (nI ps)])), (g1, .inl (cI, 24, .inl (ro pg)))]) C h (c_X4_rivers l D cI cZ kS vS g0 g1 ps pg hp24) wv_X4_rivers rfl ⟨rfl, rfl, rfl, rfl, by decide⟩ fk4 3 rfl ml_RX1_18 [0, 1, 2, 3, 4] rfl (fun _ => rfl) ⟨Nat.le_of_ble_eq_true rfl, Nat.le_of_ble_eq_true rfl⟩ ⟨Nat.le_of_ble_eq_true rfl, Nat.le_of_ble_eq_true rfl⟩ (Nat.le_of_ble_eq_true rfl) hl rfl dX1_readFrom_2 (fun r u H locs hq h => ?_)
  have h : HS D A s H locs [(h0, .inr (1, [.ref h5, .ref h6, .int nv, .int bar0])), (h5, .inl (cI, 5, .inl Kz)), (h6, .inl (cI, 5, .inl Fz)), (g0, .inr (4, [.ref g1, .int (nI ps)])), (g1, .inl (cI, 24, .inl (ro pg)))] := h
  have hq : r = nI (ps / 4) := hq
  have hq := hq.symm
  subst hq
  refine lv_iconst (v := 5) hx hb dX1_readFrom_5 (by decide) ?_
  refine r_min C ml_RX1_24 hl ⟨Nat.le_of_ble_eq_true rfl, Nat.le_of_ble_eq_true rfl⟩ ⟨Nat.le_of_ble_eq_true rfl, Nat.le_of_ble_eq_true rfl⟩ dX1_readFrom_6 ?_
  refine r_top (y := nI n) (min_5 hps hn5) ?_
  refine r_put C h fk1 0 2 rfl (by decide) mf_RX1_30 rfl (rfl) rfl (Nat.le_of_ble_eq_true rfl) (ws' := [(h0, .inr (1, [.ref h5, .ref h6, .int (nI n), .int bar0])), (h5, .inl (cI, 5, .inl Kz)), (h6, .inl (cI, 5, .inl Fz)), (g0, .inr (4, [.ref g1, .int (nI ps)])), (g1, .inl (cI, 24, .inl (ro pg)))]) rfl dX1_readFrom_9 (fun H locs h => ?_)
  refine lv_aload_n hx hb dX1_readFrom_12 rfl (lv_at hl 0 rfl) ?_
  refine lv_aload_n hx hb dX1_readFrom_13 rfl (lv_at hl 1 rfl) ?_
  refine k_Vi (rest := [.ref h0]) (as := []) (wc := [(g0, .inr (4, [.ref g1, .int (nI ps)])), (g1, .inl (cI, 24, .inl (ro pg)))]) (wr := [(h0, .inr (1, [.ref h5, .ref h6, .int (nI n), .int bar0])), (h5, .inl (cI, 5, .inl Kz)), (h6, .inl (cI, 5, .inl Fz))]) (isC := [3, 4]) (isR := [0, 1, 2]) (w2 := fun (_ : Unit) => [(h0, .inr (1, [.ref h5, .ref h6, .int (nI n), .int bar0])), (h5, .inl (cI, 5, .inl Kz)), (h6, .inl (cI, 5, .inl Fz)), (g0, .inr (4, [.ref g1, .int (nI ps)])), (g1, .inl (cI, 24, .inl (ro pg)))]) C h (c_X4_lastDigit l D cI cZ kS vS g0 g1 ps pg hp24 (by omega)) wv_X4_lastDigit rfl ⟨rfl, rfl, rfl, rfl, by decide⟩ fk4 3 rfl ml_RX1_33 [0, 1, 2, 3, 4] rfl (fun _ => rfl) ⟨Nat.le_of_ble_eq_true rfl, Nat.le_of_ble_eq_true rfl⟩ ⟨Nat.le_of_ble_eq_true rfl, Nat.le_of_ble_eq_true rfl⟩ (Nat.le_of_ble_eq_true rfl) hl rfl dX1_readFrom_14 (fun r u H locs hq h => ?_)
  have h : HS D A s H locs [(h0, .inr (1, [.ref h5, .ref h6, .int (nI n), .int bar0])), (h5, .inl (cI, 5, .inl Kz)), (h6, .inl (cI, 5, .inl Fz)), (g0, .inr (4, [.ref g1, .int (nI ps)])), (g1, .inl (cI, 24, .inl (ro pg)))] := h
  have hq : r = nI (pg (ps - 1)) - 48 := hq
  have hq := hq.symm
  subst hq
  refine r_top (y := nI (pg (n * 4)) - 48) (by rw [show ps - 1 = n * 4 by omega]) ?_
  refine r_put C h fk1 0 3 rfl (by decide) mf_RX1_36 rfl (rfl) rfl (Nat.le_of_ble_eq_true rfl) (ws' := [(h0, .inr (1, [.ref h5, .ref h6, .int (nI n), .int (nI (pg (n * 4)) - 48)])), (h5, .inl (cI, 5, .inl Kz)), (h6, .inl (cI, 5, .inl Fz)), (g0, .inr (4, [.ref g1, .int (nI ps)])), (g1, .inl (cI, 24, .inl (ro pg)))]) rfl dX1_readFrom_17 (fun H locs h => ?_)
  refine lv_iconst (v := 0) hx hb dX1_readFrom_20 (by decide) ?_
  refine lv_istore_n (lv' := [(2, .int 0), (0, .ref h0), (1, .ref g0)]) hx hb dX1_readFrom_21 rfl hl (by decide) rfl (fun ls hl => ?_)
  have L22 : ∀ (fu : Nat) (i : Nat), (n - i) < fu → (hi : i ≤ n) → ∀ (H : Heap) (locs : List Loc) (ls : Array Slot), HS D A s H locs [(h0, .inr (1, [.ref h5, .ref h6, .int (nI n), .int (nI (pg (n * 4)) - 48)])), (h5, .inl (cI, 5, .inl (ffl (fun j => kb (pg (j * 4))) Kz i))), (h6, .inl (cI, 5, .inl (ffl (fun j => nI (pg (j * 4 + 2)) - 48) Fz i))), (g0, .inr (4, [.ref g1, .int (nI ps)])), (g1, .inl (cI, 24, .inl (ro pg)))] → lv_has ls 3 [(0, .ref h0), (1, .ref g0), (2, .int (nI i))] → W p l e (rmO 5 112 0 0) s m args below meth c H locs 0 0 Q (F0 m 22 ls []) := by
    intro fu
    induction fu with
    | zero => intro i hfu; exact absurd hfu (Nat.not_lt_zero _)
    | succ fu ih22 =>
      intro i hfu hi H locs ls h hl
      refine lv_iload_n hx hb dX1_readFrom_22 rfl (lv_at hl 2 rfl) ?_
      refine lv_aload_n hx hb dX1_readFrom_23 rfl (lv_at hl 0 rfl) ?_
      refine r_get C h fk1 0 2 rfl (by decide) mf_RX1_30 rfl dX1_readFrom_24 ?_
      refine lv_icmp_ge (tgt := 58) hx hb dX1_readFrom_27 (by decide) (fun c_27 => ?_) (fun c_27 => ?_)
      · skip
        have c_27 := (jle (a := n) (b := i) (by omega) (by omega)).mp c_27
        obtain rfl : n = i := by omega
        exact hret () dX1_readFrom_58 h (trivial)
      · skip
        have c_27 : ¬ n ≤ i := fun z => c_27 ((jle (a := n) (b := i) (by omega) (by omega)).mpr z)
        have hlt5 : i < n := by omega
        refine lv_aload_n hx hb dX1_readFrom_30 rfl (lv_at hl 0 rfl) ?_
        refine r_get C h fk1 0 0 rfl (by decide) mf_RX1_9 rfl dX1_readFrom_31 ?_
        refine lv_iload_n hx hb dX1_readFrom_34 rfl (lv_at hl 2 rfl) ?_
        refine lv_aload_n hx hb dX1_readFrom_35 rfl (lv_at hl 1 rfl) ?_
        refine lv_iload_n hx hb dX1_readFrom_36 rfl (lv_at hl 2 rfl) ?_
        refine k_Vi (rest := [.int (nI i), .ref h5]) (as := [.int (nI i)]) (wc := [(g0, .inr (4, [.ref g1, .int (nI ps)])), (g1, .inl (cI, 24, .inl (ro pg)))]) (wr := [(h0, .inr (1, [.ref h5, .ref h6, .int (nI n), .int (nI (pg (n * 4)) - 48)])), (h5, .inl (cI, 5, .inl (ffl (fun j => kb (pg (j * 4))) Kz i))), (h6, .inl (cI, 5, .inl (ffl (fun j => nI (pg (j * 4 + 2)) - 48) Fz i)))]) (isC := [3, 4]) (isR := [0, 1, 2]) (w2 := fun (_ : Unit) => [(h0, .inr (1, [.ref h5, .ref h6, .int (nI n), .int (nI (pg (n * 4)) - 48)])), (h5, .inl (cI, 5, .inl (ffl (fun j => kb (pg (j * 4))) Kz i))), (h6, .inl (cI, 5, .inl (ffl (fun j => nI (pg (j * 4 + 2)) - 48) Fz i))), (g0, .inr (4, [.ref g1, .int (nI ps)])), (g1, .inl (cI, 24, .inl (ro pg)))]) C h (c_X4_kindAt l D cI cZ kS vS g0 g1 ps pg i hp24 hlt hct (by omega)) wv_X4_kindAt rfl ⟨rfl, rfl, rfl, rfl, by decide⟩ fk4 3 rfl ml_RX1_39 [0, 1, 2, 3, 4] rfl (fun _ => rfl) ⟨Nat.le_of_ble_eq_true rfl, Nat.le_of_ble_eq_true rfl⟩ ⟨Nat.le_of_ble_eq_true rfl, Nat.le_of_ble_eq_true rfl⟩ (Nat.le_of_ble_eq_true rfl) hl rfl dX1_readFrom_37 (fun r u H locs hq h => ?_)
        have h : HS D A s H locs [(h0, .inr (1, [.ref h5, .ref h6, .int (nI n), .int (nI (pg (n * 4)) - 48)])), (h5, .inl (cI, 5, .inl (ffl (fun j => kb (pg (j * 4))) Kz i))), (h6, .inl (cI, 5, .inl (ffl (fun j => nI (pg (j * 4 + 2)) - 48) Fz i))), (g0, .inr (4, [.ref g1, .int (nI ps)])), (g1, .inl (cI, 24, .inl (ro pg)))] := h
        have hq : r = kb (pg (i * 4)) := hq
        have hq := hq.symm
        subst hq
        refine r_st C h 1 rfl i (rfl) (by omega) (by decide) (g := upd (ffl (fun j => kb (pg (j * 4))) Kz i) i (kb (pg (i * 4)))) (fun _ _ => rfl) (ws' := [(h0, .inr (1, [.ref h5, .ref h6, .int (nI n), .int (nI (pg (n * 4)) - 48)])), (h5, .inl (cI, 5, .inl (upd (ffl (fun j => kb (pg (j * 4))) Kz i) i (kb (pg (i * 4)))))), (h6, .inl (cI, 5, .inl (ffl (fun j => nI (pg (j * 4 + 2)) - 48) Fz i))), (g0, .inr (4, [.ref g1, .int (nI ps)])), (g1, .inl (cI, 24, .inl (ro pg)))]) rfl dX1_readFrom_40 (fun H locs h => ?_)
        refine lv_aload_n hx hb dX1_readFrom_41 rfl (lv_at hl 0 rfl) ?_
        refine r_get C h fk1 0 1 rfl (by decide) mf_RX1_15 rfl dX1_readFrom_42 ?_
        refine lv_iload_n hx hb dX1_readFrom_45 rfl (lv_at hl 2 rfl) ?_
        refine lv_aload_n hx hb dX1_readFrom_46 rfl (lv_at hl 1 rfl) ?_
        refine lv_iload_n hx hb dX1_readFrom_47 rfl (lv_at hl 2 rfl) ?_
        refine k_Vi (rest := [.int (nI i), .ref h6]) (as := [.int (nI i)]) (wc := [(g0, .inr (4, [.ref g1, .int (nI ps)])), (g1, .inl (cI, 24, .inl (ro pg)))]) (wr := [(h0, .inr (1, [.ref h5, .ref h6, .int (nI n), .int (nI (pg (n * 4)) - 48)])), (h5, .inl (cI, 5, .inl (upd (ffl (fun j => kb (pg (j * 4))) Kz i) i (kb (pg (i * 4)))))), (h6, .inl (cI, 5, .inl (ffl (fun j => nI (pg (j * 4 + 2)) - 48) Fz i)))]) (isC := [3, 4]) (isR := [0, 1, 2]) (w2 := fun (_ : Unit) => [(h0, .inr (1, [.ref h5, .ref h6, .int (nI n), .int (nI (pg (n * 4)) - 48)])), (h5, .inl (cI, 5, .inl (upd (ffl (fun j => kb (pg (j * 4))) Kz i) i (kb (pg (i * 4)))))), (h6, .inl (cI, 5, .inl (ffl (fun j => nI (pg (j * 4 + 2)) - 48) Fz i))), (g0, .inr (4, [.ref g1, .int (nI ps)])), (g1, .inl (cI, 24, .inl (ro pg)))]) C h (c_X4_flowAt l D cI cZ kS vS g0 g1 ps pg i hp24 (by omega)) wv_X4_flowAt rfl ⟨rfl, rfl, rfl, rfl, by decide⟩ fk4 3 rfl ml_RX1_43 [0, 1, 2, 3, 4] rfl (fun _ => rfl) ⟨Nat.le_of_ble_eq_true rfl, Nat.le_of_ble_eq_true rfl⟩ ⟨Nat.le_of_ble_eq_true rfl, Nat.le_of_ble_eq_true rfl⟩ (Nat.le_of_ble_eq_true rfl) hl rfl dX1_readFrom_48 (fun r u H locs hq h => ?_)
        have h : HS D A s H locs [(h0, .inr (1, [.ref h5, .ref h6, .int (nI n), .int (nI (pg (n * 4)) - 48)])), (h5, .inl (cI, 5, .inl (upd (ffl (fun j => kb (pg (j * 4))) Kz i) i (kb (pg (i * 4)))))), (h6, .inl (cI, 5, .inl (ffl (fun j => nI (pg (j * 4 + 2)) - 48) Fz i))), (g0, .inr (4, [.ref g1, .int (nI ps)])), (g1, .inl (cI, 24, .inl (ro pg)))] := h
        have hq : r = nI (pg (i * 4 + 2)) - 48 := hq
        have hq := hq.symm
        subst hq
        refine r_st C h 2 rfl i (rfl) (by omega) (by decide) (g := upd (ffl (fun j => nI (pg (j * 4 + 2)) - 48) Fz i) i (nI (pg (i * 4 + 2)) - 48)) (fun _ _ => rfl) (ws' := [(h0, .inr (1, [.ref h5, .ref h6, .int (nI n), .int (nI (pg (n * 4)) - 48)])), (h5, .inl (cI, 5, .inl (upd (ffl (fun j => kb (pg (j * 4))) Kz i) i (kb (pg (i * 4)))))), (h6, .inl (cI, 5, .inl (upd (ffl (fun j => nI (pg (j * 4 + 2)) - 48) Fz i) i (nI (pg (i * 4 + 2)) - 48)))), (g0, .inr (4, [.ref g1, .int (nI ps)])), (g1, .inl (cI, 24, .inl (ro pg)))]) rfl dX1_readFrom_51 (fun H locs h => ?_)
        refine lv_iinc (v := nI (i + 1)) (lv' := [(2, .int (nI (i + 1))), (0, .ref h0), (1, .ref g0)]) hx hb dX1_readFrom_52 hl (k := 2) rfl (nI_1 i) (by decide) rfl (fun ls hl => ?_)
        refine lv_goto (tgt := 22) hx hb dX1_readFrom_55 (by decide) ?_
        have h := h.arr 1 (g := ffl (fun j => kb (pg (j * 4))) Kz (i + 1)) rfl (fun j _ => ffl_s (fun j => kb (pg (j * 4))) Kz i j) rfl
        have h := h.arr 2 (g := ffl (fun j => nI (pg (j * 4 + 2)) - 48) Fz (i + 1)) rfl (fun j _ => ffl_s (fun j => nI (pg (j * 4 + 2)) - 48) Fz i j) rfl
        exact ih22  (i + 1) (by omega) (by first | assumption | omega) _ _ _ h (lv_sub hl [1, 2, 0] rfl)
  have h := h.arr 1 (g := ffl (fun j => kb (pg (j * 4))) Kz 0) rfl (fun j _ => ffl_0 _ Kz j) rfl
  have h := h.arr 2 (g := ffl (fun j => nI (pg (j * 4 + 2)) - 48) Fz 0) rfl (fun j _ => ffl_0 _ Fz j) rfl
  exact L22 ((n - 0) + 1) 0 (by omega) (by first | assumption | omega) _ _ _ h (lv_sub hl [1, 2, 0] rfl)

set_option maxHeartbeats 4000000 in
set_option maxRecDepth 100000 in
theorem c_X5_beginAs (l : Launch) (D : va_G) (cI cZ : ClassId) (kS vS : Nat) (h0 : Nat) (h1 : Nat) (h2 : Nat) (h3 : Nat) (h4 : Nat) (h5 : Nat) (h6 : Nat) (n : Nat) (bar : Int32) (hr : Int32) (to : Int32) (w0 : Nat → Int32) (k0 : Nat → Int32) (ρ : Nat → Nat) (g0 : Nat) (g1 : Nat) (ps : Nat) (pg : Nat → Nat) (hp24 : ps ≤ 24) (hn2 : 2 ≤ n) (hn5 : n ≤ 5) (hps : ps = n * 4 + 1) : CV l yX5_beginAs cX5_beginAs 3 D cI cZ kS vS 2 42 0 0 [.ref h0, .ref g0] [(h0, .inr (5, [.ref h1, .ref h2, .ref h3, .ref h4, .int hr, .int to])), (h1, .inr (1, [.ref h5, .ref h6, .int (nI n), .int bar])), (h2, .inl (cI, 5, .inl w0)), (h3, .inl (cI, 5, .inl k0)), (h4, .inl (cI, 5, .inl (ro ρ))), (g0, .inr (4, [.ref g1, .int (nI ps)])), (g1, .inl (cI, 24, .inl (ro pg)))] (fun (_ : Unit) => True) (fun (_ : Unit) => [(h0, .inr (5, [.ref h1, .ref h2, .ref h3, .ref h4, .int 0, .int to])), (h1, .inr (1, [.ref h5, .ref h6, .int (nI n), .int bar])), (h2, .inl (cI, 5, .inl (ffl (fun j => nI (pg (j * 4 + 1)) - 48) w0 n))), (h3, .inl (cI, 5, .inl (ffl (fun _ => 0) k0 n))), (h4, .inl (cI, 5, .inl (ro (idn n ρ)))), (g0, .inr (4, [.ref g1, .int (nI ps)])), (g1, .inl (cI, 24, .inl (ro pg)))]) := by
  refine CV_intro (by decide) (Nat.le_of_ble_eq_true rfl) ?_
  intro p e s m args below meth c A Q ls C hini h hret hl
  have C : CX p s m args c cX5_beginAs 3 RX5 D cI cZ kS vS A := C
  have hx := C.1.1
  have hb := C.1.2.1
  have hl : lv_has ls 3 [(0, .ref h0), (1, .ref g0)] := hl
  refine lv_iconst (v := 0) hx hb dX5_beginAs_0 (by decide) ?_
  refine lv_istore_n (lv' := [(2, .int 0), (0, .ref h0), (1, .ref g0)]) hx hb dX5_beginAs_1 rfl hl (by decide) rfl (fun ls hl => ?_)
  have L2 : ∀ (fu : Nat) (i : Nat), (n - i) < fu → (hi : i ≤ n) → ∀ (H : Heap) (locs : List Loc) (ls : Array Slot), HS D A s H locs [(h0, .inr (5, [.ref h1, .ref h2, .ref h3, .ref h4, .int hr, .int to])), (h1, .inr (1, [.ref h5, .ref h6, .int (nI n), .int bar])), (h2, .inl (cI, 5, .inl (ffl (fun j => nI (pg (j * 4 + 1)) - 48) w0 i))), (h3, .inl (cI, 5, .inl (ffl (fun _ => 0) k0 i))), (h4, .inl (cI, 5, .inl (ro (idn i ρ)))), (g0, .inr (4, [.ref g1, .int (nI ps)])), (g1, .inl (cI, 24, .inl (ro pg)))] → lv_has ls 3 [(0, .ref h0), (1, .ref g0), (2, .int (nI i))] → W p l e (rmO 2 42 0 0) s m args below meth c H locs 0 0 Q (F0 m 2 ls []) := by
    intro fu
    induction fu with
    | zero => intro i hfu; exact absurd hfu (Nat.not_lt_zero _)
    | succ fu ih2 =>
      intro i hfu hi H locs ls h hl
      refine lv_iload_n hx hb dX5_beginAs_2 rfl (lv_at hl 2 rfl) ?_
      refine lv_aload_n hx hb dX5_beginAs_3 rfl (lv_at hl 0 rfl) ?_
      refine r_get C h fk5 0 0 rfl (by decide) mf_RX5_25 rfl dX5_beginAs_4 ?_
      refine r_getN C h fk1 1 2 6 rfl (by decide) rfl rfl dX5_beginAs_7 ?_
      refine lv_icmp_ge (tgt := 44) hx hb dX5_beginAs_10 (by decide) (fun c_10 => ?_) (fun c_10 => ?_)
      · skip
        have c_10 := (jle (a := n) (b := i) (by omega) (by omega)).mp c_10
        obtain rfl : n = i := by omega
        refine lv_aload_n hx hb dX5_beginAs_44 rfl (lv_at hl 0 rfl) ?_
        refine lv_iconst (v := 0) hx hb dX5_beginAs_45 (by decide) ?_
        refine r_put C h fk5 0 4 rfl (by decide) mf_RX5_40 rfl (rfl) rfl (Nat.le_of_ble_eq_true rfl) (ws' := [(h0, .inr (5, [.ref h1, .ref h2, .ref h3, .ref h4, .int 0, .int to])), (h1, .inr (1, [.ref h5, .ref h6, .int (nI n), .int bar])), (h2, .inl (cI, 5, .inl (ffl (fun j => nI (pg (j * 4 + 1)) - 48) w0 n))), (h3, .inl (cI, 5, .inl (ffl (fun _ => 0) k0 n))), (h4, .inl (cI, 5, .inl (ro (idn n ρ)))), (g0, .inr (4, [.ref g1, .int (nI ps)])), (g1, .inl (cI, 24, .inl (ro pg)))]) rfl dX5_beginAs_46 (fun H locs h => ?_)
        exact hret () dX5_beginAs_49 h (trivial)
      · skip
        have c_10 : ¬ n ≤ i := fun z => c_10 ((jle (a := n) (b := i) (by omega) (by omega)).mpr z)
        have hlt5 : i < n := by omega
        refine lv_aload_n hx hb dX5_beginAs_13 rfl (lv_at hl 0 rfl) ?_
        refine r_get C h fk5 0 1 rfl (by decide) mf_RX5_9 rfl dX5_beginAs_14 ?_
        refine lv_iload_n hx hb dX5_beginAs_17 rfl (lv_at hl 2 rfl) ?_
        refine lv_aload_n hx hb dX5_beginAs_18 rfl (lv_at hl 1 rfl) ?_
        refine lv_iload_n hx hb dX5_beginAs_19 rfl (lv_at hl 2 rfl) ?_
        refine k_Vi (rest := [.int (nI i), .ref h2]) (as := [.int (nI i)]) (wc := [(g0, .inr (4, [.ref g1, .int (nI ps)])), (g1, .inl (cI, 24, .inl (ro pg)))]) (wr := [(h0, .inr (5, [.ref h1, .ref h2, .ref h3, .ref h4, .int hr, .int to])), (h1, .inr (1, [.ref h5, .ref h6, .int (nI n), .int bar])), (h2, .inl (cI, 5, .inl (ffl (fun j => nI (pg (j * 4 + 1)) - 48) w0 i))), (h3, .inl (cI, 5, .inl (ffl (fun _ => 0) k0 i))), (h4, .inl (cI, 5, .inl (ro (idn i ρ))))]) (isC := [5, 6]) (isR := [0, 1, 2, 3, 4]) (w2 := fun (_ : Unit) => [(h0, .inr (5, [.ref h1, .ref h2, .ref h3, .ref h4, .int hr, .int to])), (h1, .inr (1, [.ref h5, .ref h6, .int (nI n), .int bar])), (h2, .inl (cI, 5, .inl (ffl (fun j => nI (pg (j * 4 + 1)) - 48) w0 i))), (h3, .inl (cI, 5, .inl (ffl (fun _ => 0) k0 i))), (h4, .inl (cI, 5, .inl (ro (idn i ρ)))), (g0, .inr (4, [.ref g1, .int (nI ps)])), (g1, .inl (cI, 24, .inl (ro pg)))]) C h (c_X4_waterAt l D cI cZ kS vS g0 g1 ps pg i hp24 (by omega)) wv_X4_waterAt rfl ⟨rfl, rfl, rfl, rfl, by decide⟩ fk4 5 rfl ml_RX5_34 [0, 1, 2, 3, 4, 5, 6] rfl (fun _ => rfl) ⟨Nat.le_of_ble_eq_true rfl, Nat.le_of_ble_eq_true rfl⟩ ⟨Nat.le_of_ble_eq_true rfl, Nat.le_of_ble_eq_true rfl⟩ (Nat.le_of_ble_eq_true rfl) hl rfl dX5_beginAs_20 (fun r u H locs hq h => ?_)
        have h : HS D A s H locs [(h0, .inr (5, [.ref h1, .ref h2, .ref h3, .ref h4, .int hr, .int to])), (h1, .inr (1, [.ref h5, .ref h6, .int (nI n), .int bar])), (h2, .inl (cI, 5, .inl (ffl (fun j => nI (pg (j * 4 + 1)) - 48) w0 i))), (h3, .inl (cI, 5, .inl (ffl (fun _ => 0) k0 i))), (h4, .inl (cI, 5, .inl (ro (idn i ρ)))), (g0, .inr (4, [.ref g1, .int (nI ps)])), (g1, .inl (cI, 24, .inl (ro pg)))] := h
        have hq : r = nI (pg (i * 4 + 1)) - 48 := hq
        have hq := hq.symm
        subst hq
        refine r_st C h 2 rfl i (rfl) (by omega) (by decide) (g := upd (ffl (fun j => nI (pg (j * 4 + 1)) - 48) w0 i) i (nI (pg (i * 4 + 1)) - 48)) (fun _ _ => rfl) (ws' := [(h0, .inr (5, [.ref h1, .ref h2, .ref h3, .ref h4, .int hr, .int to])), (h1, .inr (1, [.ref h5, .ref h6, .int (nI n), .int bar])), (h2, .inl (cI, 5, .inl (upd (ffl (fun j => nI (pg (j * 4 + 1)) - 48) w0 i) i (nI (pg (i * 4 + 1)) - 48)))), (h3, .inl (cI, 5, .inl (ffl (fun _ => 0) k0 i))), (h4, .inl (cI, 5, .inl (ro (idn i ρ)))), (g0, .inr (4, [.ref g1, .int (nI ps)])), (g1, .inl (cI, 24, .inl (ro pg)))]) rfl dX5_beginAs_23 (fun H locs h => ?_)
        refine lv_aload_n hx hb dX5_beginAs_24 rfl (lv_at hl 0 rfl) ?_
        refine r_get C h fk5 0 2 rfl (by decide) mf_RX5_15 rfl dX5_beginAs_25 ?_
        refine lv_iload_n hx hb dX5_beginAs_28 rfl (lv_at hl 2 rfl) ?_
        refine lv_iconst (v := 0) hx hb dX5_beginAs_29 (by decide) ?_
        refine r_st C h 3 rfl i (rfl) (by omega) (by decide) (g := upd (ffl (fun _ => 0) k0 i) i 0) (fun _ _ => rfl) (ws' := [(h0, .inr (5, [.ref h1, .ref h2, .ref h3, .ref h4, .int hr, .int to])), (h1, .inr (1, [.ref h5, .ref h6, .int (nI n), .int bar])), (h2, .inl (cI, 5, .inl (upd (ffl (fun j => nI (pg (j * 4 + 1)) - 48) w0 i) i (nI (pg (i * 4 + 1)) - 48)))), (h3, .inl (cI, 5, .inl (upd (ffl (fun _ => 0) k0 i) i 0))), (h4, .inl (cI, 5, .inl (ro (idn i ρ)))), (g0, .inr (4, [.ref g1, .int (nI ps)])), (g1, .inl (cI, 24, .inl (ro pg)))]) rfl dX5_beginAs_30 (fun H locs h => ?_)
        refine lv_aload_n hx hb dX5_beginAs_31 rfl (lv_at hl 0 rfl) ?_
        refine r_get C h fk5 0 3 rfl (by decide) mf_RX5_18 rfl dX5_beginAs_32 ?_
        refine lv_iload_n hx hb dX5_beginAs_35 rfl (lv_at hl 2 rfl) ?_
        refine lv_iload_n hx hb dX5_beginAs_36 rfl (lv_at hl 2 rfl) ?_
        refine r_st C h 4 rfl i (rfl) (by omega) (by decide) (g := ro (un (idn i ρ) i i)) (fun j _ => ro_un j) (ws' := [(h0, .inr (5, [.ref h1, .ref h2, .ref h3, .ref h4, .int hr, .int to])), (h1, .inr (1, [.ref h5, .ref h6, .int (nI n), .int bar])), (h2, .inl (cI, 5, .inl (upd (ffl (fun j => nI (pg (j * 4 + 1)) - 48) w0 i) i (nI (pg (i * 4 + 1)) - 48)))), (h3, .inl (cI, 5, .inl (upd (ffl (fun _ => 0) k0 i) i 0))), (h4, .inl (cI, 5, .inl (ro (un (idn i ρ) i i)))), (g0, .inr (4, [.ref g1, .int (nI ps)])), (g1, .inl (cI, 24, .inl (ro pg)))]) rfl dX5_beginAs_37 (fun H locs h => ?_)
        refine lv_iinc (v := nI (i + 1)) (lv' := [(2, .int (nI (i + 1))), (0, .ref h0), (1, .ref g0)]) hx hb dX5_beginAs_38 hl (k := 2) rfl (nI_1 i) (by decide) rfl (fun ls hl => ?_)
        refine lv_goto (tgt := 2) hx hb dX5_beginAs_41 (by decide) ?_
        have h := h.arr 2 (g := ffl (fun j => nI (pg (j * 4 + 1)) - 48) w0 (i + 1)) rfl (fun j _ => ffl_s (fun j => nI (pg (j * 4 + 1)) - 48) w0 i j) rfl
        have h := h.arr 3 (g := ffl (fun _ => 0) k0 (i + 1)) rfl (fun j _ => ffl_s (fun _ => 0) k0 i j) rfl
        have h := h.arr 4 (g := ro (idn (i + 1) ρ)) rfl (fun j _ => congrArg nI (idn_s i j)) rfl
        exact ih2  (i + 1) (by omega) (by first | assumption | omega) _ _ _ h (lv_sub hl [1, 2, 0] rfl)
  have h := h.arr 2 (g := ffl (fun j => nI (pg (j * 4 + 1)) - 48) w0 0) rfl (fun j _ => ffl_0 _ w0 j) rfl
  have h := h.arr 3 (g := ffl (fun _ => 0) k0 0) rfl (fun j _ => ffl_0 _ k0 j) rfl
  have h := h.arr 4 (g := ro (idn 0 ρ)) rfl (fun j _ => congrArg nI (idn_0 ρ j)) rfl
  exact L2 ((n - 0) + 1) 0 (by omega) (by first | assumption | omega) _ _ _ h (lv_sub hl [1, 2, 0] rfl)

set_option maxHeartbeats 4000000 in
set_option maxRecDepth 100000 in
theorem c_X6_isFull (l : Launch) (D : va_G) (cI cZ : ClassId) (kS vS : Nat) (os : Nat) (s1 : Nat) (s2 : Nat) (s3 : Nat) (q : Nat) (sh : Nat → Nat) (sr : Nat → Nat) (tb : Nat → Int32) (hq6 : q ≤ 6) : CI l yX6_isFull cX6_isFull 1 .boolean D cI cZ kS vS 0 0 0 0 [.ref os] [(os, .inr (6, [.ref s1, .ref s2, .ref s3, .int (nI q)])), (s1, .inl (cI, 6, .inl (ro sh))), (s2, .inl (cI, 6, .inl (ro sr))), (s3, .inl (cZ, 6, .inl tb))] (fun (r : Int32) (_ : Unit) => r = bI (decide (6 ≤ q))) (fun (_ : Unit) => [(os, .inr (6, [.ref s1, .ref s2, .ref s3, .int (nI q)])), (s1, .inl (cI, 6, .inl (ro sh))), (s2, .inl (cI, 6, .inl (ro sr))), (s3, .inl (cZ, 6, .inl tb))]) := by
  refine CI_intro (by decide) (Nat.le_of_ble_eq_true rfl) ?_
  intro p e s m args below meth c A Q ls C h hret hl
  have C : CX p s m args c cX6_isFull 1 RX6 D cI cZ kS vS A := C
  have hx := C.1.1
  have hb := C.1.2.1
  have hl : lv_has ls 1 [(0, .ref os)] := hl
  refine lv_aload_n hx hb dX6_isFull_0 rfl (lv_at hl 0 rfl) ?_
  refine r_get C h fk6 0 3 rfl (by decide) mf_RX6_22 rfl dX6_isFull_1 ?_
  refine lv_bipush (v := 6) hx hb dX6_isFull_4 (by decide) ?_
  refine lv_icmp_lt (tgt := 13) hx hb dX6_isFull_6 (by decide) (fun c_6 => ?_) (fun c_6 => ?_)
  · skip
    have c_6 := (jlt (a := q) (b := 6) (by omega) (by omega)).mp c_6
    refine lv_iconst (v := 0) hx hb dX6_isFull_13 (by decide) ?_
    exact hret (r := 0) () dX6_isFull_14 h (rfl) (by rw [decide_eq_false (by omega)]; rfl)
  · skip
    have c_6 : ¬ q < 6 := fun z => c_6 ((jlt (a := q) (b := 6) (by omega) (by omega)).mpr z)
    refine lv_iconst (v := 1) hx hb dX6_isFull_9 (by decide) ?_
    refine lv_goto (tgt := 14) hx hb dX6_isFull_10 (by decide) ?_
    exact hret (r := 1) () dX6_isFull_14 h (rfl) (by rw [decide_eq_true (by omega)]; rfl)

set_option maxHeartbeats 4000000 in
set_option maxRecDepth 100000 in
theorem c_X6_add (l : Launch) (D : va_G) (cI cZ : ClassId) (kS vS : Nat) (os : Nat) (s1 : Nat) (s2 : Nat) (s3 : Nat) (q : Nat) (sh : Nat → Nat) (sr : Nat → Nat) (tb : Nat → Int32) (hh : Nat) (rv : Nat) (tv : Int32) (hq6 : q ≤ 6) (hq0 : q < 6) (htv : tv = 0 ∨ tv = 1) : CI l yX6_add cX6_add 4 .int D cI cZ kS vS 1 20 0 0 [.ref os, .int (nI hh), .int (nI rv), .int tv] [(os, .inr (6, [.ref s1, .ref s2, .ref s3, .int (nI q)])), (s1, .inl (cI, 6, .inl (ro sh))), (s2, .inl (cI, 6, .inl (ro sr))), (s3, .inl (cZ, 6, .inl tb))] (fun (r : Int32) (_ : Unit) => r = nI (q + 1)) (fun (_ : Unit) => [(os, .inr (6, [.ref s1, .ref s2, .ref s3, .int (nI (q + 1))])), (s1, .inl (cI, 6, .inl (ro (un sh q hh)))), (s2, .inl (cI, 6, .inl (ro (un sr q rv)))), (s3, .inl (cZ, 6, .inl (upd tb q tv)))]) := by
  refine CI_intro (by decide) (Nat.le_of_ble_eq_true rfl) ?_
  intro p e s m args below meth c A Q ls C h hret hl
  have C : CX p s m args c cX6_add 4 RX6 D cI cZ kS vS A := C
  have hx := C.1.1
  have hb := C.1.2.1
  have hl : lv_has ls 4 [(0, .ref os), (1, .int (nI hh)), (2, .int (nI rv)), (3, .int tv)] := hl
  refine lv_aload_n hx hb dX6_add_0 rfl (lv_at hl 0 rfl) ?_
  refine k_Vi (rest := []) (as := []) (wc := [(os, .inr (6, [.ref s1, .ref s2, .ref s3, .int (nI q)])), (s1, .inl (cI, 6, .inl (ro sh))), (s2, .inl (cI, 6, .inl (ro sr))), (s3, .inl (cZ, 6, .inl tb))]) (wr := []) (isC := [0, 1, 2, 3]) (isR := []) (w2 := fun (_ : Unit) => [(os, .inr (6, [.ref s1, .ref s2, .ref s3, .int (nI q)])), (s1, .inl (cI, 6, .inl (ro sh))), (s2, .inl (cI, 6, .inl (ro sr))), (s3, .inl (cZ, 6, .inl tb))]) C h (c_X6_isFull l D cI cZ kS vS os s1 s2 s3 q sh sr tb hq6) wv_X6_isFull rfl ⟨rfl, rfl, rfl, rfl, by decide⟩ fk6 0 rfl ml_RX6_26 [0, 1, 2, 3] rfl (fun _ => rfl) ⟨Nat.le_of_ble_eq_true rfl, Nat.le_of_ble_eq_true rfl⟩ ⟨Nat.le_of_ble_eq_true rfl, Nat.le_of_ble_eq_true rfl⟩ (Nat.le_of_ble_eq_true rfl) hl rfl dX6_add_1 (fun r u H locs hq h => ?_)
  have h : HS D A s H locs [(os, .inr (6, [.ref s1, .ref s2, .ref s3, .int (nI q)])), (s1, .inl (cI, 6, .inl (ro sh))), (s2, .inl (cI, 6, .inl (ro sr))), (s3, .inl (cZ, 6, .inl tb))] := h
  have hq : r = bI (decide (6 ≤ q)) := hq
  have hq := hq.symm
  subst hq
  refine lv_if_ne (tgt := 47) hx hb dX6_add_4 (by decide) (fun c_4 => ?_) (fun c_4 => ?_)
  · skip
    exact absurd (bI_n0.mp c_4) (by rw [decide_eq_false (by omega)]; decide)
  · skip
    refine lv_aload_n hx hb dX6_add_7 rfl (lv_at hl 0 rfl) ?_
    refine r_get C h fk6 0 0 rfl (by decide) mf_RX6_9 rfl dX6_add_8 ?_
    refine lv_aload_n hx hb dX6_add_11 rfl (lv_at hl 0 rfl) ?_
    refine r_get C h fk6 0 3 rfl (by decide) mf_RX6_22 rfl dX6_add_12 ?_
    refine lv_iload_n hx hb dX6_add_15 rfl (lv_at hl 1 rfl) ?_
    refine r_st C h 1 rfl q (rfl) (by omega) (by decide) (g := ro (un sh q hh)) (fun j _ => ro_un j) (ws' := [(os, .inr (6, [.ref s1, .ref s2, .ref s3, .int (nI q)])), (s1, .inl (cI, 6, .inl (ro (un sh q hh)))), (s2, .inl (cI, 6, .inl (ro sr))), (s3, .inl (cZ, 6, .inl tb))]) rfl dX6_add_16 (fun H locs h => ?_)
    refine lv_aload_n hx hb dX6_add_17 rfl (lv_at hl 0 rfl) ?_
    refine r_get C h fk6 0 1 rfl (by decide) mf_RX6_15 rfl dX6_add_18 ?_
    refine lv_aload_n hx hb dX6_add_21 rfl (lv_at hl 0 rfl) ?_
    refine r_get C h fk6 0 3 rfl (by decide) mf_RX6_22 rfl dX6_add_22 ?_
    refine lv_iload_n hx hb dX6_add_25 rfl (lv_at hl 2 rfl) ?_
    refine r_st C h 2 rfl q (rfl) (by omega) (by decide) (g := ro (un sr q rv)) (fun j _ => ro_un j) (ws' := [(os, .inr (6, [.ref s1, .ref s2, .ref s3, .int (nI q)])), (s1, .inl (cI, 6, .inl (ro (un sh q hh)))), (s2, .inl (cI, 6, .inl (ro (un sr q rv)))), (s3, .inl (cZ, 6, .inl tb))]) rfl dX6_add_26 (fun H locs h => ?_)
    refine lv_aload_n hx hb dX6_add_27 rfl (lv_at hl 0 rfl) ?_
    refine r_get C h fk6 0 2 rfl (by decide) mf_RX6_18 rfl dX6_add_28 ?_
    refine lv_aload_n hx hb dX6_add_31 rfl (lv_at hl 0 rfl) ?_
    refine r_get C h fk6 0 3 rfl (by decide) mf_RX6_22 rfl dX6_add_32 ?_
    refine lv_iload_n hx hb dX6_add_35 rfl (lv_at hl 3 rfl) ?_
    refine r_zst C h 3 rfl q (rfl) (by omega) (by decide) (by rcases htv with z | z <;> rw [z] <;> rfl) (g := upd tb q tv) (fun _ _ => rfl) (ws' := [(os, .inr (6, [.ref s1, .ref s2, .ref s3, .int (nI q)])), (s1, .inl (cI, 6, .inl (ro (un sh q hh)))), (s2, .inl (cI, 6, .inl (ro (un sr q rv)))), (s3, .inl (cZ, 6, .inl (upd tb q tv)))]) rfl dX6_add_36 (fun H locs h => ?_)
    refine lv_aload_n hx hb dX6_add_37 rfl (lv_at hl 0 rfl) ?_
    refine lv_dup hx hb dX6_add_38 rfl ?_
    refine r_get C h fk6 0 3 rfl (by decide) mf_RX6_22 rfl dX6_add_39 ?_
    refine lv_iconst (v := 1) hx hb dX6_add_42 (by decide) ?_
    refine lv_iadd hx hb dX6_add_43 ?_
    refine r_top (y := nI (q + 1)) (nI_add q 1) ?_
    refine r_put C h fk6 0 3 rfl (by decide) mf_RX6_22 rfl (rfl) rfl (Nat.le_of_ble_eq_true rfl) (ws' := [(os, .inr (6, [.ref s1, .ref s2, .ref s3, .int (nI (q + 1))])), (s1, .inl (cI, 6, .inl (ro (un sh q hh)))), (s2, .inl (cI, 6, .inl (ro (un sr q rv)))), (s3, .inl (cZ, 6, .inl (upd tb q tv)))]) rfl dX6_add_44 (fun H locs h => ?_)
    refine lv_aload_n hx hb dX6_add_47 rfl (lv_at hl 0 rfl) ?_
    refine r_get C h fk6 0 3 rfl (by decide) mf_RX6_22 rfl dX6_add_48 ?_
    exact hret (r := nI (q + 1)) () dX6_add_51 h (rfl) (rfl)

set_option maxHeartbeats 4000000 in
set_option maxRecDepth 100000 in
theorem c_X6_clear (l : Launch) (D : va_G) (cI cZ : ClassId) (kS vS : Nat) (os : Nat) (s1 : Nat) (s2 : Nat) (s3 : Nat) (q : Nat) (sh : Nat → Nat) (sr : Nat → Nat) (tb : Nat → Int32)  : CI l yX6_clear cX6_clear 2 .int D cI cZ kS vS 0 0 0 0 [.ref os] [(os, .inr (6, [.ref s1, .ref s2, .ref s3, .int (nI q)])), (s1, .inl (cI, 6, .inl (ro sh))), (s2, .inl (cI, 6, .inl (ro sr))), (s3, .inl (cZ, 6, .inl tb))] (fun (r : Int32) (_ : Unit) => r = nI q) (fun (_ : Unit) => [(os, .inr (6, [.ref s1, .ref s2, .ref s3, .int 0])), (s1, .inl (cI, 6, .inl (ro sh))), (s2, .inl (cI, 6, .inl (ro sr))), (s3, .inl (cZ, 6, .inl tb))]) := by
  refine CI_intro (by decide) (Nat.le_of_ble_eq_true rfl) ?_
  intro p e s m args below meth c A Q ls C h hret hl
  have C : CX p s m args c cX6_clear 2 RX6 D cI cZ kS vS A := C
  have hx := C.1.1
  have hb := C.1.2.1
  have hl : lv_has ls 2 [(0, .ref os)] := hl
  refine lv_aload_n hx hb dX6_clear_0 rfl (lv_at hl 0 rfl) ?_
  refine r_get C h fk6 0 3 rfl (by decide) mf_RX6_22 rfl dX6_clear_1 ?_
  refine lv_istore_n (lv' := [(1, .int (nI q)), (0, .ref os)]) hx hb dX6_clear_4 rfl hl (by decide) rfl (fun ls hl => ?_)
  refine lv_aload_n hx hb dX6_clear_5 rfl (lv_at hl 1 rfl) ?_
  refine lv_iconst (v := 0) hx hb dX6_clear_6 (by decide) ?_
  refine r_put C h fk6 0 3 rfl (by decide) mf_RX6_22 rfl (rfl) rfl (Nat.le_of_ble_eq_true rfl) (ws' := [(os, .inr (6, [.ref s1, .ref s2, .ref s3, .int 0])), (s1, .inl (cI, 6, .inl (ro sh))), (s2, .inl (cI, 6, .inl (ro sr))), (s3, .inl (cZ, 6, .inl tb))]) rfl dX6_clear_7 (fun H locs h => ?_)
  refine lv_iload_n hx hb dX6_clear_10 rfl (lv_at hl 0 rfl) ?_
  exact hret (r := nI q) () dX6_clear_11 h (rfl) (rfl)

set_option maxHeartbeats 4000000 in
set_option maxRecDepth 100000 in
theorem c_X6_copyFrom (l : Launch) (D : va_G) (cI cZ : ClassId) (kS vS : Nat) (os : Nat) (s1 : Nat) (s2 : Nat) (s3 : Nat) (ov : Nat) (v1 : Nat) (v2 : Nat) (v3 : Nat) (qv : Int32) (q2 : Int32) (f1 : Nat → Int32) (f2 : Nat → Int32) (f3 : Nat → Int32) (sh : Nat → Nat) (sr : Nat → Nat) (tb : Nat → Int32) (htb : ∀ j, j < 6 → tb j = 0 ∨ tb j = 1) : CV l yX6_copyFrom cX6_copyFrom 3 D cI cZ kS vS 0 0 0 0 [.ref os, .ref ov] [(os, .inr (6, [.ref s1, .ref s2, .ref s3, .int qv])), (s1, .inl (cI, 6, .inl f1)), (s2, .inl (cI, 6, .inl f2)), (s3, .inl (cZ, 6, .inl f3)), (ov, .inr (6, [.ref v1, .ref v2, .ref v3, .int q2])), (v1, .inl (cI, 6, .inl (ro sh))), (v2, .inl (cI, 6, .inl (ro sr))), (v3, .inl (cZ, 6, .inl tb))] (fun (_ : Unit) => True) (fun (_ : Unit) => [(os, .inr (6, [.ref s1, .ref s2, .ref s3, .int q2])), (s1, .inl (cI, 6, .inl (ro sh))), (s2, .inl (cI, 6, .inl (ro sr))), (s3, .inl (cZ, 6, .inl tb)), (ov, .inr (6, [.ref v1, .ref v2, .ref v3, .int q2])), (v1, .inl (cI, 6, .inl (ro sh))), (v2, .inl (cI, 6, .inl (ro sr))), (v3, .inl (cZ, 6, .inl tb))]) := by
  refine CV_intro (by decide) (Nat.le_of_ble_eq_true rfl) ?_
  intro p e s m args below meth c A Q ls C hini h hret hl
  have C : CX p s m args c cX6_copyFrom 3 RX6 D cI cZ kS vS A := C
  have hx := C.1.1
  have hb := C.1.2.1
  have hl : lv_has ls 3 [(0, .ref os), (1, .ref ov)] := hl
  refine lv_iconst (v := 0) hx hb dX6_copyFrom_0 (by decide) ?_
  refine lv_istore_n (lv' := [(2, .int 0), (0, .ref os), (1, .ref ov)]) hx hb dX6_copyFrom_1 rfl hl (by decide) rfl (fun ls hl => ?_)
  have L2 : ∀ (fu : Nat) (i : Nat), (6 - i) < fu → (hi : i ≤ 6) → ∀ (H : Heap) (locs : List Loc) (ls : Array Slot), HS D A s H locs [(os, .inr (6, [.ref s1, .ref s2, .ref s3, .int qv])), (s1, .inl (cI, 6, .inl (ffl (ro sh) f1 i))), (s2, .inl (cI, 6, .inl (ffl (ro sr) f2 i))), (s3, .inl (cZ, 6, .inl (ffl tb f3 i))), (ov, .inr (6, [.ref v1, .ref v2, .ref v3, .int q2])), (v1, .inl (cI, 6, .inl (ro sh))), (v2, .inl (cI, 6, .inl (ro sr))), (v3, .inl (cZ, 6, .inl tb))] → lv_has ls 3 [(0, .ref os), (1, .ref ov), (2, .int (nI i))] → W p l e (rmO 0 0 0 0) s m args below meth c H locs 0 0 Q (F0 m 2 ls []) := by
    intro fu
    induction fu with
    | zero => intro i hfu; exact absurd hfu (Nat.not_lt_zero _)
    | succ fu ih2 =>
      intro i hfu hi H locs ls h hl
      refine lv_iload_n hx hb dX6_copyFrom_2 rfl (lv_at hl 2 rfl) ?_
      refine lv_bipush (v := 6) hx hb dX6_copyFrom_3 (by decide) ?_
      refine lv_icmp_ge (tgt := 50) hx hb dX6_copyFrom_5 (by decide) (fun c_5 => ?_) (fun c_5 => ?_)
      · skip
        have c_5 := (jle (a := 6) (b := i) (by omega) (by omega)).mp c_5
        obtain rfl : 6 = i := by omega
        refine lv_aload_n hx hb dX6_copyFrom_50 rfl (lv_at hl 0 rfl) ?_
        refine lv_aload_n hx hb dX6_copyFrom_51 rfl (lv_at hl 1 rfl) ?_
        refine r_get C h fk6 4 3 rfl (by decide) mf_RX6_22 rfl dX6_copyFrom_52 ?_
        refine r_put C h fk6 0 3 rfl (by decide) mf_RX6_22 rfl (rfl) rfl (Nat.le_of_ble_eq_true rfl) (ws' := [(os, .inr (6, [.ref s1, .ref s2, .ref s3, .int q2])), (s1, .inl (cI, 6, .inl (ffl (ro sh) f1 6))), (s2, .inl (cI, 6, .inl (ffl (ro sr) f2 6))), (s3, .inl (cZ, 6, .inl (ffl tb f3 6))), (ov, .inr (6, [.ref v1, .ref v2, .ref v3, .int q2])), (v1, .inl (cI, 6, .inl (ro sh))), (v2, .inl (cI, 6, .inl (ro sr))), (v3, .inl (cZ, 6, .inl tb))]) rfl dX6_copyFrom_55 (fun H locs h => ?_)
        have h := h.arr 1 (g := ro sh) rfl (fun j hj => ffl_in hj) rfl
        have h := h.arr 2 (g := ro sr) rfl (fun j hj => ffl_in hj) rfl
        have h := h.arr 3 (g := tb) rfl (fun j hj => ffl_in hj) rfl
        exact hret () dX6_copyFrom_58 h (trivial)
      · skip
        have c_5 : ¬ 6 ≤ i := fun z => c_5 ((jle (a := 6) (b := i) (by omega) (by omega)).mpr z)
        have hlt6 : i < 6 := by omega
        refine lv_aload_n hx hb dX6_copyFrom_8 rfl (lv_at hl 0 rfl) ?_
        refine r_get C h fk6 0 0 rfl (by decide) mf_RX6_9 rfl dX6_copyFrom_9 ?_
        refine lv_iload_n hx hb dX6_copyFrom_12 rfl (lv_at hl 2 rfl) ?_
        refine lv_aload_n hx hb dX6_copyFrom_13 rfl (lv_at hl 1 rfl) ?_
        refine r_get C h fk6 4 0 rfl (by decide) mf_RX6_9 rfl dX6_copyFrom_14 ?_
        refine lv_iload_n hx hb dX6_copyFrom_17 rfl (lv_at hl 2 rfl) ?_
        refine r_ld C h 5 rfl i (rfl) (by omega) (by decide) (x := nI (sh i)) (rfl) dX6_copyFrom_18 ?_
        refine r_st C h 1 rfl i (rfl) (by omega) (by decide) (g := upd (ffl (ro sh) f1 i) i (nI (sh i))) (fun _ _ => rfl) (ws' := [(os, .inr (6, [.ref s1, .ref s2, .ref s3, .int qv])), (s1, .inl (cI, 6, .inl (upd (ffl (ro sh) f1 i) i (nI (sh i))))), (s2, .inl (cI, 6, .inl (ffl (ro sr) f2 i))), (s3, .inl (cZ, 6, .inl (ffl tb f3 i))), (ov, .inr (6, [.ref v1, .ref v2, .ref v3, .int q2])), (v1, .inl (cI, 6, .inl (ro sh))), (v2, .inl (cI, 6, .inl (ro sr))), (v3, .inl (cZ, 6, .inl tb))]) rfl dX6_copyFrom_19 (fun H locs h => ?_)
        refine lv_aload_n hx hb dX6_copyFrom_20 rfl (lv_at hl 0 rfl) ?_
        refine r_get C h fk6 0 1 rfl (by decide) mf_RX6_15 rfl dX6_copyFrom_21 ?_
        refine lv_iload_n hx hb dX6_copyFrom_24 rfl (lv_at hl 2 rfl) ?_
        refine lv_aload_n hx hb dX6_copyFrom_25 rfl (lv_at hl 1 rfl) ?_
        refine r_get C h fk6 4 1 rfl (by decide) mf_RX6_15 rfl dX6_copyFrom_26 ?_
        refine lv_iload_n hx hb dX6_copyFrom_29 rfl (lv_at hl 2 rfl) ?_
        refine r_ld C h 6 rfl i (rfl) (by omega) (by decide) (x := nI (sr i)) (rfl) dX6_copyFrom_30 ?_
        refine r_st C h 2 rfl i (rfl) (by omega) (by decide) (g := upd (ffl (ro sr) f2 i) i (nI (sr i))) (fun _ _ => rfl) (ws' := [(os, .inr (6, [.ref s1, .ref s2, .ref s3, .int qv])), (s1, .inl (cI, 6, .inl (upd (ffl (ro sh) f1 i) i (nI (sh i))))), (s2, .inl (cI, 6, .inl (upd (ffl (ro sr) f2 i) i (nI (sr i))))), (s3, .inl (cZ, 6, .inl (ffl tb f3 i))), (ov, .inr (6, [.ref v1, .ref v2, .ref v3, .int q2])), (v1, .inl (cI, 6, .inl (ro sh))), (v2, .inl (cI, 6, .inl (ro sr))), (v3, .inl (cZ, 6, .inl tb))]) rfl dX6_copyFrom_31 (fun H locs h => ?_)
        refine lv_aload_n hx hb dX6_copyFrom_32 rfl (lv_at hl 0 rfl) ?_
        refine r_get C h fk6 0 2 rfl (by decide) mf_RX6_18 rfl dX6_copyFrom_33 ?_
        refine lv_iload_n hx hb dX6_copyFrom_36 rfl (lv_at hl 2 rfl) ?_
        refine lv_aload_n hx hb dX6_copyFrom_37 rfl (lv_at hl 1 rfl) ?_
        refine r_get C h fk6 4 2 rfl (by decide) mf_RX6_18 rfl dX6_copyFrom_38 ?_
        refine lv_iload_n hx hb dX6_copyFrom_41 rfl (lv_at hl 2 rfl) ?_
        refine r_zld C h 7 rfl i (rfl) (by omega) (by decide) (x := tb i) (rfl) dX6_copyFrom_42 ?_
        refine r_zst C h 3 rfl i (rfl) (by omega) (by decide) (by rcases htb i hlt6 with z | z <;> rw [z] <;> rfl) (g := upd (ffl tb f3 i) i (tb i)) (fun _ _ => rfl) (ws' := [(os, .inr (6, [.ref s1, .ref s2, .ref s3, .int qv])), (s1, .inl (cI, 6, .inl (upd (ffl (ro sh) f1 i) i (nI (sh i))))), (s2, .inl (cI, 6, .inl (upd (ffl (ro sr) f2 i) i (nI (sr i))))), (s3, .inl (cZ, 6, .inl (upd (ffl tb f3 i) i (tb i)))), (ov, .inr (6, [.ref v1, .ref v2, .ref v3, .int q2])), (v1, .inl (cI, 6, .inl (ro sh))), (v2, .inl (cI, 6, .inl (ro sr))), (v3, .inl (cZ, 6, .inl tb))]) rfl dX6_copyFrom_43 (fun H locs h => ?_)
        refine lv_iinc (v := nI (i + 1)) (lv' := [(2, .int (nI (i + 1))), (0, .ref os), (1, .ref ov)]) hx hb dX6_copyFrom_44 hl (k := 2) rfl (nI_1 i) (by decide) rfl (fun ls hl => ?_)
        refine lv_goto (tgt := 2) hx hb dX6_copyFrom_47 (by decide) ?_
        have h := h.arr 1 (g := ffl (ro sh) f1 (i + 1)) rfl (fun j _ => ffl_s (ro sh) f1 i j) rfl
        have h := h.arr 2 (g := ffl (ro sr) f2 (i + 1)) rfl (fun j _ => ffl_s (ro sr) f2 i j) rfl
        have h := h.arr 3 (g := ffl tb f3 (i + 1)) rfl (fun j _ => ffl_s tb f3 i j) rfl
        exact ih2  (i + 1) (by omega) (by first | assumption | omega) _ _ _ h (lv_sub hl [1, 2, 0] rfl)
  have h := h.arr 1 (g := ffl (ro sh) f1 0) rfl (fun j _ => ffl_0 _ f1 j) rfl
  have h := h.arr 2 (g := ffl (ro sr) f2 0) rfl (fun j _ => ffl_0 _ f2 j) rfl
  have h := h.arr 3 (g := ffl tb f3 0) rfl (fun j _ => ffl_0 _ f3 j) rfl
  exact L2 ((6 - 0) + 1) 0 (by omega) (by first | assumption | omega) _ _ _ h (lv_sub hl [1, 2, 0] rfl)

