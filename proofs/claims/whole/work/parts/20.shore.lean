set_option maxHeartbeats 4000000 in
set_option maxRecDepth 100000 in
theorem c_X1_hasRiver (l : Launch) (D : va_G) (cI cZ : ClassId) (kS vS : Nat) (h0 : Nat) (h5 : Nat) (h6 : Nat) (nv : Int32) (bar : Int32) (x : Int32)  : CI l yX1_hasRiver cX1_hasRiver 2 .boolean D cI cZ kS vS 0 0 0 0 [.ref h0, .int x] [(h0, .inr (1, [.ref h5, .ref h6, .int nv, .int bar]))] (fun (r : Int32) (_ : Unit) => r = bI (hin nv x)) (fun (_ : Unit) => [(h0, .inr (1, [.ref h5, .ref h6, .int nv, .int bar]))]) := by
  refine CI_intro (by decide) (Nat.le_of_ble_eq_true rfl) ?_
  intro p e s m args below meth c A Q ls C h hret hl
  have C : CX p s m args c cX1_hasRiver 2 RX1 D cI cZ kS vS A := C
  have hx := C.1.1
  have hb := C.1.2.1
  have hl : lv_has ls 2 [(0, .ref h0), (1, .int x)] := hl
  refine lv_iload_n hx hb dX1_hasRiver_0 rfl (lv_at hl 1 rfl) ?_
  refine lv_if_lt (tgt := 16) hx hb dX1_hasRiver_1 (by decide) (fun c_1 => ?_) (fun c_1 => ?_)
  · skip
    refine lv_iconst (v := 0) hx hb dX1_hasRiver_16 (by decide) ?_
    exact hret (r := 0) () dX1_hasRiver_17 h (rfl) (by simp [hin, bI, c_1])
  · skip
    refine lv_iload_n hx hb dX1_hasRiver_4 rfl (lv_at hl 1 rfl) ?_
    refine lv_aload_n hx hb dX1_hasRiver_5 rfl (lv_at hl 0 rfl) ?_
    refine r_get C h fk1 0 2 rfl (by decide) mf_RX1_30 rfl dX1_hasRiver_6 ?_
    refine lv_icmp_ge (tgt := 16) hx hb dX1_hasRiver_9 (by decide) (fun c_9 => ?_) (fun c_9 => ?_)
    · skip
      refine lv_iconst (v := 0) hx hb dX1_hasRiver_16 (by decide) ?_
      exact hret (r := 0) () dX1_hasRiver_17 h (rfl) (by simp [hin, bI, c_1, c_9])
    · skip
      refine lv_iconst (v := 1) hx hb dX1_hasRiver_12 (by decide) ?_
      refine lv_goto (tgt := 17) hx hb dX1_hasRiver_13 (by decide) ?_
      exact hret (r := 1) () dX1_hasRiver_17 h (rfl) (by simp [hin, bI, c_1, c_9])

set_option maxHeartbeats 4000000 in
set_option maxRecDepth 100000 in
theorem c_X1_isRead (l : Launch) (D : va_G) (cI cZ : ClassId) (kS vS : Nat) (h0 : Nat) (h5 : Nat) (h6 : Nat) (nv : Int32) (bar : Int32)  : CI l yX1_isRead cX1_isRead 1 .boolean D cI cZ kS vS 0 0 0 0 [.ref h0] [(h0, .inr (1, [.ref h5, .ref h6, .int nv, .int bar]))] (fun (r : Int32) (_ : Unit) => r = bI (!decide (nv ≤ 0))) (fun (_ : Unit) => [(h0, .inr (1, [.ref h5, .ref h6, .int nv, .int bar]))]) := by
  refine CI_intro (by decide) (Nat.le_of_ble_eq_true rfl) ?_
  intro p e s m args below meth c A Q ls C h hret hl
  have C : CX p s m args c cX1_isRead 1 RX1 D cI cZ kS vS A := C
  have hx := C.1.1
  have hb := C.1.2.1
  have hl : lv_has ls 1 [(0, .ref h0)] := hl
  refine lv_aload_n hx hb dX1_isRead_0 rfl (lv_at hl 0 rfl) ?_
  refine r_get C h fk1 0 2 rfl (by decide) mf_RX1_30 rfl dX1_isRead_1 ?_
  refine lv_if_le (tgt := 11) hx hb dX1_isRead_4 (by decide) (fun c_4 => ?_) (fun c_4 => ?_)
  · skip
    refine lv_iconst (v := 0) hx hb dX1_isRead_11 (by decide) ?_
    exact hret (r := 0) () dX1_isRead_12 h (rfl) (by simp [bI, c_4])
  · skip
    refine lv_iconst (v := 1) hx hb dX1_isRead_7 (by decide) ?_
    refine lv_goto (tgt := 12) hx hb dX1_isRead_8 (by decide) ?_
    exact hret (r := 1) () dX1_isRead_12 h (rfl) (by simp [bI, c_4])

set_option maxHeartbeats 4000000 in
set_option maxRecDepth 100000 in
theorem c_X5_sumOfRivers (l : Launch) (D : va_G) (cI cZ : ClassId) (kS vS : Nat) (h0 : Nat) (h1 : Nat) (h2 : Nat) (h3 : Nat) (h4 : Nat) (h5 : Nat) (h6 : Nat) (ha : Nat) (n : Nat) (bar : Int32) (hr : Int32) (to : Int32) (w : Nat → Int32) (hn5 : n ≤ 5) : CI l yX5_sumOfRivers cX5_sumOfRivers 4 .int D cI cZ kS vS 0 0 0 0 [.ref h0, .ref ha] [(h0, .inr (5, [.ref h1, .ref h2, .ref h3, .ref h4, .int hr, .int to])), (h1, .inr (1, [.ref h5, .ref h6, .int (nI n), .int bar])), (ha, .inl (cI, 5, .inl w))] (fun (r : Int32) (_ : Unit) => r = hsum w n) (fun (_ : Unit) => [(h0, .inr (5, [.ref h1, .ref h2, .ref h3, .ref h4, .int hr, .int to])), (h1, .inr (1, [.ref h5, .ref h6, .int (nI n), .int bar])), (ha, .inl (cI, 5, .inl w))]) := by
  refine CI_intro (by decide) (Nat.le_of_ble_eq_true rfl) ?_
  intro p e s m args below meth c A Q ls C h hret hl
  have C : CX p s m args c cX5_sumOfRivers 4 RX5 D cI cZ kS vS A := C
  have hx := C.1.1
  have hb := C.1.2.1
  have hl : lv_has ls 4 [(0, .ref h0), (1, .ref ha)] := hl
  refine lv_iconst (v := 0) hx hb dX5_sumOfRivers_0 (by decide) ?_
  refine lv_istore_n (lv' := [(2, .int 0), (0, .ref h0), (1, .ref ha)]) hx hb dX5_sumOfRivers_1 rfl hl (by decide) rfl (fun ls hl => ?_)
  refine lv_iconst (v := 0) hx hb dX5_sumOfRivers_2 (by decide) ?_
  refine lv_istore_n (lv' := [(3, .int 0), (2, .int 0), (0, .ref h0), (1, .ref ha)]) hx hb dX5_sumOfRivers_3 rfl hl (by decide) rfl (fun ls hl => ?_)
  have L4 : ∀ (fu : Nat) (i : Nat), (n - i) < fu → (hi : i ≤ n) → ∀ (H : Heap) (locs : List Loc) (ls : Array Slot), HS D A s H locs [(h0, .inr (5, [.ref h1, .ref h2, .ref h3, .ref h4, .int hr, .int to])), (h1, .inr (1, [.ref h5, .ref h6, .int (nI n), .int bar])), (ha, .inl (cI, 5, .inl w))] → lv_has ls 4 [(0, .ref h0), (1, .ref ha), (2, .int (hsum w i)), (3, .int (nI i))] → W p l e (rmO 0 0 0 0) s m args below meth c H locs 0 0 Q (F0 m 4 ls []) := by
    intro fu
    induction fu with
    | zero => intro i hfu; exact absurd hfu (Nat.not_lt_zero _)
    | succ fu ih4 =>
      intro i hfu hi H locs ls h hl
      refine lv_iload_n hx hb dX5_sumOfRivers_4 rfl (lv_at hl 3 rfl) ?_
      refine lv_aload_n hx hb dX5_sumOfRivers_5 rfl (lv_at hl 0 rfl) ?_
      refine r_get C h fk5 0 0 rfl (by decide) mf_RX5_25 rfl dX5_sumOfRivers_6 ?_
      refine r_getN C h fk1 1 2 6 rfl (by decide) rfl rfl dX5_sumOfRivers_9 ?_
      refine lv_icmp_ge (tgt := 27) hx hb dX5_sumOfRivers_12 (by decide) (fun c_12 => ?_) (fun c_12 => ?_)
      · skip
        have c_12 := (jle (a := n) (b := i) (by omega) (by omega)).mp c_12
        obtain rfl : n = i := by omega
        refine lv_iload_n hx hb dX5_sumOfRivers_27 rfl (lv_at hl 2 rfl) ?_
        exact hret (r := hsum w n) () dX5_sumOfRivers_28 h (rfl) (rfl)
      · skip
        have c_12 : ¬ n ≤ i := fun z => c_12 ((jle (a := n) (b := i) (by omega) (by omega)).mpr z)
        have hlt : i < n := by omega
        refine lv_iload_n hx hb dX5_sumOfRivers_15 rfl (lv_at hl 2 rfl) ?_
        refine lv_aload_n hx hb dX5_sumOfRivers_16 rfl (lv_at hl 1 rfl) ?_
        refine lv_iload_n hx hb dX5_sumOfRivers_17 rfl (lv_at hl 3 rfl) ?_
        refine r_ld C h 2 rfl i (rfl) (by omega) (by decide) (x := w i) (rfl) dX5_sumOfRivers_18 ?_
        refine lv_iadd hx hb dX5_sumOfRivers_19 ?_
        refine r_top (y := hsum w (i + 1)) (rfl) ?_
        refine lv_istore_n (lv' := [(2, .int (hsum w (i + 1))), (0, .ref h0), (1, .ref ha), (3, .int (nI i))]) hx hb dX5_sumOfRivers_20 rfl hl (by decide) rfl (fun ls hl => ?_)
        refine lv_iinc (v := nI (i + 1)) (lv' := [(3, .int (nI (i + 1))), (2, .int (hsum w (i + 1))), (0, .ref h0), (1, .ref ha)]) hx hb dX5_sumOfRivers_21 hl (k := 3) rfl (nI_1 i) (by decide) rfl (fun ls hl => ?_)
        refine lv_goto (tgt := 4) hx hb dX5_sumOfRivers_24 (by decide) ?_
        exact ih4  (i + 1) (by omega) (by first | assumption | omega) _ _ _ h (lv_sub hl [2, 3, 1, 0] rfl)
  exact L4 ((n - 0) + 1) 0 (by omega) (by first | assumption | omega) _ _ _ h (lv_sub hl [2, 3, 1, 0] rfl)

set_option maxHeartbeats 4000000 in
set_option maxRecDepth 100000 in
theorem c_X5_waterInAll (l : Launch) (D : va_G) (cI cZ : ClassId) (kS vS : Nat) (h0 : Nat) (h1 : Nat) (h2 : Nat) (h3 : Nat) (h4 : Nat) (h5 : Nat) (h6 : Nat) (n : Nat) (bar : Int32) (hr : Int32) (to : Int32) (w : Nat → Int32) (hn5 : n ≤ 5) : CI l yX5_waterInAll cX5_waterInAll 1 .int D cI cZ kS vS 1 23 0 0 [.ref h0] [(h0, .inr (5, [.ref h1, .ref h2, .ref h3, .ref h4, .int hr, .int to])), (h1, .inr (1, [.ref h5, .ref h6, .int (nI n), .int bar])), (h2, .inl (cI, 5, .inl w))] (fun (r : Int32) (_ : Unit) => r = hsum w n) (fun (_ : Unit) => [(h0, .inr (5, [.ref h1, .ref h2, .ref h3, .ref h4, .int hr, .int to])), (h1, .inr (1, [.ref h5, .ref h6, .int (nI n), .int bar])), (h2, .inl (cI, 5, .inl w))]) := by
  refine CI_intro (by decide) (Nat.le_of_ble_eq_true rfl) ?_
  intro p e s m args below meth c A Q ls C h hret hl
  have C : CX p s m args c cX5_waterInAll 1 RX5 D cI cZ kS vS A := C
  have hx := C.1.1
  have hb := C.1.2.1
  have hl : lv_has ls 1 [(0, .ref h0)] := hl
  refine lv_aload_n hx hb dX5_waterInAll_0 rfl (lv_at hl 0 rfl) ?_
  refine lv_aload_n hx hb dX5_waterInAll_1 rfl (lv_at hl 0 rfl) ?_
  refine r_get C h fk5 0 1 rfl (by decide) mf_RX5_9 rfl dX5_waterInAll_2 ?_
  refine k_Vi (rest := []) (as := [.ref h2]) (wc := [(h0, .inr (5, [.ref h1, .ref h2, .ref h3, .ref h4, .int hr, .int to])), (h1, .inr (1, [.ref h5, .ref h6, .int (nI n), .int bar])), (h2, .inl (cI, 5, .inl w))]) (wr := []) (isC := [0, 1, 2]) (isR := []) (w2 := fun (_ : Unit) => [(h0, .inr (5, [.ref h1, .ref h2, .ref h3, .ref h4, .int hr, .int to])), (h1, .inr (1, [.ref h5, .ref h6, .int (nI n), .int bar])), (h2, .inl (cI, 5, .inl w))]) C h (c_X5_sumOfRivers l D cI cZ kS vS h0 h1 h2 h3 h4 h5 h6 h2 n bar hr to w hn5) wv_X5_sumOfRivers rfl ⟨rfl, rfl, rfl, rfl, by decide⟩ fk5 0 rfl ml_RX5_49 [0, 1, 2] rfl (fun _ => rfl) ⟨Nat.le_of_ble_eq_true rfl, Nat.le_of_ble_eq_true rfl⟩ ⟨Nat.le_of_ble_eq_true rfl, Nat.le_of_ble_eq_true rfl⟩ (Nat.le_of_ble_eq_true rfl) hl rfl dX5_waterInAll_5 (fun r u H locs hq h => ?_)
  have h : HS D A s H locs [(h0, .inr (5, [.ref h1, .ref h2, .ref h3, .ref h4, .int hr, .int to])), (h1, .inr (1, [.ref h5, .ref h6, .int (nI n), .int bar])), (h2, .inl (cI, 5, .inl w))] := h
  have hq : r = hsum w n := hq
  have hq := hq.symm
  subst hq
  exact hret (r := hsum w n) () dX5_waterInAll_8 h (rfl) (rfl)

set_option maxHeartbeats 4000000 in
set_option maxRecDepth 100000 in
theorem c_X5_tookInAll (l : Launch) (D : va_G) (cI cZ : ClassId) (kS vS : Nat) (h0 : Nat) (h1 : Nat) (h2 : Nat) (h3 : Nat) (h4 : Nat) (h5 : Nat) (h6 : Nat) (n : Nat) (bar : Int32) (hr : Int32) (to : Int32) (tk : Nat → Int32) (hn5 : n ≤ 5) : CI l yX5_tookInAll cX5_tookInAll 1 .int D cI cZ kS vS 1 23 0 0 [.ref h0] [(h0, .inr (5, [.ref h1, .ref h2, .ref h3, .ref h4, .int hr, .int to])), (h1, .inr (1, [.ref h5, .ref h6, .int (nI n), .int bar])), (h3, .inl (cI, 5, .inl tk))] (fun (r : Int32) (_ : Unit) => r = hsum tk n) (fun (_ : Unit) => [(h0, .inr (5, [.ref h1, .ref h2, .ref h3, .ref h4, .int hr, .int to])), (h1, .inr (1, [.ref h5, .ref h6, .int (nI n), .int bar])), (h3, .inl (cI, 5, .inl tk))]) := by
  refine CI_intro (by decide) (Nat.le_of_ble_eq_true rfl) ?_
  intro p e s m args below meth c A Q ls C h hret hl
  have C : CX p s m args c cX5_tookInAll 1 RX5 D cI cZ kS vS A := C
  have hx := C.1.1
  have hb := C.1.2.1
  have hl : lv_has ls 1 [(0, .ref h0)] := hl
  refine lv_aload_n hx hb dX5_tookInAll_0 rfl (lv_at hl 0 rfl) ?_
  refine lv_aload_n hx hb dX5_tookInAll_1 rfl (lv_at hl 0 rfl) ?_
  refine r_get C h fk5 0 2 rfl (by decide) mf_RX5_15 rfl dX5_tookInAll_2 ?_
  refine k_Vi (rest := []) (as := [.ref h3]) (wc := [(h0, .inr (5, [.ref h1, .ref h2, .ref h3, .ref h4, .int hr, .int to])), (h1, .inr (1, [.ref h5, .ref h6, .int (nI n), .int bar])), (h3, .inl (cI, 5, .inl tk))]) (wr := []) (isC := [0, 1, 2]) (isR := []) (w2 := fun (_ : Unit) => [(h0, .inr (5, [.ref h1, .ref h2, .ref h3, .ref h4, .int hr, .int to])), (h1, .inr (1, [.ref h5, .ref h6, .int (nI n), .int bar])), (h3, .inl (cI, 5, .inl tk))]) C h (c_X5_sumOfRivers l D cI cZ kS vS h0 h1 h2 h3 h4 h5 h6 h3 n bar hr to tk hn5) wv_X5_sumOfRivers rfl ⟨rfl, rfl, rfl, rfl, by decide⟩ fk5 0 rfl ml_RX5_49 [0, 1, 2] rfl (fun _ => rfl) ⟨Nat.le_of_ble_eq_true rfl, Nat.le_of_ble_eq_true rfl⟩ ⟨Nat.le_of_ble_eq_true rfl, Nat.le_of_ble_eq_true rfl⟩ (Nat.le_of_ble_eq_true rfl) hl rfl dX5_tookInAll_5 (fun r u H locs hq h => ?_)
  have h : HS D A s H locs [(h0, .inr (5, [.ref h1, .ref h2, .ref h3, .ref h4, .int hr, .int to])), (h1, .inr (1, [.ref h5, .ref h6, .int (nI n), .int bar])), (h3, .inl (cI, 5, .inl tk))] := h
  have hq : r = hsum tk n := hq
  have hq := hq.symm
  subst hq
  exact hret (r := hsum tk n) () dX5_tookInAll_8 h (rfl) (rfl)

set_option maxHeartbeats 4000000 in
set_option maxRecDepth 100000 in
theorem c_X5_addWater (l : Launch) (D : va_G) (cI cZ : ClassId) (kS vS : Nat) (h0 : Nat) (h1 : Nat) (h2 : Nat) (h3 : Nat) (h4 : Nat) (hr : Int32) (to : Int32) (w : Nat → Int32) (k : Nat) (x : Int32) (hk : k < 5) : CI l yX5_addWater cX5_addWater 3 .int D cI cZ kS vS 1 15 0 0 [.ref h0, .int (nI k), .int x] [(h0, .inr (5, [.ref h1, .ref h2, .ref h3, .ref h4, .int hr, .int to])), (h2, .inl (cI, 5, .inl w))] (fun (r : Int32) (_ : Unit) => r = hcap (w k + x)) (fun (_ : Unit) => [(h0, .inr (5, [.ref h1, .ref h2, .ref h3, .ref h4, .int hr, .int to])), (h2, .inl (cI, 5, .inl (upd w k (hcap (w k + x)))))]) := by
  refine CI_intro (by decide) (Nat.le_of_ble_eq_true rfl) ?_
  intro p e s m args below meth c A Q ls C h hret hl
  have C : CX p s m args c cX5_addWater 3 RX5 D cI cZ kS vS A := C
  have hx := C.1.1
  have hb := C.1.2.1
  have hl : lv_has ls 3 [(0, .ref h0), (1, .int (nI k)), (2, .int x)] := hl
  refine lv_aload_n hx hb dX5_addWater_0 rfl (lv_at hl 0 rfl) ?_
  refine r_get C h fk5 0 1 rfl (by decide) mf_RX5_9 rfl dX5_addWater_1 ?_
  refine lv_iload_n hx hb dX5_addWater_4 rfl (lv_at hl 1 rfl) ?_
  refine lv_aload_n hx hb dX5_addWater_5 rfl (lv_at hl 0 rfl) ?_
  refine r_get C h fk5 0 1 rfl (by decide) mf_RX5_9 rfl dX5_addWater_6 ?_
  refine lv_iload_n hx hb dX5_addWater_9 rfl (lv_at hl 1 rfl) ?_
  refine r_ld C h 1 rfl k (rfl) (by omega) (by decide) (x := w k) (rfl) dX5_addWater_10 ?_
  refine lv_iload_n hx hb dX5_addWater_11 rfl (lv_at hl 2 rfl) ?_
  refine lv_iadd hx hb dX5_addWater_12 ?_
  refine lv_bipush (v := 99) hx hb dX5_addWater_13 (by decide) ?_
  refine r_min C ml_RX5_67 hl ⟨Nat.le_of_ble_eq_true rfl, Nat.le_of_ble_eq_true rfl⟩ ⟨Nat.le_of_ble_eq_true rfl, Nat.le_of_ble_eq_true rfl⟩ dX5_addWater_15 ?_
  refine r_top (y := hcap (w k + x)) (rfl) ?_
  refine r_st C h 1 rfl k (rfl) (by omega) (by decide) (g := upd w k (hcap (w k + x))) (fun _ _ => rfl) (ws' := [(h0, .inr (5, [.ref h1, .ref h2, .ref h3, .ref h4, .int hr, .int to])), (h2, .inl (cI, 5, .inl (upd w k (hcap (w k + x)))))]) rfl dX5_addWater_18 (fun H locs h => ?_)
  refine lv_aload_n hx hb dX5_addWater_19 rfl (lv_at hl 0 rfl) ?_
  refine r_get C h fk5 0 1 rfl (by decide) mf_RX5_9 rfl dX5_addWater_20 ?_
  refine lv_iload_n hx hb dX5_addWater_23 rfl (lv_at hl 1 rfl) ?_
  refine r_ld C h 1 rfl k (rfl) (by omega) (by decide) (x := hcap (w k + x)) (upd_s _ _ _) dX5_addWater_24 ?_
  exact hret (r := hcap (w k + x)) () dX5_addWater_25 h (rfl) (rfl)

set_option maxHeartbeats 4000000 in
set_option maxRecDepth 100000 in
theorem c_X5_pushes (l : Launch) (D : va_G) (cI cZ : ClassId) (kS vS : Nat) (h0 : Nat) (h1 : Nat) (h2 : Nat) (h3 : Nat) (h4 : Nat) (h5 : Nat) (h6 : Nat) (n : Nat) (bar : Int32) (hr : Int32) (to : Int32) (w : Nat → Int32) (K : Nat → Int32) (b : Nat) (a : Nat) (hb5 : b < 5) (ha5 : a < 5) : CI l yX5_pushes cX5_pushes 4 .boolean D cI cZ kS vS 0 0 0 0 [.ref h0, .int (nI b), .int (nI a)] [(h0, .inr (5, [.ref h1, .ref h2, .ref h3, .ref h4, .int hr, .int to])), (h1, .inr (1, [.ref h5, .ref h6, .int (nI n), .int bar])), (h2, .inl (cI, 5, .inl w)), (h5, .inl (cI, 5, .inl K))] (fun (r : Int32) (_ : Unit) => r = bI (hps K w b a)) (fun (_ : Unit) => [(h0, .inr (5, [.ref h1, .ref h2, .ref h3, .ref h4, .int hr, .int to])), (h1, .inr (1, [.ref h5, .ref h6, .int (nI n), .int bar])), (h2, .inl (cI, 5, .inl w)), (h5, .inl (cI, 5, .inl K))]) := by
  refine CI_intro (by decide) (Nat.le_of_ble_eq_true rfl) ?_
  intro p e s m args below meth c A Q ls C h hret hl
  have C : CX p s m args c cX5_pushes 4 RX5 D cI cZ kS vS A := C
  have hx := C.1.1
  have hb := C.1.2.1
  have hl : lv_has ls 4 [(0, .ref h0), (1, .int (nI b)), (2, .int (nI a))] := hl
  refine lv_aload_n hx hb dX5_pushes_0 rfl (lv_at hl 0 rfl) ?_
  refine r_get C h fk5 0 0 rfl (by decide) mf_RX5_25 rfl dX5_pushes_1 ?_
  refine r_getN C h fk1 1 0 3 rfl (by decide) rfl rfl dX5_pushes_4 ?_
  refine lv_iload_n hx hb dX5_pushes_7 rfl (lv_at hl 1 rfl) ?_
  refine r_ld C h 3 rfl b (rfl) (by omega) (by decide) (x := K b) (rfl) dX5_pushes_8 ?_
  refine lv_istore_n (lv' := [(3, .int (K b)), (0, .ref h0), (1, .int (nI b)), (2, .int (nI a))]) hx hb dX5_pushes_9 rfl hl (by decide) rfl (fun ls hl => ?_)
  refine lv_iload_n hx hb dX5_pushes_10 rfl (lv_at hl 0 rfl) ?_
  refine lv_iconst (v := 3) hx hb dX5_pushes_11 (by decide) ?_
  refine lv_icmp_ne (tgt := 17) hx hb dX5_pushes_12 (by decide) (fun c_12 => ?_) (fun c_12 => ?_)
  · skip
    refine lv_aload_n hx hb dX5_pushes_17 rfl (lv_at hl 1 rfl) ?_
    refine r_get C h fk5 0 0 rfl (by decide) mf_RX5_25 rfl dX5_pushes_18 ?_
    refine r_getN C h fk1 1 0 3 rfl (by decide) rfl rfl dX5_pushes_21 ?_
    refine lv_iload_n hx hb dX5_pushes_24 rfl (lv_at hl 3 rfl) ?_
    refine r_ld C h 3 rfl a (rfl) (by omega) (by decide) (x := K a) (rfl) dX5_pushes_25 ?_
    refine lv_iconst (v := 3) hx hb dX5_pushes_26 (by decide) ?_
    refine lv_icmp_ne (tgt := 45) hx hb dX5_pushes_27 (by decide) (fun c_27 => ?_) (fun c_27 => ?_)
    · skip
      refine lv_iload_n hx hb dX5_pushes_45 rfl (lv_at hl 0 rfl) ?_
      by_cases k_46_1 : K b = 1
      · skip
        refine r_top (y := 1) k_46_1 ?_
        refine lv_tableIn (tgt := 76) hx hb dX5_pushes_46 (by decide) (by decide) rfl (by decide) ?_
        refine lv_aload_n hx hb dX5_pushes_76 rfl (lv_at hl 1 rfl) ?_
        refine r_get C h fk5 0 1 rfl (by decide) mf_RX5_9 rfl dX5_pushes_77 ?_
        refine lv_iload_n hx hb dX5_pushes_80 rfl (lv_at hl 2 rfl) ?_
        refine r_ld C h 2 rfl b (rfl) (by omega) (by decide) (x := w b) (rfl) dX5_pushes_81 ?_
        refine lv_aload_n hx hb dX5_pushes_82 rfl (lv_at hl 1 rfl) ?_
        refine r_get C h fk5 0 1 rfl (by decide) mf_RX5_9 rfl dX5_pushes_83 ?_
        refine lv_iload_n hx hb dX5_pushes_86 rfl (lv_at hl 3 rfl) ?_
        refine r_ld C h 2 rfl a (rfl) (by omega) (by decide) (x := w a) (rfl) dX5_pushes_87 ?_
        refine lv_icmp_le (tgt := 95) hx hb dX5_pushes_88 (by decide) (fun c_88 => ?_) (fun c_88 => ?_)
        · skip
          refine lv_iconst (v := 0) hx hb dX5_pushes_95 (by decide) ?_
          exact hret (r := 0) () dX5_pushes_96 h (rfl) (by simp [hps, bI, c_12, c_27, k_46_1, c_88])
        · skip
          refine lv_iconst (v := 1) hx hb dX5_pushes_91 (by decide) ?_
          refine lv_goto (tgt := 96) hx hb dX5_pushes_92 (by decide) ?_
          exact hret (r := 1) () dX5_pushes_96 h (rfl) (by simp [hps, bI, c_12, c_27, k_46_1, c_88])
      · skip
        by_cases k_46_2 : K b = 2
        · skip
          refine r_top (y := 2) k_46_2 ?_
          refine lv_tableIn (tgt := 97) hx hb dX5_pushes_46 (by decide) (by decide) rfl (by decide) ?_
          refine lv_iconst (v := 0) hx hb dX5_pushes_97 (by decide) ?_
          exact hret (r := 0) () dX5_pushes_98 h (rfl) (by simp [hps, bI, c_12, c_27, k_46_1, k_46_2])
        · skip
          by_cases k_46_3 : K b = 3
          · skip
            refine r_top (y := 3) k_46_3 ?_
            exact absurd k_46_3 c_12
          · skip
            by_cases k_46_4 : K b = 4
            · skip
              refine r_top (y := 4) k_46_4 ?_
              refine lv_tableIn (tgt := 99) hx hb dX5_pushes_46 (by decide) (by decide) rfl (by decide) ?_
              refine lv_aload_n hx hb dX5_pushes_99 rfl (lv_at hl 1 rfl) ?_
              refine r_get C h fk5 0 1 rfl (by decide) mf_RX5_9 rfl dX5_pushes_100 ?_
              refine lv_iload_n hx hb dX5_pushes_103 rfl (lv_at hl 2 rfl) ?_
              refine r_ld C h 2 rfl b (rfl) (by omega) (by decide) (x := w b) (rfl) dX5_pushes_104 ?_
              refine lv_aload_n hx hb dX5_pushes_105 rfl (lv_at hl 1 rfl) ?_
              refine r_get C h fk5 0 1 rfl (by decide) mf_RX5_9 rfl dX5_pushes_106 ?_
              refine lv_iload_n hx hb dX5_pushes_109 rfl (lv_at hl 3 rfl) ?_
              refine r_ld C h 2 rfl a (rfl) (by omega) (by decide) (x := w a) (rfl) dX5_pushes_110 ?_
              refine lv_icmp_lt (tgt := 118) hx hb dX5_pushes_111 (by decide) (fun c_111 => ?_) (fun c_111 => ?_)
              · skip
                refine lv_iconst (v := 0) hx hb dX5_pushes_118 (by decide) ?_
                exact hret (r := 0) () dX5_pushes_119 h (rfl) (by simp [hps, bI, c_12, c_27, k_46_1, k_46_2, k_46_3, k_46_4, c_111])
              · skip
                refine lv_iconst (v := 1) hx hb dX5_pushes_114 (by decide) ?_
                refine lv_goto (tgt := 119) hx hb dX5_pushes_115 (by decide) ?_
                exact hret (r := 1) () dX5_pushes_119 h (rfl) (by simp [hps, bI, c_12, c_27, k_46_1, k_46_2, k_46_3, k_46_4, c_111])
            · skip
              have hO : (K b).toInt < 1 ∨ 4 < (K b).toInt := by
                have zk_46_1 := lv_neT (a := 1) k_46_1 (by decide)
                have zk_46_2 := lv_neT (a := 2) k_46_2 (by decide)
                have zk_46_3 := lv_neT (a := 3) k_46_3 (by decide)
                have zk_46_4 := lv_neT (a := 4) k_46_4 (by decide)
                omega
              refine lv_tableOut (tgt := 120) hx hb dX5_pushes_46 hO (by decide) ?_
              refine lv_aload_n hx hb dX5_pushes_120 rfl (lv_at hl 1 rfl) ?_
              refine r_get C h fk5 0 1 rfl (by decide) mf_RX5_9 rfl dX5_pushes_121 ?_
              refine lv_iload_n hx hb dX5_pushes_124 rfl (lv_at hl 2 rfl) ?_
              refine r_ld C h 2 rfl b (rfl) (by omega) (by decide) (x := w b) (rfl) dX5_pushes_125 ?_
              refine lv_iconst (v := 2) hx hb dX5_pushes_126 (by decide) ?_
              refine lv_aload_n hx hb dX5_pushes_127 rfl (lv_at hl 1 rfl) ?_
              refine r_get C h fk5 0 1 rfl (by decide) mf_RX5_9 rfl dX5_pushes_128 ?_
              refine lv_iload_n hx hb dX5_pushes_131 rfl (lv_at hl 3 rfl) ?_
              refine r_ld C h 2 rfl a (rfl) (by omega) (by decide) (x := w a) (rfl) dX5_pushes_132 ?_
              refine lv_imul hx hb dX5_pushes_133 ?_
              refine lv_icmp_le (tgt := 141) hx hb dX5_pushes_134 (by decide) (fun c_134 => ?_) (fun c_134 => ?_)
              · skip
                refine lv_iconst (v := 0) hx hb dX5_pushes_141 (by decide) ?_
                exact hret (r := 0) () dX5_pushes_142 h (rfl) (by simp [hps, bI, c_12, c_27, k_46_1, k_46_2, k_46_3, k_46_4, c_134])
              · skip
                refine lv_iconst (v := 1) hx hb dX5_pushes_137 (by decide) ?_
                refine lv_goto (tgt := 142) hx hb dX5_pushes_138 (by decide) ?_
                exact hret (r := 1) () dX5_pushes_142 h (rfl) (by simp [hps, bI, c_12, c_27, k_46_1, k_46_2, k_46_3, k_46_4, c_134])
    · skip
      refine lv_aload_n hx hb dX5_pushes_30 rfl (lv_at hl 1 rfl) ?_
      refine r_get C h fk5 0 1 rfl (by decide) mf_RX5_9 rfl dX5_pushes_31 ?_
      refine lv_iload_n hx hb dX5_pushes_34 rfl (lv_at hl 2 rfl) ?_
      refine r_ld C h 2 rfl b (rfl) (by omega) (by decide) (x := w b) (rfl) dX5_pushes_35 ?_
      refine lv_if_le (tgt := 43) hx hb dX5_pushes_36 (by decide) (fun c_36 => ?_) (fun c_36 => ?_)
      · skip
        refine lv_iconst (v := 0) hx hb dX5_pushes_43 (by decide) ?_
        exact hret (r := 0) () dX5_pushes_44 h (rfl) (by simp [hps, bI, c_12, c_27, c_36])
      · skip
        refine lv_iconst (v := 1) hx hb dX5_pushes_39 (by decide) ?_
        refine lv_goto (tgt := 44) hx hb dX5_pushes_40 (by decide) ?_
        exact hret (r := 1) () dX5_pushes_44 h (rfl) (by simp [hps, bI, c_12, c_27, c_36])
  · skip
    refine lv_iconst (v := 0) hx hb dX5_pushes_15 (by decide) ?_
    exact hret (r := 0) () dX5_pushes_16 h (rfl) (by simp [hps, bI, c_12])

set_option maxHeartbeats 4000000 in
set_option maxRecDepth 100000 in
theorem c_X5_pushAll (l : Launch) (D : va_G) (cI cZ : ClassId) (kS vS : Nat) (h0 : Nat) (h1 : Nat) (h2 : Nat) (h3 : Nat) (h4 : Nat) (h5 : Nat) (h6 : Nat) (n : Nat) (bar : Int32) (hr : Int32) (to : Int32) (w : Nat → Int32) (K : Nat → Int32) (ρ : Nat → Nat) (hn2 : 2 ≤ n) (hn5 : n ≤ 5) (hρ : ∀ j, j < n → ρ j < n) : CV l yX5_pushAll cX5_pushAll 4 D cI cZ kS vS 1 23 0 0 [.ref h0] [(h0, .inr (5, [.ref h1, .ref h2, .ref h3, .ref h4, .int hr, .int to])), (h1, .inr (1, [.ref h5, .ref h6, .int (nI n), .int bar])), (h2, .inl (cI, 5, .inl w)), (h5, .inl (cI, 5, .inl K)), (h4, .inl (cI, 5, .inl (ro ρ)))] (fun (_ : Unit) => True) (fun (_ : Unit) => [(h0, .inr (5, [.ref h1, .ref h2, .ref h3, .ref h4, .int hr, .int to])), (h1, .inr (1, [.ref h5, .ref h6, .int (nI n), .int bar])), (h2, .inl (cI, 5, .inl w)), (h5, .inl (cI, 5, .inl K)), (h4, .inl (cI, 5, .inl (ro (hpp K w ρ (n - 1)))))]) := by
  refine CV_intro (by decide) (Nat.le_of_ble_eq_true rfl) ?_
  intro p e s m args below meth c A Q ls C hini h hret hl
  have C : CX p s m args c cX5_pushAll 4 RX5 D cI cZ kS vS A := C
  have hx := C.1.1
  have hb := C.1.2.1
  have hl : lv_has ls 4 [(0, .ref h0)] := hl
  refine lv_iconst (v := 1) hx hb dX5_pushAll_0 (by decide) ?_
  refine lv_istore_n (lv' := [(1, .int 1), (0, .ref h0)]) hx hb dX5_pushAll_1 rfl hl (by decide) rfl (fun ls hl => ?_)
  have L2 : ∀ (fu : Nat) (i : Nat), (n - i) < fu → (hi : i + 1 ≤ n) → ∀ (H : Heap) (locs : List Loc) (ls : Array Slot), HS D A s H locs [(h0, .inr (5, [.ref h1, .ref h2, .ref h3, .ref h4, .int hr, .int to])), (h1, .inr (1, [.ref h5, .ref h6, .int (nI n), .int bar])), (h2, .inl (cI, 5, .inl w)), (h5, .inl (cI, 5, .inl K)), (h4, .inl (cI, 5, .inl (ro (hpp K w ρ i))))] → lv_has ls 4 [(0, .ref h0), (1, .int (nI (i + 1)))] → W p l e (rmO 1 23 0 0) s m args below meth c H locs 0 0 Q (F0 m 2 ls []) := by
    intro fu
    induction fu with
    | zero => intro i hfu; exact absurd hfu (Nat.not_lt_zero _)
    | succ fu ih2 =>
      intro i hfu hi H locs ls h hl
      refine lv_iload_n hx hb dX5_pushAll_2 rfl (lv_at hl 1 rfl) ?_
      refine lv_aload_n hx hb dX5_pushAll_3 rfl (lv_at hl 0 rfl) ?_
      refine r_get C h fk5 0 0 rfl (by decide) mf_RX5_25 rfl dX5_pushAll_4 ?_
      refine r_getN C h fk1 1 2 6 rfl (by decide) rfl rfl dX5_pushAll_7 ?_
      refine lv_icmp_ge (tgt := 60) hx hb dX5_pushAll_10 (by decide) (fun c_10 => ?_) (fun c_10 => ?_)
      · skip
        have c_10 := (jle (a := n) (b := (i + 1)) (by omega) (by omega)).mp c_10
        obtain rfl : n - 1 = i := by omega
        exact hret () dX5_pushAll_60 h (trivial)
      · skip
        have c_10 : ¬ n ≤ (i + 1) := fun z => c_10 ((jle (a := n) (b := (i + 1)) (by omega) (by omega)).mpr z)
        have hlt : i + 1 < n := by omega
        have r0 := hpp_lt (K := K) (w := w) hρ i (by omega) i (by omega)
        have r1 := hpp_lt (K := K) (w := w) hρ i (by omega) (i + 1) (by omega)
        refine lv_aload_n hx hb dX5_pushAll_13 rfl (lv_at hl 0 rfl) ?_
        refine r_get C h fk5 0 3 rfl (by decide) mf_RX5_18 rfl dX5_pushAll_14 ?_
        refine lv_iload_n hx hb dX5_pushAll_17 rfl (lv_at hl 1 rfl) ?_
        refine lv_iconst (v := 1) hx hb dX5_pushAll_18 (by decide) ?_
        refine lv_isub hx hb dX5_pushAll_19 ?_
        refine r_top (y := nI ((i + 1) - 1)) (pk_sub (a := (i + 1)) (b := 1) (by omega)) ?_
        refine r_top (y := nI i) (rfl) ?_
        refine r_ld C h 4 rfl i (rfl) (by omega) (by decide) (x := nI ((hpp K w ρ i) i)) (rfl) dX5_pushAll_20 ?_
        refine lv_istore_n (lv' := [(2, .int (nI ((hpp K w ρ i) i))), (0, .ref h0), (1, .int (nI (i + 1)))]) hx hb dX5_pushAll_21 rfl hl (by decide) rfl (fun ls hl => ?_)
        refine lv_aload_n hx hb dX5_pushAll_22 rfl (lv_at hl 1 rfl) ?_
        refine r_get C h fk5 0 3 rfl (by decide) mf_RX5_18 rfl dX5_pushAll_23 ?_
        refine lv_iload_n hx hb dX5_pushAll_26 rfl (lv_at hl 2 rfl) ?_
        refine r_ld C h 4 rfl (i + 1) (rfl) (by omega) (by decide) (x := nI ((hpp K w ρ i) (i + 1))) (rfl) dX5_pushAll_27 ?_
        refine lv_istore_n (lv' := [(3, .int (nI ((hpp K w ρ i) (i + 1)))), (2, .int (nI ((hpp K w ρ i) i))), (0, .ref h0), (1, .int (nI (i + 1)))]) hx hb dX5_pushAll_28 rfl hl (by decide) rfl (fun ls hl => ?_)
        refine lv_aload_n hx hb dX5_pushAll_29 rfl (lv_at hl 2 rfl) ?_
        refine lv_iload_n hx hb dX5_pushAll_30 rfl (lv_at hl 0 rfl) ?_
        refine lv_iload_n hx hb dX5_pushAll_31 rfl (lv_at hl 1 rfl) ?_
        refine k_Vi (rest := []) (as := [.int (nI ((hpp K w ρ i) (i + 1))), .int (nI ((hpp K w ρ i) i))]) (wc := [(h0, .inr (5, [.ref h1, .ref h2, .ref h3, .ref h4, .int hr, .int to])), (h1, .inr (1, [.ref h5, .ref h6, .int (nI n), .int bar])), (h2, .inl (cI, 5, .inl w)), (h5, .inl (cI, 5, .inl K))]) (wr := [(h4, .inl (cI, 5, .inl (ro (hpp K w ρ i))))]) (isC := [0, 1, 2, 3]) (isR := [4]) (w2 := fun (_ : Unit) => [(h0, .inr (5, [.ref h1, .ref h2, .ref h3, .ref h4, .int hr, .int to])), (h1, .inr (1, [.ref h5, .ref h6, .int (nI n), .int bar])), (h2, .inl (cI, 5, .inl w)), (h5, .inl (cI, 5, .inl K)), (h4, .inl (cI, 5, .inl (ro (hpp K w ρ i))))]) C h (c_X5_pushes l D cI cZ kS vS h0 h1 h2 h3 h4 h5 h6 n bar hr to w K ((hpp K w ρ i) (i + 1)) ((hpp K w ρ i) i) (by omega) (by omega)) wv_X5_pushes rfl ⟨rfl, rfl, rfl, rfl, by decide⟩ fk5 0 rfl ml_RX5_79 [1, 2, 3, 4, 0] rfl (fun _ => rfl) ⟨Nat.le_of_ble_eq_true rfl, Nat.le_of_ble_eq_true rfl⟩ ⟨Nat.le_of_ble_eq_true rfl, Nat.le_of_ble_eq_true rfl⟩ (Nat.le_of_ble_eq_true rfl) hl rfl dX5_pushAll_32 (fun r u H locs hq h => ?_)
        have h : HS D A s H locs [(h0, .inr (5, [.ref h1, .ref h2, .ref h3, .ref h4, .int hr, .int to])), (h1, .inr (1, [.ref h5, .ref h6, .int (nI n), .int bar])), (h2, .inl (cI, 5, .inl w)), (h5, .inl (cI, 5, .inl K)), (h4, .inl (cI, 5, .inl (ro (hpp K w ρ i))))] := h
        have hq : r = bI (hps K w ((hpp K w ρ i) (i + 1)) ((hpp K w ρ i) i)) := hq
        have hq := hq.symm
        subst hq
        refine lv_if_eq (tgt := 54) hx hb dX5_pushAll_35 (by decide) (fun c_35 => ?_) (fun c_35 => ?_)
        · skip
          have c_35 := bI_0.mp c_35
          have hst : ∀ j, j < 5 → ro (hpp K w ρ i) j = ro (hpp K w ρ (i + 1)) j := fun j _ => by rw [hpp_f c_35]
          refine lv_iinc (v := nI ((i + 1) + 1)) (lv' := [(1, .int (nI ((i + 1) + 1))), (3, .int (nI ((hpp K w ρ i) (i + 1)))), (2, .int (nI ((hpp K w ρ i) i))), (0, .ref h0)]) hx hb dX5_pushAll_54 hl (k := 3) rfl (nI_1 (i + 1)) (by decide) rfl (fun ls hl => ?_)
          refine lv_goto (tgt := 2) hx hb dX5_pushAll_57 (by decide) ?_
          have h := h.arr 4 (g := ro (hpp K w ρ (i + 1))) rfl (hst) rfl
          exact ih2  (i + 1) (by omega) (by first | assumption | omega) _ _ _ h (lv_sub hl [3, 0] rfl)
        · skip
          have c_35 := bI_n0.mp c_35
          have hst : ∀ j, j < 5 → ro (un (un (hpp K w ρ i) i (hpp K w ρ i (i + 1))) (i + 1) (hpp K w ρ i i)) j = ro (hpp K w ρ (i + 1)) j := fun j _ => by rw [hpp_t c_35]
          refine lv_aload_n hx hb dX5_pushAll_38 rfl (lv_at hl 2 rfl) ?_
          refine r_get C h fk5 0 3 rfl (by decide) mf_RX5_18 rfl dX5_pushAll_39 ?_
          refine lv_iload_n hx hb dX5_pushAll_42 rfl (lv_at hl 3 rfl) ?_
          refine lv_iconst (v := 1) hx hb dX5_pushAll_43 (by decide) ?_
          refine lv_isub hx hb dX5_pushAll_44 ?_
          refine r_top (y := nI ((i + 1) - 1)) (pk_sub (a := (i + 1)) (b := 1) (by omega)) ?_
          refine lv_iload_n hx hb dX5_pushAll_45 rfl (lv_at hl 0 rfl) ?_
          refine r_st C h 4 rfl i (rfl) (by omega) (by decide) (g := ro (un (hpp K w ρ i) i ((hpp K w ρ i) (i + 1)))) (fun j _ => ro_un j) (ws' := [(h0, .inr (5, [.ref h1, .ref h2, .ref h3, .ref h4, .int hr, .int to])), (h1, .inr (1, [.ref h5, .ref h6, .int (nI n), .int bar])), (h2, .inl (cI, 5, .inl w)), (h5, .inl (cI, 5, .inl K)), (h4, .inl (cI, 5, .inl (ro (un (hpp K w ρ i) i ((hpp K w ρ i) (i + 1))))))]) rfl dX5_pushAll_46 (fun H locs h => ?_)
          refine lv_aload_n hx hb dX5_pushAll_47 rfl (lv_at hl 2 rfl) ?_
          refine r_get C h fk5 0 3 rfl (by decide) mf_RX5_18 rfl dX5_pushAll_48 ?_
          refine lv_iload_n hx hb dX5_pushAll_51 rfl (lv_at hl 3 rfl) ?_
          refine lv_iload_n hx hb dX5_pushAll_52 rfl (lv_at hl 1 rfl) ?_
          refine r_st C h 4 rfl (i + 1) (rfl) (by omega) (by decide) (g := ro (un (un (hpp K w ρ i) i ((hpp K w ρ i) (i + 1))) (i + 1) ((hpp K w ρ i) i))) (fun j _ => ro_un j) (ws' := [(h0, .inr (5, [.ref h1, .ref h2, .ref h3, .ref h4, .int hr, .int to])), (h1, .inr (1, [.ref h5, .ref h6, .int (nI n), .int bar])), (h2, .inl (cI, 5, .inl w)), (h5, .inl (cI, 5, .inl K)), (h4, .inl (cI, 5, .inl (ro (un (un (hpp K w ρ i) i ((hpp K w ρ i) (i + 1))) (i + 1) ((hpp K w ρ i) i)))))]) rfl dX5_pushAll_53 (fun H locs h => ?_)
          refine lv_iinc (v := nI ((i + 1) + 1)) (lv' := [(1, .int (nI ((i + 1) + 1))), (3, .int (nI ((hpp K w ρ i) (i + 1)))), (2, .int (nI ((hpp K w ρ i) i))), (0, .ref h0)]) hx hb dX5_pushAll_54 hl (k := 3) rfl (nI_1 (i + 1)) (by decide) rfl (fun ls hl => ?_)
          refine lv_goto (tgt := 2) hx hb dX5_pushAll_57 (by decide) ?_
          have h := h.arr 4 (g := ro (hpp K w ρ (i + 1))) rfl (hst) rfl
          exact ih2  (i + 1) (by omega) (by first | assumption | omega) _ _ _ h (lv_sub hl [3, 0] rfl)
  have h := h.arr 4 (g := ro (hpp K w ρ 0)) rfl (fun j hj => rfl) rfl
  exact L2 ((n - 0) + 1) 0 (by omega) (by omega) _ _ _ h (lv_sub hl [1, 0] rfl)

set_option maxHeartbeats 4000000 in
set_option maxRecDepth 100000 in
theorem c_X5_sendBehindAll (l : Launch) (D : va_G) (cI cZ : ClassId) (kS vS : Nat) (h0 : Nat) (h1 : Nat) (h2 : Nat) (h3 : Nat) (h4 : Nat) (h5 : Nat) (h6 : Nat) (n : Nat) (bar : Int32) (hr : Int32) (to : Int32) (ρ : Nat → Nat) (k : Nat) (hn5 : n ≤ 5) (hk : k < n) : CV l yX5_sendBehindAll cX5_sendBehindAll 5 D cI cZ kS vS 1 21 0 0 [.ref h0, .int (nI k)] [(h0, .inr (5, [.ref h1, .ref h2, .ref h3, .ref h4, .int hr, .int to])), (h1, .inr (1, [.ref h5, .ref h6, .int (nI n), .int bar])), (h4, .inl (cI, 5, .inl (ro ρ)))] (fun (_ : Unit) => True) (fun (_ : Unit) => [(h0, .inr (5, [.ref h1, .ref h2, .ref h3, .ref h4, .int hr, .int to])), (h1, .inr (1, [.ref h5, .ref h6, .int (nI n), .int bar])), (h4, .inl (cI, 5, .inl (ro (hsb n k ρ))))]) := by
  refine CV_intro (by decide) (Nat.le_of_ble_eq_true rfl) ?_
  intro p e s m args below meth c A Q ls C hini h hret hl
  have C : CX p s m args c cX5_sendBehindAll 5 RX5 D cI cZ kS vS A := C
  have hx := C.1.1
  have hb := C.1.2.1
  have hl : lv_has ls 5 [(0, .ref h0), (1, .int (nI k))] := hl
  refine lv_aload_n hx hb dX5_sendBehindAll_0 rfl (lv_at hl 0 rfl) ?_
  refine r_get C h fk5 0 0 rfl (by decide) mf_RX5_25 rfl dX5_sendBehindAll_1 ?_
  refine lv_iload_n hx hb dX5_sendBehindAll_4 rfl (lv_at hl 1 rfl) ?_
  refine k_Vi (rest := []) (as := [.int (nI k)]) (wc := [(h1, .inr (1, [.ref h5, .ref h6, .int (nI n), .int bar]))]) (wr := [(h0, .inr (5, [.ref h1, .ref h2, .ref h3, .ref h4, .int hr, .int to])), (h4, .inl (cI, 5, .inl (ro ρ)))]) (isC := [1]) (isR := [0, 2]) (w2 := fun (_ : Unit) => [(h0, .inr (5, [.ref h1, .ref h2, .ref h3, .ref h4, .int hr, .int to])), (h1, .inr (1, [.ref h5, .ref h6, .int (nI n), .int bar])), (h4, .inl (cI, 5, .inl (ro ρ)))]) C h (c_X1_hasRiver l D cI cZ kS vS h1 h5 h6 (nI n) bar (nI k) ) wv_X1_hasRiver rfl ⟨rfl, rfl, rfl, rfl, by decide⟩ fk1 1 rfl ml_RX5_89 [0, 2, 1] rfl (fun _ => rfl) ⟨Nat.le_of_ble_eq_true rfl, Nat.le_of_ble_eq_true rfl⟩ ⟨Nat.le_of_ble_eq_true rfl, Nat.le_of_ble_eq_true rfl⟩ (Nat.le_of_ble_eq_true rfl) hl rfl dX5_sendBehindAll_5 (fun r u H locs hq h => ?_)
  have h : HS D A s H locs [(h0, .inr (5, [.ref h1, .ref h2, .ref h3, .ref h4, .int hr, .int to])), (h1, .inr (1, [.ref h5, .ref h6, .int (nI n), .int bar])), (h4, .inl (cI, 5, .inl (ro ρ)))] := h
  have hq : r = bI (hin (nI n) (nI k)) := hq
  have hq := hq.symm
  subst hq
  refine lv_if_ne (tgt := 12) hx hb dX5_sendBehindAll_8 (by decide) (fun c_8 => ?_) (fun c_8 => ?_)
  · skip
    refine lv_aload_n hx hb dX5_sendBehindAll_12 rfl (lv_at hl 0 rfl) ?_
    refine r_get C h fk5 0 0 rfl (by decide) mf_RX5_25 rfl dX5_sendBehindAll_13 ?_
    refine r_getN C h fk1 1 2 6 rfl (by decide) rfl rfl dX5_sendBehindAll_16 ?_
    refine lv_iconst (v := 1) hx hb dX5_sendBehindAll_19 (by decide) ?_
    refine lv_isub hx hb dX5_sendBehindAll_20 ?_
    refine r_top (y := nI (n - 1)) (pk_sub (a := n) (b := 1) (by omega)) ?_
    refine lv_istore_n (lv' := [(2, .int (nI (n - 1))), (0, .ref h0), (1, .int (nI k))]) hx hb dX5_sendBehindAll_21 rfl hl (by decide) rfl (fun ls hl => ?_)
    refine lv_aload_n hx hb dX5_sendBehindAll_22 rfl (lv_at hl 1 rfl) ?_
    refine r_get C h fk5 0 3 rfl (by decide) mf_RX5_18 rfl dX5_sendBehindAll_23 ?_
    refine lv_iload_n hx hb dX5_sendBehindAll_26 rfl (lv_at hl 2 rfl) ?_
    refine r_ld C h 2 rfl k (rfl) (by omega) (by decide) (x := nI (ρ k)) (rfl) dX5_sendBehindAll_27 ?_
    refine lv_istore_n (lv' := [(3, .int (nI (ρ k))), (2, .int (nI (n - 1))), (0, .ref h0), (1, .int (nI k))]) hx hb dX5_sendBehindAll_28 rfl hl (by decide) rfl (fun ls hl => ?_)
    refine lv_iload_n hx hb dX5_sendBehindAll_29 rfl (lv_at hl 3 rfl) ?_
    refine lv_istore (lv' := [(4, .int (nI k)), (3, .int (nI (ρ k))), (2, .int (nI (n - 1))), (0, .ref h0), (1, .int (nI k))]) hx hb dX5_sendBehindAll_30 hl (by decide) rfl (fun ls hl => ?_)
    have L32 : ∀ (fu : Nat) (i : Nat), (n - i) < fu → (hi : k ≤ i ∧ i ≤ n - 1) → ∀ (H : Heap) (locs : List Loc) (ls : Array Slot), HS D A s H locs [(h0, .inr (5, [.ref h1, .ref h2, .ref h3, .ref h4, .int hr, .int to])), (h1, .inr (1, [.ref h5, .ref h6, .int (nI n), .int bar])), (h4, .inl (cI, 5, .inl (ro (hsbi k i ρ))))] → lv_has ls 5 [(0, .ref h0), (1, .int (nI k)), (2, .int (nI (n - 1))), (3, .int (nI (ρ k))), (4, .int (nI i))] → W p l e (rmO 1 21 0 0) s m args below meth c H locs 0 0 Q (F0 m 32 ls []) := by
      intro fu
      induction fu with
      | zero => intro i hfu; exact absurd hfu (Nat.not_lt_zero _)
      | succ fu ih32 =>
        intro i hfu hi H locs ls h hl
        refine lv_iload hx hb dX5_sendBehindAll_32 (lv_at hl 4 rfl) ?_
        refine lv_iload_n hx hb dX5_sendBehindAll_34 rfl (lv_at hl 2 rfl) ?_
        refine lv_icmp_ge (tgt := 60) hx hb dX5_sendBehindAll_35 (by decide) (fun c_35 => ?_) (fun c_35 => ?_)
        · skip
          have c_35 := (jle (a := (n - 1)) (b := i) (by omega) (by omega)).mp c_35
          obtain rfl : n - 1 = i := by omega
          refine lv_aload_n hx hb dX5_sendBehindAll_60 rfl (lv_at hl 0 rfl) ?_
          refine r_get C h fk5 0 3 rfl (by decide) mf_RX5_18 rfl dX5_sendBehindAll_61 ?_
          refine lv_iload_n hx hb dX5_sendBehindAll_64 rfl (lv_at hl 2 rfl) ?_
          refine lv_iload_n hx hb dX5_sendBehindAll_65 rfl (lv_at hl 3 rfl) ?_
          refine r_st C h 2 rfl (n - 1) (rfl) (by omega) (by decide) (g := ro (un (hsbi k (n - 1) ρ) (n - 1) (ρ k))) (fun j _ => ro_un j) (ws' := [(h0, .inr (5, [.ref h1, .ref h2, .ref h3, .ref h4, .int hr, .int to])), (h1, .inr (1, [.ref h5, .ref h6, .int (nI n), .int bar])), (h4, .inl (cI, 5, .inl (ro (un (hsbi k (n - 1) ρ) (n - 1) (ρ k)))))]) rfl dX5_sendBehindAll_66 (fun H locs h => ?_)
          have h := h.arr 2 (g := ro (hsb n k ρ)) rfl (fun j _ => congrArg nI (hsbi_e hk j)) rfl
          exact hret () dX5_sendBehindAll_67 h (trivial)
        · skip
          have c_35 : ¬ (n - 1) ≤ i := fun z => c_35 ((jle (a := (n - 1)) (b := i) (by omega) (by omega)).mpr z)
          have hlt : i < n - 1 := by omega
          refine lv_aload_n hx hb dX5_sendBehindAll_38 rfl (lv_at hl 0 rfl) ?_
          refine r_get C h fk5 0 3 rfl (by decide) mf_RX5_18 rfl dX5_sendBehindAll_39 ?_
          refine lv_iload hx hb dX5_sendBehindAll_42 (lv_at hl 4 rfl) ?_
          refine lv_aload_n hx hb dX5_sendBehindAll_44 rfl (lv_at hl 0 rfl) ?_
          refine r_get C h fk5 0 3 rfl (by decide) mf_RX5_18 rfl dX5_sendBehindAll_45 ?_
          refine lv_iload hx hb dX5_sendBehindAll_48 (lv_at hl 4 rfl) ?_
          refine lv_iconst (v := 1) hx hb dX5_sendBehindAll_50 (by decide) ?_
          refine lv_iadd hx hb dX5_sendBehindAll_51 ?_
          refine r_top (y := nI (i + 1)) (nI_add i 1) ?_
          refine r_ld C h 2 rfl (i + 1) (rfl) (by omega) (by decide) (x := nI ((hsbi k i ρ) (i + 1))) (rfl) dX5_sendBehindAll_52 ?_
          refine r_st C h 2 rfl i (rfl) (by omega) (by decide) (g := ro (un (hsbi k i ρ) i ((hsbi k i ρ) (i + 1)))) (fun j _ => ro_un j) (ws' := [(h0, .inr (5, [.ref h1, .ref h2, .ref h3, .ref h4, .int hr, .int to])), (h1, .inr (1, [.ref h5, .ref h6, .int (nI n), .int bar])), (h4, .inl (cI, 5, .inl (ro (un (hsbi k i ρ) i ((hsbi k i ρ) (i + 1))))))]) rfl dX5_sendBehindAll_53 (fun H locs h => ?_)
          refine lv_iinc (v := nI (i + 1)) (lv' := [(4, .int (nI (i + 1))), (0, .ref h0), (1, .int (nI k)), (2, .int (nI (n - 1))), (3, .int (nI (ρ k)))]) hx hb dX5_sendBehindAll_54 hl (k := 4) rfl (nI_1 i) (by decide) rfl (fun ls hl => ?_)
          refine lv_goto (tgt := 32) hx hb dX5_sendBehindAll_57 (by decide) ?_
          have h := h.arr 2 (g := ro (hsbi k (i + 1) ρ)) rfl (fun j _ => congrArg nI (hsbi_s hi.1 j)) rfl
          exact ih32  (i + 1) (by omega) (by first | assumption | omega) _ _ _ h (lv_sub hl [1, 2, 3, 4, 0] rfl)
    have h := h.arr 2 (g := ro (hsbi k k ρ)) rfl (fun j hj => by rw [hsbi_0]) rfl
    exact L32 ((n - k) + 1) k (by omega) (by omega) _ _ _ h (lv_sub hl [3, 4, 2, 1, 0] rfl)
  · skip
    exact absurd (hin_nI hk (by omega)) (by simpa [bI] using c_8)

set_option maxHeartbeats 4000000 in
set_option maxRecDepth 100000 in
theorem c_X5_feedSea (l : Launch) (D : va_G) (cI cZ : ClassId) (kS vS : Nat) (h0 : Nat) (h1 : Nat) (h2 : Nat) (h3 : Nat) (h4 : Nat) (h5 : Nat) (h6 : Nat) (n : Nat) (bar : Int32) (hr : Int32) (to : Int32) (w : Nat → Int32) (tk : Nat → Int32) (ρ : Nat → Nat) (hn2 : 2 ≤ n) (hn5 : n ≤ 5) (hρ : ∀ j, j < n → ρ j < n) : CI l yX5_feedSea cX5_feedSea 3 .int D cI cZ kS vS 2 45 0 0 [.ref h0] [(h0, .inr (5, [.ref h1, .ref h2, .ref h3, .ref h4, .int hr, .int to])), (h1, .inr (1, [.ref h5, .ref h6, .int (nI n), .int bar])), (h2, .inl (cI, 5, .inl w)), (h3, .inl (cI, 5, .inl tk)), (h4, .inl (cI, 5, .inl (ro ρ)))] (fun (r : Int32) (_ : Unit) => r = hmu bar w (ρ 0)) (fun (_ : Unit) => [(h0, .inr (5, [.ref h1, .ref h2, .ref h3, .ref h4, .int hr, .int (hto bar w (ρ 0))])), (h1, .inr (1, [.ref h5, .ref h6, .int (nI n), .int bar])), (h2, .inl (cI, 5, .inl (upd w (ρ 0) (w (ρ 0) - hmu bar w (ρ 0))))), (h3, .inl (cI, 5, .inl (upd tk (ρ 0) (tk (ρ 0) + hmu bar w (ρ 0))))), (h4, .inl (cI, 5, .inl (ro (if w (ρ 0) - hmu bar w (ρ 0) = 0 then hsb n 0 ρ else ρ))))]) := by
  refine CI_intro (by decide) (Nat.le_of_ble_eq_true rfl) ?_
  intro p e s m args below meth c A Q ls C h hret hl
  have C : CX p s m args c cX5_feedSea 3 RX5 D cI cZ kS vS A := C
  have hx := C.1.1
  have hb := C.1.2.1
  have hl : lv_has ls 3 [(0, .ref h0)] := hl
  have r0 := hρ 0 (by omega)
  have hn0 : 0 < n := by omega
  refine lv_aload_n hx hb dX5_feedSea_0 rfl (lv_at hl 0 rfl) ?_
  refine r_get C h fk5 0 3 rfl (by decide) mf_RX5_18 rfl dX5_feedSea_1 ?_
  refine lv_iconst (v := 0) hx hb dX5_feedSea_4 (by decide) ?_
  refine r_ld C h 4 rfl 0 (rfl) (by omega) (by decide) (x := nI (ρ 0)) (rfl) dX5_feedSea_5 ?_
  refine lv_istore_n (lv' := [(1, .int (nI (ρ 0))), (0, .ref h0)]) hx hb dX5_feedSea_6 rfl hl (by decide) rfl (fun ls hl => ?_)
  refine lv_aload_n hx hb dX5_feedSea_7 rfl (lv_at hl 1 rfl) ?_
  refine r_get C h fk5 0 0 rfl (by decide) mf_RX5_25 rfl dX5_feedSea_8 ?_
  refine r_getN C h fk1 1 3 10 rfl (by decide) rfl rfl dX5_feedSea_11 ?_
  refine lv_aload_n hx hb dX5_feedSea_14 rfl (lv_at hl 1 rfl) ?_
  refine r_get C h fk5 0 1 rfl (by decide) mf_RX5_9 rfl dX5_feedSea_15 ?_
  refine lv_iload_n hx hb dX5_feedSea_18 rfl (lv_at hl 0 rfl) ?_
  refine r_ld C h 2 rfl (ρ 0) (rfl) (by omega) (by decide) (x := w (ρ 0)) (rfl) dX5_feedSea_19 ?_
  refine r_min C ml_RX5_67 hl ⟨Nat.le_of_ble_eq_true rfl, Nat.le_of_ble_eq_true rfl⟩ ⟨Nat.le_of_ble_eq_true rfl, Nat.le_of_ble_eq_true rfl⟩ dX5_feedSea_20 ?_
  refine r_top (y := hmu bar w (ρ 0)) (rfl) ?_
  refine lv_istore_n (lv' := [(2, .int (hmu bar w (ρ 0))), (1, .int (nI (ρ 0))), (0, .ref h0)]) hx hb dX5_feedSea_23 rfl hl (by decide) rfl (fun ls hl => ?_)
  refine lv_aload_n hx hb dX5_feedSea_24 rfl (lv_at hl 2 rfl) ?_
  refine r_get C h fk5 0 1 rfl (by decide) mf_RX5_9 rfl dX5_feedSea_25 ?_
  refine lv_iload_n hx hb dX5_feedSea_28 rfl (lv_at hl 1 rfl) ?_
  refine lv_dup2_11 hx hb dX5_feedSea_29 rfl rfl ?_
  refine r_ld C h 2 rfl (ρ 0) (rfl) (by omega) (by decide) (x := w (ρ 0)) (rfl) dX5_feedSea_30 ?_
  refine lv_iload_n hx hb dX5_feedSea_31 rfl (lv_at hl 0 rfl) ?_
  refine lv_isub hx hb dX5_feedSea_32 ?_
  refine r_st C h 2 rfl (ρ 0) (rfl) (by omega) (by decide) (g := upd w (ρ 0) ((w (ρ 0)) - (hmu bar w (ρ 0)))) (fun _ _ => rfl) (ws' := [(h0, .inr (5, [.ref h1, .ref h2, .ref h3, .ref h4, .int hr, .int to])), (h1, .inr (1, [.ref h5, .ref h6, .int (nI n), .int bar])), (h2, .inl (cI, 5, .inl (upd w (ρ 0) ((w (ρ 0)) - (hmu bar w (ρ 0)))))), (h3, .inl (cI, 5, .inl tk)), (h4, .inl (cI, 5, .inl (ro ρ)))]) rfl dX5_feedSea_33 (fun H locs h => ?_)
  refine lv_aload_n hx hb dX5_feedSea_34 rfl (lv_at hl 2 rfl) ?_
  refine r_get C h fk5 0 2 rfl (by decide) mf_RX5_15 rfl dX5_feedSea_35 ?_
  refine lv_iload_n hx hb dX5_feedSea_38 rfl (lv_at hl 1 rfl) ?_
  refine lv_dup2_11 hx hb dX5_feedSea_39 rfl rfl ?_
  refine r_ld C h 3 rfl (ρ 0) (rfl) (by omega) (by decide) (x := tk (ρ 0)) (rfl) dX5_feedSea_40 ?_
  refine lv_iload_n hx hb dX5_feedSea_41 rfl (lv_at hl 0 rfl) ?_
  refine lv_iadd hx hb dX5_feedSea_42 ?_
  refine r_st C h 3 rfl (ρ 0) (rfl) (by omega) (by decide) (g := upd tk (ρ 0) ((tk (ρ 0)) + (hmu bar w (ρ 0)))) (fun _ _ => rfl) (ws' := [(h0, .inr (5, [.ref h1, .ref h2, .ref h3, .ref h4, .int hr, .int to])), (h1, .inr (1, [.ref h5, .ref h6, .int (nI n), .int bar])), (h2, .inl (cI, 5, .inl (upd w (ρ 0) ((w (ρ 0)) - (hmu bar w (ρ 0)))))), (h3, .inl (cI, 5, .inl (upd tk (ρ 0) ((tk (ρ 0)) + (hmu bar w (ρ 0)))))), (h4, .inl (cI, 5, .inl (ro ρ)))]) rfl dX5_feedSea_43 (fun H locs h => ?_)
  refine lv_aload_n hx hb dX5_feedSea_44 rfl (lv_at hl 2 rfl) ?_
  refine lv_iload_n hx hb dX5_feedSea_45 rfl (lv_at hl 0 rfl) ?_
  refine lv_if_le (tgt := 53) hx hb dX5_feedSea_46 (by decide) (fun c_46 => ?_) (fun c_46 => ?_)
  · skip
    have et : hto bar w (ρ 0) = -1 := if_pos c_46
    refine lv_iconst (v := (-1)) hx hb dX5_feedSea_53 (by decide) ?_
    refine r_top (y := hto bar w (ρ 0)) (et.symm) ?_
    refine r_put C h fk5 0 5 rfl (by decide) mf_RX5_21 rfl (rfl) rfl (Nat.le_of_ble_eq_true rfl) (ws' := [(h0, .inr (5, [.ref h1, .ref h2, .ref h3, .ref h4, .int hr, .int (hto bar w (ρ 0))])), (h1, .inr (1, [.ref h5, .ref h6, .int (nI n), .int bar])), (h2, .inl (cI, 5, .inl (upd w (ρ 0) ((w (ρ 0)) - (hmu bar w (ρ 0)))))), (h3, .inl (cI, 5, .inl (upd tk (ρ 0) ((tk (ρ 0)) + (hmu bar w (ρ 0)))))), (h4, .inl (cI, 5, .inl (ro ρ)))]) rfl dX5_feedSea_54 (fun H locs h => ?_)
    refine lv_aload_n hx hb dX5_feedSea_57 rfl (lv_at hl 2 rfl) ?_
    refine r_get C h fk5 0 1 rfl (by decide) mf_RX5_9 rfl dX5_feedSea_58 ?_
    refine lv_iload_n hx hb dX5_feedSea_61 rfl (lv_at hl 1 rfl) ?_
    refine r_ld C h 2 rfl (ρ 0) (rfl) (by omega) (by decide) (x := w (ρ 0) - hmu bar w (ρ 0)) (upd_s _ _ _) dX5_feedSea_62 ?_
    refine lv_if_ne (tgt := 71) hx hb dX5_feedSea_63 (by decide) (fun c_63 => ?_) (fun c_63 => ?_)
    · skip
      have e4 : (if w (ρ 0) - hmu bar w (ρ 0) = 0 then hsb n 0 ρ else ρ) = ρ := if_neg c_63
      refine lv_iload_n hx hb dX5_feedSea_71 rfl (lv_at hl 0 rfl) ?_
      have h := h.arr 2 (g := upd w (ρ 0) (w (ρ 0) - hmu bar w (ρ 0))) rfl (fun j hj => rfl) rfl
      have h := h.arr 3 (g := upd tk (ρ 0) (tk (ρ 0) + hmu bar w (ρ 0))) rfl (fun j hj => rfl) rfl
      have h := h.arr 4 (g := ro (if w (ρ 0) - hmu bar w (ρ 0) = 0 then hsb n 0 ρ else ρ)) rfl (fun j _ => by rw [e4]) rfl
      exact hret (r := hmu bar w (ρ 0)) () dX5_feedSea_72 h (rfl) (rfl)
    · skip
      have e4 : (if w (ρ 0) - hmu bar w (ρ 0) = 0 then hsb n 0 ρ else ρ) = hsb n 0 ρ := if_pos c_63
      refine lv_aload_n hx hb dX5_feedSea_66 rfl (lv_at hl 2 rfl) ?_
      refine lv_iconst (v := 0) hx hb dX5_feedSea_67 (by decide) ?_
      refine k_Vv (rest := []) (as := [.int 0]) (wc := [(h0, .inr (5, [.ref h1, .ref h2, .ref h3, .ref h4, .int hr, .int (hto bar w (ρ 0))])), (h1, .inr (1, [.ref h5, .ref h6, .int (nI n), .int bar])), (h4, .inl (cI, 5, .inl (ro ρ)))]) (wr := [(h2, .inl (cI, 5, .inl (upd w (ρ 0) ((w (ρ 0)) - (hmu bar w (ρ 0)))))), (h3, .inl (cI, 5, .inl (upd tk (ρ 0) ((tk (ρ 0)) + (hmu bar w (ρ 0))))))]) (isC := [0, 1, 4]) (isR := [2, 3]) (w2 := fun (_ : Unit) => [(h0, .inr (5, [.ref h1, .ref h2, .ref h3, .ref h4, .int hr, .int (hto bar w (ρ 0))])), (h1, .inr (1, [.ref h5, .ref h6, .int (nI n), .int bar])), (h2, .inl (cI, 5, .inl (upd w (ρ 0) ((w (ρ 0)) - (hmu bar w (ρ 0)))))), (h3, .inl (cI, 5, .inl (upd tk (ρ 0) ((tk (ρ 0)) + (hmu bar w (ρ 0)))))), (h4, .inl (cI, 5, .inl (ro (hsb n 0 ρ))))]) C h (c_X5_sendBehindAll l D cI cZ kS vS h0 h1 h2 h3 h4 h5 h6 n bar hr (hto bar w (ρ 0)) ρ 0 hn5 hn0) wv_X5_sendBehindAll rfl ⟨rfl, rfl, rfl, rfl, by decide⟩ fk5 0 rfl ml_RX5_75 [2, 3, 0, 1, 4] rfl (fun _ => rfl) ⟨Nat.le_of_ble_eq_true rfl, Nat.le_of_ble_eq_true rfl⟩ ⟨Nat.le_of_ble_eq_true rfl, Nat.le_of_ble_eq_true rfl⟩ (Nat.le_of_ble_eq_true rfl) hl rfl dX5_feedSea_68 (fun u H locs hq h => ?_)
      have h : HS D A s H locs [(h0, .inr (5, [.ref h1, .ref h2, .ref h3, .ref h4, .int hr, .int (hto bar w (ρ 0))])), (h1, .inr (1, [.ref h5, .ref h6, .int (nI n), .int bar])), (h2, .inl (cI, 5, .inl (upd w (ρ 0) ((w (ρ 0)) - (hmu bar w (ρ 0)))))), (h3, .inl (cI, 5, .inl (upd tk (ρ 0) ((tk (ρ 0)) + (hmu bar w (ρ 0)))))), (h4, .inl (cI, 5, .inl (ro (hsb n 0 ρ))))] := h
      have hq : True := hq
      refine lv_iload_n hx hb dX5_feedSea_71 rfl (lv_at hl 0 rfl) ?_
      have h := h.arr 2 (g := upd w (ρ 0) (w (ρ 0) - hmu bar w (ρ 0))) rfl (fun j hj => rfl) rfl
      have h := h.arr 3 (g := upd tk (ρ 0) (tk (ρ 0) + hmu bar w (ρ 0))) rfl (fun j hj => rfl) rfl
      have h := h.arr 4 (g := ro (if w (ρ 0) - hmu bar w (ρ 0) = 0 then hsb n 0 ρ else ρ)) rfl (fun j _ => by rw [e4]) rfl
      exact hret (r := hmu bar w (ρ 0)) () dX5_feedSea_72 h (rfl) (rfl)
  · skip
    have et : hto bar w (ρ 0) = nI (ρ 0) := if_neg c_46
    refine lv_iload_n hx hb dX5_feedSea_49 rfl (lv_at hl 1 rfl) ?_
    refine lv_goto (tgt := 54) hx hb dX5_feedSea_50 (by decide) ?_
    refine r_top (y := hto bar w (ρ 0)) (et.symm) ?_
    refine r_put C h fk5 0 5 rfl (by decide) mf_RX5_21 rfl (rfl) rfl (Nat.le_of_ble_eq_true rfl) (ws' := [(h0, .inr (5, [.ref h1, .ref h2, .ref h3, .ref h4, .int hr, .int (hto bar w (ρ 0))])), (h1, .inr (1, [.ref h5, .ref h6, .int (nI n), .int bar])), (h2, .inl (cI, 5, .inl (upd w (ρ 0) ((w (ρ 0)) - (hmu bar w (ρ 0)))))), (h3, .inl (cI, 5, .inl (upd tk (ρ 0) ((tk (ρ 0)) + (hmu bar w (ρ 0)))))), (h4, .inl (cI, 5, .inl (ro ρ)))]) rfl dX5_feedSea_54 (fun H locs h => ?_)
    refine lv_aload_n hx hb dX5_feedSea_57 rfl (lv_at hl 2 rfl) ?_
    refine r_get C h fk5 0 1 rfl (by decide) mf_RX5_9 rfl dX5_feedSea_58 ?_
    refine lv_iload_n hx hb dX5_feedSea_61 rfl (lv_at hl 1 rfl) ?_
    refine r_ld C h 2 rfl (ρ 0) (rfl) (by omega) (by decide) (x := w (ρ 0) - hmu bar w (ρ 0)) (upd_s _ _ _) dX5_feedSea_62 ?_
    refine lv_if_ne (tgt := 71) hx hb dX5_feedSea_63 (by decide) (fun c_63 => ?_) (fun c_63 => ?_)
    · skip
      have e4 : (if w (ρ 0) - hmu bar w (ρ 0) = 0 then hsb n 0 ρ else ρ) = ρ := if_neg c_63
      refine lv_iload_n hx hb dX5_feedSea_71 rfl (lv_at hl 0 rfl) ?_
      have h := h.arr 2 (g := upd w (ρ 0) (w (ρ 0) - hmu bar w (ρ 0))) rfl (fun j hj => rfl) rfl
      have h := h.arr 3 (g := upd tk (ρ 0) (tk (ρ 0) + hmu bar w (ρ 0))) rfl (fun j hj => rfl) rfl
      have h := h.arr 4 (g := ro (if w (ρ 0) - hmu bar w (ρ 0) = 0 then hsb n 0 ρ else ρ)) rfl (fun j _ => by rw [e4]) rfl
      exact hret (r := hmu bar w (ρ 0)) () dX5_feedSea_72 h (rfl) (rfl)
    · skip
      have e4 : (if w (ρ 0) - hmu bar w (ρ 0) = 0 then hsb n 0 ρ else ρ) = hsb n 0 ρ := if_pos c_63
      refine lv_aload_n hx hb dX5_feedSea_66 rfl (lv_at hl 2 rfl) ?_
      refine lv_iconst (v := 0) hx hb dX5_feedSea_67 (by decide) ?_
      refine k_Vv (rest := []) (as := [.int 0]) (wc := [(h0, .inr (5, [.ref h1, .ref h2, .ref h3, .ref h4, .int hr, .int (hto bar w (ρ 0))])), (h1, .inr (1, [.ref h5, .ref h6, .int (nI n), .int bar])), (h4, .inl (cI, 5, .inl (ro ρ)))]) (wr := [(h2, .inl (cI, 5, .inl (upd w (ρ 0) ((w (ρ 0)) - (hmu bar w (ρ 0)))))), (h3, .inl (cI, 5, .inl (upd tk (ρ 0) ((tk (ρ 0)) + (hmu bar w (ρ 0))))))]) (isC := [0, 1, 4]) (isR := [2, 3]) (w2 := fun (_ : Unit) => [(h0, .inr (5, [.ref h1, .ref h2, .ref h3, .ref h4, .int hr, .int (hto bar w (ρ 0))])), (h1, .inr (1, [.ref h5, .ref h6, .int (nI n), .int bar])), (h2, .inl (cI, 5, .inl (upd w (ρ 0) ((w (ρ 0)) - (hmu bar w (ρ 0)))))), (h3, .inl (cI, 5, .inl (upd tk (ρ 0) ((tk (ρ 0)) + (hmu bar w (ρ 0)))))), (h4, .inl (cI, 5, .inl (ro (hsb n 0 ρ))))]) C h (c_X5_sendBehindAll l D cI cZ kS vS h0 h1 h2 h3 h4 h5 h6 n bar hr (hto bar w (ρ 0)) ρ 0 hn5 hn0) wv_X5_sendBehindAll rfl ⟨rfl, rfl, rfl, rfl, by decide⟩ fk5 0 rfl ml_RX5_75 [2, 3, 0, 1, 4] rfl (fun _ => rfl) ⟨Nat.le_of_ble_eq_true rfl, Nat.le_of_ble_eq_true rfl⟩ ⟨Nat.le_of_ble_eq_true rfl, Nat.le_of_ble_eq_true rfl⟩ (Nat.le_of_ble_eq_true rfl) hl rfl dX5_feedSea_68 (fun u H locs hq h => ?_)
      have h : HS D A s H locs [(h0, .inr (5, [.ref h1, .ref h2, .ref h3, .ref h4, .int hr, .int (hto bar w (ρ 0))])), (h1, .inr (1, [.ref h5, .ref h6, .int (nI n), .int bar])), (h2, .inl (cI, 5, .inl (upd w (ρ 0) ((w (ρ 0)) - (hmu bar w (ρ 0)))))), (h3, .inl (cI, 5, .inl (upd tk (ρ 0) ((tk (ρ 0)) + (hmu bar w (ρ 0)))))), (h4, .inl (cI, 5, .inl (ro (hsb n 0 ρ))))] := h
      have hq : True := hq
      refine lv_iload_n hx hb dX5_feedSea_71 rfl (lv_at hl 0 rfl) ?_
      have h := h.arr 2 (g := upd w (ρ 0) (w (ρ 0) - hmu bar w (ρ 0))) rfl (fun j hj => rfl) rfl
      have h := h.arr 3 (g := upd tk (ρ 0) (tk (ρ 0) + hmu bar w (ρ 0))) rfl (fun j hj => rfl) rfl
      have h := h.arr 4 (g := ro (if w (ρ 0) - hmu bar w (ρ 0) = 0 then hsb n 0 ρ else ρ)) rfl (fun j _ => by rw [e4]) rfl
      exact hret (r := hmu bar w (ρ 0)) () dX5_feedSea_72 h (rfl) (rfl)

set_option maxHeartbeats 4000000 in
set_option maxRecDepth 100000 in
theorem c_X5_passHour (l : Launch) (D : va_G) (cI cZ : ClassId) (kS vS : Nat) (h0 : Nat) (h1 : Nat) (h2 : Nat) (h3 : Nat) (h4 : Nat) (h5 : Nat) (h6 : Nat) (n : Nat) (bar : Int32) (hr : Int32) (to : Int32) (w : Nat → Int32) (tk : Nat → Int32) (ρ : Nat → Nat) (K : Nat → Int32) (F : Nat → Int32) (hn2 : 2 ≤ n) (hn5 : n ≤ 5) (hρ : ∀ j, j < n → ρ j < n) : CI l yX5_passHour cX5_passHour 2 .int D cI cZ kS vS 3 67 0 0 [.ref h0] [(h0, .inr (5, [.ref h1, .ref h2, .ref h3, .ref h4, .int hr, .int to])), (h1, .inr (1, [.ref h5, .ref h6, .int (nI n), .int bar])), (h2, .inl (cI, 5, .inl w)), (h3, .inl (cI, 5, .inl tk)), (h4, .inl (cI, 5, .inl (ro ρ))), (h5, .inl (cI, 5, .inl K)), (h6, .inl (cI, 5, .inl F))] (fun (r : Int32) (_ : Unit) => r = hmm n K F bar w ρ) (fun (_ : Unit) => [(h0, .inr (5, [.ref h1, .ref h2, .ref h3, .ref h4, .int (hr + 1), .int (hoo n K F bar w ρ)])), (h1, .inr (1, [.ref h5, .ref h6, .int (nI n), .int bar])), (h2, .inl (cI, 5, .inl (hww n K F bar w ρ))), (h3, .inl (cI, 5, .inl (htt n K F bar w ρ tk))), (h4, .inl (cI, 5, .inl (ro (hrr n K F bar w ρ)))), (h5, .inl (cI, 5, .inl K)), (h6, .inl (cI, 5, .inl F))]) := by
  refine CI_intro (by decide) (Nat.le_of_ble_eq_true rfl) ?_
  intro p e s m args below meth c A Q ls C h hret hl
  have C : CX p s m args c cX5_passHour 2 RX5 D cI cZ kS vS A := C
  have hx := C.1.1
  have hb := C.1.2.1
  have hl : lv_has ls 2 [(0, .ref h0)] := hl
  refine lv_iconst (v := 0) hx hb dX5_passHour_0 (by decide) ?_
  refine lv_istore_n (lv' := [(1, .int 0), (0, .ref h0)]) hx hb dX5_passHour_1 rfl hl (by decide) rfl (fun ls hl => ?_)
  have L2 : ∀ (fu : Nat) (i : Nat), (n - i) < fu → (hi : i ≤ n) → ∀ (H : Heap) (locs : List Loc) (ls : Array Slot), HS D A s H locs [(h0, .inr (5, [.ref h1, .ref h2, .ref h3, .ref h4, .int hr, .int to])), (h1, .inr (1, [.ref h5, .ref h6, .int (nI n), .int bar])), (h2, .inl (cI, 5, .inl (hgr i F w))), (h3, .inl (cI, 5, .inl tk)), (h4, .inl (cI, 5, .inl (ro ρ))), (h5, .inl (cI, 5, .inl K)), (h6, .inl (cI, 5, .inl F))] → lv_has ls 2 [(0, .ref h0), (1, .int (nI i))] → W p l e (rmO 3 67 0 0) s m args below meth c H locs 0 0 Q (F0 m 2 ls []) := by
    intro fu
    induction fu with
    | zero => intro i hfu; exact absurd hfu (Nat.not_lt_zero _)
    | succ fu ih2 =>
      intro i hfu hi H locs ls h hl
      refine lv_iload_n hx hb dX5_passHour_2 rfl (lv_at hl 1 rfl) ?_
      refine lv_aload_n hx hb dX5_passHour_3 rfl (lv_at hl 0 rfl) ?_
      refine r_get C h fk5 0 0 rfl (by decide) mf_RX5_25 rfl dX5_passHour_4 ?_
      refine r_getN C h fk1 1 2 6 rfl (by decide) rfl rfl dX5_passHour_7 ?_
      refine lv_icmp_ge (tgt := 34) hx hb dX5_passHour_10 (by decide) (fun c_10 => ?_) (fun c_10 => ?_)
      · skip
        have c_10 := (jle (a := n) (b := i) (by omega) (by omega)).mp c_10
        obtain rfl : n = i := by omega
        have hρ1 := hpp_lt (K := K) (w := hgr n F w) hρ (n - 1) (by omega)
        refine lv_aload_n hx hb dX5_passHour_34 rfl (lv_at hl 0 rfl) ?_
        refine k_Vv (rest := []) (as := []) (wc := [(h0, .inr (5, [.ref h1, .ref h2, .ref h3, .ref h4, .int hr, .int to])), (h1, .inr (1, [.ref h5, .ref h6, .int (nI n), .int bar])), (h2, .inl (cI, 5, .inl (hgr n F w))), (h5, .inl (cI, 5, .inl K)), (h4, .inl (cI, 5, .inl (ro ρ)))]) (wr := [(h3, .inl (cI, 5, .inl tk)), (h6, .inl (cI, 5, .inl F))]) (isC := [0, 1, 2, 5, 4]) (isR := [3, 6]) (w2 := fun (_ : Unit) => [(h0, .inr (5, [.ref h1, .ref h2, .ref h3, .ref h4, .int hr, .int to])), (h1, .inr (1, [.ref h5, .ref h6, .int (nI n), .int bar])), (h2, .inl (cI, 5, .inl (hgr n F w))), (h3, .inl (cI, 5, .inl tk)), (h4, .inl (cI, 5, .inl (ro (hpp K (hgr n F w) ρ (n - 1))))), (h5, .inl (cI, 5, .inl K)), (h6, .inl (cI, 5, .inl F))]) C h (c_X5_pushAll l D cI cZ kS vS h0 h1 h2 h3 h4 h5 h6 n bar hr to (hgr n F w) K ρ hn2 hn5 hρ) wv_X5_pushAll rfl ⟨rfl, rfl, rfl, rfl, by decide⟩ fk5 0 rfl ml_RX5_60 [2, 3, 4, 0, 6, 5, 1] rfl (fun _ => rfl) ⟨Nat.le_of_ble_eq_true rfl, Nat.le_of_ble_eq_true rfl⟩ ⟨Nat.le_of_ble_eq_true rfl, Nat.le_of_ble_eq_true rfl⟩ (Nat.le_of_ble_eq_true rfl) hl rfl dX5_passHour_35 (fun u H locs hq h => ?_)
        have h : HS D A s H locs [(h0, .inr (5, [.ref h1, .ref h2, .ref h3, .ref h4, .int hr, .int to])), (h1, .inr (1, [.ref h5, .ref h6, .int (nI n), .int bar])), (h2, .inl (cI, 5, .inl (hgr n F w))), (h3, .inl (cI, 5, .inl tk)), (h4, .inl (cI, 5, .inl (ro (hpp K (hgr n F w) ρ (n - 1))))), (h5, .inl (cI, 5, .inl K)), (h6, .inl (cI, 5, .inl F))] := h
        have hq : True := hq
        refine lv_aload_n hx hb dX5_passHour_38 rfl (lv_at hl 0 rfl) ?_
        refine lv_dup hx hb dX5_passHour_39 rfl ?_
        refine r_get C h fk5 0 4 rfl (by decide) mf_RX5_40 rfl dX5_passHour_40 ?_
        refine lv_iconst (v := 1) hx hb dX5_passHour_43 (by decide) ?_
        refine lv_iadd hx hb dX5_passHour_44 ?_
        refine r_put C h fk5 0 4 rfl (by decide) mf_RX5_40 rfl (rfl) rfl (Nat.le_of_ble_eq_true rfl) (ws' := [(h0, .inr (5, [.ref h1, .ref h2, .ref h3, .ref h4, .int (hr + 1), .int to])), (h1, .inr (1, [.ref h5, .ref h6, .int (nI n), .int bar])), (h2, .inl (cI, 5, .inl (hgr n F w))), (h3, .inl (cI, 5, .inl tk)), (h4, .inl (cI, 5, .inl (ro (hpp K (hgr n F w) ρ (n - 1))))), (h5, .inl (cI, 5, .inl K)), (h6, .inl (cI, 5, .inl F))]) rfl dX5_passHour_45 (fun H locs h => ?_)
        refine lv_aload_n hx hb dX5_passHour_48 rfl (lv_at hl 0 rfl) ?_
        refine k_Vi (rest := []) (as := []) (wc := [(h0, .inr (5, [.ref h1, .ref h2, .ref h3, .ref h4, .int (hr + 1), .int to])), (h1, .inr (1, [.ref h5, .ref h6, .int (nI n), .int bar])), (h2, .inl (cI, 5, .inl (hgr n F w))), (h3, .inl (cI, 5, .inl tk)), (h4, .inl (cI, 5, .inl (ro (hpp K (hgr n F w) ρ (n - 1)))))]) (wr := [(h5, .inl (cI, 5, .inl K)), (h6, .inl (cI, 5, .inl F))]) (isC := [0, 1, 2, 3, 4]) (isR := [5, 6]) (w2 := fun (_ : Unit) => [(h0, .inr (5, [.ref h1, .ref h2, .ref h3, .ref h4, .int (hr + 1), .int (hto bar (hgr n F w) ((hpp K (hgr n F w) ρ (n - 1)) 0))])), (h1, .inr (1, [.ref h5, .ref h6, .int (nI n), .int bar])), (h2, .inl (cI, 5, .inl (upd (hgr n F w) ((hpp K (hgr n F w) ρ (n - 1)) 0) ((hgr n F w) ((hpp K (hgr n F w) ρ (n - 1)) 0) - hmu bar (hgr n F w) ((hpp K (hgr n F w) ρ (n - 1)) 0))))), (h3, .inl (cI, 5, .inl (upd tk ((hpp K (hgr n F w) ρ (n - 1)) 0) (tk ((hpp K (hgr n F w) ρ (n - 1)) 0) + hmu bar (hgr n F w) ((hpp K (hgr n F w) ρ (n - 1)) 0))))), (h4, .inl (cI, 5, .inl (ro (if (hgr n F w) ((hpp K (hgr n F w) ρ (n - 1)) 0) - hmu bar (hgr n F w) ((hpp K (hgr n F w) ρ (n - 1)) 0) = 0 then hsb n 0 (hpp K (hgr n F w) ρ (n - 1)) else (hpp K (hgr n F w) ρ (n - 1)))))), (h5, .inl (cI, 5, .inl K)), (h6, .inl (cI, 5, .inl F))]) C h (c_X5_feedSea l D cI cZ kS vS h0 h1 h2 h3 h4 h5 h6 n bar (hr + 1) to (hgr n F w) tk (hpp K (hgr n F w) ρ (n - 1)) hn2 hn5 hρ1) wv_X5_feedSea rfl ⟨rfl, rfl, rfl, rfl, by decide⟩ fk5 0 rfl ml_RX5_63 [2, 3, 4, 5, 6, 0, 1] rfl (fun _ => rfl) ⟨Nat.le_of_ble_eq_true rfl, Nat.le_of_ble_eq_true rfl⟩ ⟨Nat.le_of_ble_eq_true rfl, Nat.le_of_ble_eq_true rfl⟩ (Nat.le_of_ble_eq_true rfl) hl rfl dX5_passHour_49 (fun r u H locs hq h => ?_)
        have h : HS D A s H locs [(h0, .inr (5, [.ref h1, .ref h2, .ref h3, .ref h4, .int (hr + 1), .int (hto bar (hgr n F w) ((hpp K (hgr n F w) ρ (n - 1)) 0))])), (h1, .inr (1, [.ref h5, .ref h6, .int (nI n), .int bar])), (h2, .inl (cI, 5, .inl (upd (hgr n F w) ((hpp K (hgr n F w) ρ (n - 1)) 0) ((hgr n F w) ((hpp K (hgr n F w) ρ (n - 1)) 0) - hmu bar (hgr n F w) ((hpp K (hgr n F w) ρ (n - 1)) 0))))), (h3, .inl (cI, 5, .inl (upd tk ((hpp K (hgr n F w) ρ (n - 1)) 0) (tk ((hpp K (hgr n F w) ρ (n - 1)) 0) + hmu bar (hgr n F w) ((hpp K (hgr n F w) ρ (n - 1)) 0))))), (h4, .inl (cI, 5, .inl (ro (if (hgr n F w) ((hpp K (hgr n F w) ρ (n - 1)) 0) - hmu bar (hgr n F w) ((hpp K (hgr n F w) ρ (n - 1)) 0) = 0 then hsb n 0 (hpp K (hgr n F w) ρ (n - 1)) else (hpp K (hgr n F w) ρ (n - 1)))))), (h5, .inl (cI, 5, .inl K)), (h6, .inl (cI, 5, .inl F))] := h
        have hq : r = hmu bar (hgr n F w) ((hpp K (hgr n F w) ρ (n - 1)) 0) := hq
        have hq := hq.symm
        subst hq
        have h := h.arr 2 (g := hww n K F bar w ρ) rfl (fun j hj => rfl) rfl
        have h := h.arr 3 (g := htt n K F bar w ρ tk) rfl (fun j hj => rfl) rfl
        have h := h.arr 4 (g := ro (hrr n K F bar w ρ)) rfl (fun j hj => rfl) rfl
        exact hret (r := hmu bar (hgr n F w) ((hpp K (hgr n F w) ρ (n - 1)) 0)) () dX5_passHour_52 h (rfl) (rfl)
      · skip
        have c_10 : ¬ n ≤ i := fun z => c_10 ((jle (a := n) (b := i) (by omega) (by omega)).mpr z)
        have hlt : i < n := by omega
        have hk : i < 5 := by omega
        refine lv_aload_n hx hb dX5_passHour_13 rfl (lv_at hl 0 rfl) ?_
        refine lv_iload_n hx hb dX5_passHour_14 rfl (lv_at hl 1 rfl) ?_
        refine lv_aload_n hx hb dX5_passHour_15 rfl (lv_at hl 0 rfl) ?_
        refine r_get C h fk5 0 0 rfl (by decide) mf_RX5_25 rfl dX5_passHour_16 ?_
        refine r_getN C h fk1 1 1 5 rfl (by decide) rfl rfl dX5_passHour_19 ?_
        refine lv_iload_n hx hb dX5_passHour_22 rfl (lv_at hl 1 rfl) ?_
        refine r_ld C h 6 rfl i (rfl) (by omega) (by decide) (x := F i) (rfl) dX5_passHour_23 ?_
        refine k_Vi (rest := []) (as := [.int (nI i), .int (F i)]) (wc := [(h0, .inr (5, [.ref h1, .ref h2, .ref h3, .ref h4, .int hr, .int to])), (h2, .inl (cI, 5, .inl (hgr i F w)))]) (wr := [(h1, .inr (1, [.ref h5, .ref h6, .int (nI n), .int bar])), (h3, .inl (cI, 5, .inl tk)), (h4, .inl (cI, 5, .inl (ro ρ))), (h5, .inl (cI, 5, .inl K)), (h6, .inl (cI, 5, .inl F))]) (isC := [0, 2]) (isR := [1, 3, 4, 5, 6]) (w2 := fun (_ : Unit) => [(h0, .inr (5, [.ref h1, .ref h2, .ref h3, .ref h4, .int hr, .int to])), (h1, .inr (1, [.ref h5, .ref h6, .int (nI n), .int bar])), (h2, .inl (cI, 5, .inl (upd (hgr i F w) i (hcap ((hgr i F w) i + (F i)))))), (h3, .inl (cI, 5, .inl tk)), (h4, .inl (cI, 5, .inl (ro ρ))), (h5, .inl (cI, 5, .inl K)), (h6, .inl (cI, 5, .inl F))]) C h (c_X5_addWater l D cI cZ kS vS h0 h1 h2 h3 h4 hr to (hgr i F w) i (F i) hk) wv_X5_addWater rfl ⟨rfl, rfl, rfl, rfl, by decide⟩ fk5 0 rfl ml_RX5_56 [5, 0, 6, 1, 2, 3, 4] rfl (fun _ => rfl) ⟨Nat.le_of_ble_eq_true rfl, Nat.le_of_ble_eq_true rfl⟩ ⟨Nat.le_of_ble_eq_true rfl, Nat.le_of_ble_eq_true rfl⟩ (Nat.le_of_ble_eq_true rfl) hl rfl dX5_passHour_24 (fun r u H locs hq h => ?_)
        have h : HS D A s H locs [(h0, .inr (5, [.ref h1, .ref h2, .ref h3, .ref h4, .int hr, .int to])), (h1, .inr (1, [.ref h5, .ref h6, .int (nI n), .int bar])), (h2, .inl (cI, 5, .inl (upd (hgr i F w) i (hcap ((hgr i F w) i + (F i)))))), (h3, .inl (cI, 5, .inl tk)), (h4, .inl (cI, 5, .inl (ro ρ))), (h5, .inl (cI, 5, .inl K)), (h6, .inl (cI, 5, .inl F))] := h
        have hq : r = hcap ((hgr i F w) i + (F i)) := hq
        have hq := hq.symm
        subst hq
        refine lv_pop hx hb dX5_passHour_27 rfl ?_
        refine lv_iinc (v := nI (i + 1)) (lv' := [(1, .int (nI (i + 1))), (0, .ref h0)]) hx hb dX5_passHour_28 hl (k := 1) rfl (nI_1 i) (by decide) rfl (fun ls hl => ?_)
        refine lv_goto (tgt := 2) hx hb dX5_passHour_31 (by decide) ?_
        have h := h.arr 2 (g := hgr (i + 1) F w) rfl (fun j _ => hgr_s j) rfl
        exact ih2  (i + 1) (by omega) (by first | assumption | omega) _ _ _ h (lv_sub hl [1, 0] rfl)
  have h := h.arr 2 (g := hgr 0 F w) rfl (fun j _ => by rw [hgr_0]) rfl
  exact L2 ((n - 0) + 1) 0 (by omega) (by first | assumption | omega) _ _ _ h (lv_sub hl [1, 0] rfl)

set_option maxHeartbeats 4000000 in
set_option maxRecDepth 100000 in
theorem c_X5_placeOf (l : Launch) (D : va_G) (cI cZ : ClassId) (kS vS : Nat) (h0 : Nat) (h1 : Nat) (h2 : Nat) (h3 : Nat) (h4 : Nat) (h5 : Nat) (h6 : Nat) (n : Nat) (bar : Int32) (hr : Int32) (to : Int32) (ρ : Nat → Nat) (q : Nat) (hn5 : n ≤ 5) (hρ : ∀ j, j < n → ρ j < n) (hinj : ∀ i j, i < n → j < n → ρ i = ρ j → i = j) (hq0 : q < n) : CI l yX5_placeOf cX5_placeOf 3 .int D cI cZ kS vS 0 0 0 0 [.ref h0, .int (nI (ρ q))] [(h0, .inr (5, [.ref h1, .ref h2, .ref h3, .ref h4, .int hr, .int to])), (h1, .inr (1, [.ref h5, .ref h6, .int (nI n), .int bar])), (h4, .inl (cI, 5, .inl (ro ρ)))] (fun (r : Int32) (_ : Unit) => r = nI q) (fun (_ : Unit) => [(h0, .inr (5, [.ref h1, .ref h2, .ref h3, .ref h4, .int hr, .int to])), (h1, .inr (1, [.ref h5, .ref h6, .int (nI n), .int bar])), (h4, .inl (cI, 5, .inl (ro ρ)))]) := by
  refine CI_intro (by decide) (Nat.le_of_ble_eq_true rfl) ?_
  intro p e s m args below meth c A Q ls C h hret hl
  have C : CX p s m args c cX5_placeOf 3 RX5 D cI cZ kS vS A := C
  have hx := C.1.1
  have hb := C.1.2.1
  have hl : lv_has ls 3 [(0, .ref h0), (1, .int (nI (ρ q)))] := hl
  have r0 := hρ q hq0
  refine lv_iconst (v := 0) hx hb dX5_placeOf_0 (by decide) ?_
  refine lv_istore_n (lv' := [(2, .int 0), (0, .ref h0), (1, .int (nI (ρ q)))]) hx hb dX5_placeOf_1 rfl hl (by decide) rfl (fun ls hl => ?_)
  have L2 : ∀ (fu : Nat) (i : Nat), (n - i) < fu → (hi : i ≤ q) → ∀ (H : Heap) (locs : List Loc) (ls : Array Slot), HS D A s H locs [(h0, .inr (5, [.ref h1, .ref h2, .ref h3, .ref h4, .int hr, .int to])), (h1, .inr (1, [.ref h5, .ref h6, .int (nI n), .int bar])), (h4, .inl (cI, 5, .inl (ro ρ)))] → lv_has ls 3 [(0, .ref h0), (1, .int (nI (ρ q))), (2, .int (nI i))] → W p l e (rmO 0 0 0 0) s m args below meth c H locs 0 0 Q (F0 m 2 ls []) := by
    intro fu
    induction fu with
    | zero => intro i hfu; exact absurd hfu (Nat.not_lt_zero _)
    | succ fu ih2 =>
      intro i hfu hi H locs ls h hl
      refine lv_iload_n hx hb dX5_placeOf_2 rfl (lv_at hl 2 rfl) ?_
      refine lv_aload_n hx hb dX5_placeOf_3 rfl (lv_at hl 0 rfl) ?_
      refine r_get C h fk5 0 0 rfl (by decide) mf_RX5_25 rfl dX5_placeOf_4 ?_
      refine r_getN C h fk1 1 2 6 rfl (by decide) rfl rfl dX5_placeOf_7 ?_
      refine lv_icmp_ge (tgt := 31) hx hb dX5_placeOf_10 (by decide) (fun c_10 => ?_) (fun c_10 => ?_)
      · skip
        have c_10 := (jle (a := n) (b := i) (by omega) (by omega)).mp c_10
        exact absurd c_10 (by omega)
      · skip
        have c_10 : ¬ n ≤ i := fun z => c_10 ((jle (a := n) (b := i) (by omega) (by omega)).mpr z)
        have hlt : i < n := by omega
        have r1 := hρ i hlt
        refine lv_aload_n hx hb dX5_placeOf_13 rfl (lv_at hl 0 rfl) ?_
        refine r_get C h fk5 0 3 rfl (by decide) mf_RX5_18 rfl dX5_placeOf_14 ?_
        refine lv_iload_n hx hb dX5_placeOf_17 rfl (lv_at hl 2 rfl) ?_
        refine r_ld C h 2 rfl i (rfl) (by omega) (by decide) (x := nI (ρ i)) (rfl) dX5_placeOf_18 ?_
        refine lv_iload_n hx hb dX5_placeOf_19 rfl (lv_at hl 1 rfl) ?_
        refine lv_icmp_ne (tgt := 25) hx hb dX5_placeOf_20 (by decide) (fun c_20 => ?_) (fun c_20 => ?_)
        · skip
          have c_20 : ¬ (ρ i) = (ρ q) := fun z => c_20 ((jeq (a := (ρ i)) (b := (ρ q)) (by omega) (by omega)).mpr z)
          refine lv_iinc (v := nI (i + 1)) (lv' := [(2, .int (nI (i + 1))), (0, .ref h0), (1, .int (nI (ρ q)))]) hx hb dX5_placeOf_25 hl (k := 2) rfl (nI_1 i) (by decide) rfl (fun ls hl => ?_)
          refine lv_goto (tgt := 2) hx hb dX5_placeOf_28 (by decide) ?_
          exact ih2  (i + 1) (by omega) (Nat.lt_of_le_of_ne hi (fun z => c_20 (by rw [z]))) _ _ _ h (lv_sub hl [1, 2, 0] rfl)
        · skip
          have c_20 := (jeq (a := (ρ i)) (b := (ρ q)) (by omega) (by omega)).mp c_20
          refine lv_iload_n hx hb dX5_placeOf_23 rfl (lv_at hl 2 rfl) ?_
          exact hret (r := nI i) () dX5_placeOf_24 h (rfl) (congrArg nI (hinj _ _ hlt hq0 c_20))
  exact L2 ((n - 0) + 1) 0 (by omega) (by first | assumption | omega) _ _ _ h (lv_sub hl [1, 2, 0] rfl)

set_option maxHeartbeats 4000000 in
set_option maxRecDepth 100000 in
theorem c_X5_dryUp (l : Launch) (D : va_G) (cI cZ : ClassId) (kS vS : Nat) (h0 : Nat) (h1 : Nat) (h2 : Nat) (h3 : Nat) (h4 : Nat) (h5 : Nat) (h6 : Nat) (n : Nat) (bar : Int32) (hr : Int32) (to : Int32) (w : Nat → Int32) (ρ : Nat → Nat) (q : Nat) (hn5 : n ≤ 5) (hρ : ∀ j, j < n → ρ j < n) (hinj : ∀ i j, i < n → j < n → ρ i = ρ j → i = j) (hq0 : q < n) : CI l yX5_dryUp cX5_dryUp 3 .int D cI cZ kS vS 2 45 0 0 [.ref h0, .int (nI (ρ q))] [(h0, .inr (5, [.ref h1, .ref h2, .ref h3, .ref h4, .int hr, .int to])), (h1, .inr (1, [.ref h5, .ref h6, .int (nI n), .int bar])), (h2, .inl (cI, 5, .inl w)), (h4, .inl (cI, 5, .inl (ro ρ)))] (fun (r : Int32) (_ : Unit) => r = w (ρ q)) (fun (_ : Unit) => [(h0, .inr (5, [.ref h1, .ref h2, .ref h3, .ref h4, .int hr, .int to])), (h1, .inr (1, [.ref h5, .ref h6, .int (nI n), .int bar])), (h2, .inl (cI, 5, .inl (upd w (ρ q) 0))), (h4, .inl (cI, 5, .inl (ro (hsb n q ρ))))]) := by
  refine CI_intro (by decide) (Nat.le_of_ble_eq_true rfl) ?_
  intro p e s m args below meth c A Q ls C h hret hl
  have C : CX p s m args c cX5_dryUp 3 RX5 D cI cZ kS vS A := C
  have hx := C.1.1
  have hb := C.1.2.1
  have hl : lv_has ls 3 [(0, .ref h0), (1, .int (nI (ρ q)))] := hl
  have r0 := hρ q hq0
  refine lv_aload_n hx hb dX5_dryUp_0 rfl (lv_at hl 0 rfl) ?_
  refine r_get C h fk5 0 1 rfl (by decide) mf_RX5_9 rfl dX5_dryUp_1 ?_
  refine lv_iload_n hx hb dX5_dryUp_4 rfl (lv_at hl 1 rfl) ?_
  refine r_ld C h 2 rfl (ρ q) (rfl) (by omega) (by decide) (x := w (ρ q)) (rfl) dX5_dryUp_5 ?_
  refine lv_istore_n (lv' := [(2, .int (w (ρ q))), (0, .ref h0), (1, .int (nI (ρ q)))]) hx hb dX5_dryUp_6 rfl hl (by decide) rfl (fun ls hl => ?_)
  refine lv_aload_n hx hb dX5_dryUp_7 rfl (lv_at hl 1 rfl) ?_
  refine r_get C h fk5 0 1 rfl (by decide) mf_RX5_9 rfl dX5_dryUp_8 ?_
  refine lv_iload_n hx hb dX5_dryUp_11 rfl (lv_at hl 2 rfl) ?_
  refine lv_iconst (v := 0) hx hb dX5_dryUp_12 (by decide) ?_
  refine r_st C h 2 rfl (ρ q) (rfl) (by omega) (by decide) (g := upd w (ρ q) 0) (fun _ _ => rfl) (ws' := [(h0, .inr (5, [.ref h1, .ref h2, .ref h3, .ref h4, .int hr, .int to])), (h1, .inr (1, [.ref h5, .ref h6, .int (nI n), .int bar])), (h2, .inl (cI, 5, .inl (upd w (ρ q) 0))), (h4, .inl (cI, 5, .inl (ro ρ)))]) rfl dX5_dryUp_13 (fun H locs h => ?_)
  refine lv_aload_n hx hb dX5_dryUp_14 rfl (lv_at hl 1 rfl) ?_
  refine lv_aload_n hx hb dX5_dryUp_15 rfl (lv_at hl 1 rfl) ?_
  refine lv_iload_n hx hb dX5_dryUp_16 rfl (lv_at hl 2 rfl) ?_
  refine k_Vi (rest := [.ref h0]) (as := [.int (nI (ρ q))]) (wc := [(h0, .inr (5, [.ref h1, .ref h2, .ref h3, .ref h4, .int hr, .int to])), (h1, .inr (1, [.ref h5, .ref h6, .int (nI n), .int bar])), (h4, .inl (cI, 5, .inl (ro ρ)))]) (wr := [(h2, .inl (cI, 5, .inl (upd w (ρ q) 0)))]) (isC := [0, 1, 3]) (isR := [2]) (w2 := fun (_ : Unit) => [(h0, .inr (5, [.ref h1, .ref h2, .ref h3, .ref h4, .int hr, .int to])), (h1, .inr (1, [.ref h5, .ref h6, .int (nI n), .int bar])), (h2, .inl (cI, 5, .inl (upd w (ρ q) 0))), (h4, .inl (cI, 5, .inl (ro ρ)))]) C h (c_X5_placeOf l D cI cZ kS vS h0 h1 h2 h3 h4 h5 h6 n bar hr to ρ q hn5 hρ hinj hq0) wv_X5_placeOf rfl ⟨rfl, rfl, rfl, rfl, by decide⟩ fk5 0 rfl ml_RX5_72 [1, 2, 0, 3] rfl (fun _ => rfl) ⟨Nat.le_of_ble_eq_true rfl, Nat.le_of_ble_eq_true rfl⟩ ⟨Nat.le_of_ble_eq_true rfl, Nat.le_of_ble_eq_true rfl⟩ (Nat.le_of_ble_eq_true rfl) hl rfl dX5_dryUp_17 (fun r u H locs hq h => ?_)
  have h : HS D A s H locs [(h0, .inr (5, [.ref h1, .ref h2, .ref h3, .ref h4, .int hr, .int to])), (h1, .inr (1, [.ref h5, .ref h6, .int (nI n), .int bar])), (h2, .inl (cI, 5, .inl (upd w (ρ q) 0))), (h4, .inl (cI, 5, .inl (ro ρ)))] := h
  have hq : r = nI q := hq
  have hq := hq.symm
  subst hq
  refine k_Vv (rest := []) (as := [.int (nI q)]) (wc := [(h0, .inr (5, [.ref h1, .ref h2, .ref h3, .ref h4, .int hr, .int to])), (h1, .inr (1, [.ref h5, .ref h6, .int (nI n), .int bar])), (h4, .inl (cI, 5, .inl (ro ρ)))]) (wr := [(h2, .inl (cI, 5, .inl (upd w (ρ q) 0)))]) (isC := [0, 1, 3]) (isR := [2]) (w2 := fun (_ : Unit) => [(h0, .inr (5, [.ref h1, .ref h2, .ref h3, .ref h4, .int hr, .int to])), (h1, .inr (1, [.ref h5, .ref h6, .int (nI n), .int bar])), (h2, .inl (cI, 5, .inl (upd w (ρ q) 0))), (h4, .inl (cI, 5, .inl (ro (hsb n q ρ))))]) C h (c_X5_sendBehindAll l D cI cZ kS vS h0 h1 h2 h3 h4 h5 h6 n bar hr to ρ q hn5 hq0) wv_X5_sendBehindAll rfl ⟨rfl, rfl, rfl, rfl, by decide⟩ fk5 0 rfl ml_RX5_75 [1, 2, 0, 3] rfl (fun _ => rfl) ⟨Nat.le_of_ble_eq_true rfl, Nat.le_of_ble_eq_true rfl⟩ ⟨Nat.le_of_ble_eq_true rfl, Nat.le_of_ble_eq_true rfl⟩ (Nat.le_of_ble_eq_true rfl) hl rfl dX5_dryUp_20 (fun u H locs hq h => ?_)
  have h : HS D A s H locs [(h0, .inr (5, [.ref h1, .ref h2, .ref h3, .ref h4, .int hr, .int to])), (h1, .inr (1, [.ref h5, .ref h6, .int (nI n), .int bar])), (h2, .inl (cI, 5, .inl (upd w (ρ q) 0))), (h4, .inl (cI, 5, .inl (ro (hsb n q ρ))))] := h
  have hq : True := hq
  refine lv_iload_n hx hb dX5_dryUp_23 rfl (lv_at hl 0 rfl) ?_
  exact hret (r := w (ρ q)) () dX5_dryUp_24 h (rfl) (rfl)

set_option maxHeartbeats 4000000 in
set_option maxRecDepth 100000 in
theorem c_X5_copyFrom (l : Launch) (D : va_G) (cI cZ : ClassId) (kS vS : Nat) (h0 : Nat) (h1 : Nat) (h2 : Nat) (h3 : Nat) (h4 : Nat) (g0 : Nat) (g1 : Nat) (g2 : Nat) (g3 : Nat) (g4 : Nat) (hr : Int32) (to : Int32) (hr2 : Int32) (to2 : Int32) (w : Nat → Int32) (tk : Nat → Int32) (rr : Nat → Int32) (w2 : Nat → Int32) (tk2 : Nat → Int32) (rr2 : Nat → Int32)  : CV l yX5_copyFrom cX5_copyFrom 2 D cI cZ kS vS 1 18 0 0 [.ref h0, .ref g0] [(h0, .inr (5, [.ref h1, .ref h2, .ref h3, .ref h4, .int hr, .int to])), (h2, .inl (cI, 5, .inl w)), (h3, .inl (cI, 5, .inl tk)), (h4, .inl (cI, 5, .inl rr)), (g0, .inr (5, [.ref g1, .ref g2, .ref g3, .ref g4, .int hr2, .int to2])), (g2, .inl (cI, 5, .inl w2)), (g3, .inl (cI, 5, .inl tk2)), (g4, .inl (cI, 5, .inl rr2))] (fun (_ : Unit) => True) (fun (_ : Unit) => [(h0, .inr (5, [.ref h1, .ref h2, .ref h3, .ref h4, .int hr2, .int to])), (h2, .inl (cI, 5, .inl w2)), (h3, .inl (cI, 5, .inl tk2)), (h4, .inl (cI, 5, .inl rr2)), (g0, .inr (5, [.ref g1, .ref g2, .ref g3, .ref g4, .int hr2, .int to2])), (g2, .inl (cI, 5, .inl w2)), (g3, .inl (cI, 5, .inl tk2)), (g4, .inl (cI, 5, .inl rr2))]) := by
  refine CV_intro (by decide) (Nat.le_of_ble_eq_true rfl) ?_
  intro p e s m args below meth c A Q ls C hini h hret hl
  have C : CX p s m args c cX5_copyFrom 2 RX5 D cI cZ kS vS A := C
  have hx := C.1.1
  have hb := C.1.2.1
  have hl : lv_has ls 2 [(0, .ref h0), (1, .ref g0)] := hl
  refine lv_aload_n hx hb dX5_copyFrom_0 rfl (lv_at hl 1 rfl) ?_
  refine r_get C h fk5 4 1 rfl (by decide) mf_RX5_9 rfl dX5_copyFrom_1 ?_
  refine lv_iconst (v := 0) hx hb dX5_copyFrom_4 (by decide) ?_
  refine lv_aload_n hx hb dX5_copyFrom_5 rfl (lv_at hl 0 rfl) ?_
  refine r_get C h fk5 0 1 rfl (by decide) mf_RX5_9 rfl dX5_copyFrom_6 ?_
  refine lv_iconst (v := 0) hx hb dX5_copyFrom_9 (by decide) ?_
  refine lv_iconst (v := 5) hx hb dX5_copyFrom_10 (by decide) ?_
  refine r_copy C h ml_RX5_43 5 1 rfl rfl 5 rfl rfl rfl (by decide) (by decide) (by decide) (f' := w2) (fun j hj => cpy_all hj) (ws' := [(h0, .inr (5, [.ref h1, .ref h2, .ref h3, .ref h4, .int hr, .int to])), (h2, .inl (cI, 5, .inl w2)), (h3, .inl (cI, 5, .inl tk)), (h4, .inl (cI, 5, .inl rr)), (g0, .inr (5, [.ref g1, .ref g2, .ref g3, .ref g4, .int hr2, .int to2])), (g2, .inl (cI, 5, .inl w2)), (g3, .inl (cI, 5, .inl tk2)), (g4, .inl (cI, 5, .inl rr2))]) rfl hl ⟨Nat.le_of_ble_eq_true rfl, Nat.le_of_ble_eq_true rfl⟩ dX5_copyFrom_11 (fun H locs h => ?_)
  refine lv_aload_n hx hb dX5_copyFrom_14 rfl (lv_at hl 1 rfl) ?_
  refine r_get C h fk5 4 2 rfl (by decide) mf_RX5_15 rfl dX5_copyFrom_15 ?_
  refine lv_iconst (v := 0) hx hb dX5_copyFrom_18 (by decide) ?_
  refine lv_aload_n hx hb dX5_copyFrom_19 rfl (lv_at hl 0 rfl) ?_
  refine r_get C h fk5 0 2 rfl (by decide) mf_RX5_15 rfl dX5_copyFrom_20 ?_
  refine lv_iconst (v := 0) hx hb dX5_copyFrom_23 (by decide) ?_
  refine lv_iconst (v := 5) hx hb dX5_copyFrom_24 (by decide) ?_
  refine r_copy C h ml_RX5_43 6 2 rfl rfl 5 rfl rfl rfl (by decide) (by decide) (by decide) (f' := tk2) (fun j hj => cpy_all hj) (ws' := [(h0, .inr (5, [.ref h1, .ref h2, .ref h3, .ref h4, .int hr, .int to])), (h2, .inl (cI, 5, .inl w2)), (h3, .inl (cI, 5, .inl tk2)), (h4, .inl (cI, 5, .inl rr)), (g0, .inr (5, [.ref g1, .ref g2, .ref g3, .ref g4, .int hr2, .int to2])), (g2, .inl (cI, 5, .inl w2)), (g3, .inl (cI, 5, .inl tk2)), (g4, .inl (cI, 5, .inl rr2))]) rfl hl ⟨Nat.le_of_ble_eq_true rfl, Nat.le_of_ble_eq_true rfl⟩ dX5_copyFrom_25 (fun H locs h => ?_)
  refine lv_aload_n hx hb dX5_copyFrom_28 rfl (lv_at hl 1 rfl) ?_
  refine r_get C h fk5 4 3 rfl (by decide) mf_RX5_18 rfl dX5_copyFrom_29 ?_
  refine lv_iconst (v := 0) hx hb dX5_copyFrom_32 (by decide) ?_
  refine lv_aload_n hx hb dX5_copyFrom_33 rfl (lv_at hl 0 rfl) ?_
  refine r_get C h fk5 0 3 rfl (by decide) mf_RX5_18 rfl dX5_copyFrom_34 ?_
  refine lv_iconst (v := 0) hx hb dX5_copyFrom_37 (by decide) ?_
  refine lv_iconst (v := 5) hx hb dX5_copyFrom_38 (by decide) ?_
  refine r_copy C h ml_RX5_43 7 3 rfl rfl 5 rfl rfl rfl (by decide) (by decide) (by decide) (f' := rr2) (fun j hj => cpy_all hj) (ws' := [(h0, .inr (5, [.ref h1, .ref h2, .ref h3, .ref h4, .int hr, .int to])), (h2, .inl (cI, 5, .inl w2)), (h3, .inl (cI, 5, .inl tk2)), (h4, .inl (cI, 5, .inl rr2)), (g0, .inr (5, [.ref g1, .ref g2, .ref g3, .ref g4, .int hr2, .int to2])), (g2, .inl (cI, 5, .inl w2)), (g3, .inl (cI, 5, .inl tk2)), (g4, .inl (cI, 5, .inl rr2))]) rfl hl ⟨Nat.le_of_ble_eq_true rfl, Nat.le_of_ble_eq_true rfl⟩ dX5_copyFrom_39 (fun H locs h => ?_)
  refine lv_aload_n hx hb dX5_copyFrom_42 rfl (lv_at hl 0 rfl) ?_
  refine lv_aload_n hx hb dX5_copyFrom_43 rfl (lv_at hl 1 rfl) ?_
  refine r_get C h fk5 4 4 rfl (by decide) mf_RX5_40 rfl dX5_copyFrom_44 ?_
  refine r_put C h fk5 0 4 rfl (by decide) mf_RX5_40 rfl (rfl) rfl (Nat.le_of_ble_eq_true rfl) (ws' := [(h0, .inr (5, [.ref h1, .ref h2, .ref h3, .ref h4, .int hr2, .int to])), (h2, .inl (cI, 5, .inl w2)), (h3, .inl (cI, 5, .inl tk2)), (h4, .inl (cI, 5, .inl rr2)), (g0, .inr (5, [.ref g1, .ref g2, .ref g3, .ref g4, .int hr2, .int to2])), (g2, .inl (cI, 5, .inl w2)), (g3, .inl (cI, 5, .inl tk2)), (g4, .inl (cI, 5, .inl rr2))]) rfl dX5_copyFrom_47 (fun H locs h => ?_)
  exact hret () dX5_copyFrom_50 h (trivial)

