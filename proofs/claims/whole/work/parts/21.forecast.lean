set_option maxHeartbeats 4000000 in
set_option maxRecDepth 100000 in
theorem c_X3_waitsOf (l : Launch) (D : va_G) (cI cZ : ClassId) (kS vS : Nat) (h0 : Nat) (oc : Nat) (on : Nat) (os : Nat) (ot : Nat) (od : Nat) (oo : Nat) (oy : Nat) (t2 : Nat) (t3 : Nat) (t4 : Nat) (n2 : Nat) (n3 : Nat) (n4 : Nat) (c5 : Nat) (c6 : Nat) (n : Nat) (bar : Int32) (K : Nat → Int32) (F : Nat → Int32) (w : Nat → Int32) (ρ : Nat → Nat) (tk : Nat → Int32) (hr : Int32) (to : Int32) (hv : Int32) (tv : Int32) (tw : Nat → Int32) (tk2 : Nat → Int32) (tr : Nat → Int32) (x : Int32) (hn2 : 2 ≤ n) (hn5 : n ≤ 5) (hpm : PM n ρ) : CI l yX3_waitsOf cX3_waitsOf 3 .int D cI cZ kS vS 4 88 0 0 [.ref h0, .int x] [(h0, .inr (3, [.ref oc, .ref on, .ref os, .ref ot, .ref od, .ref oo, .ref oy])), (ot, .inr (5, [.ref oc, .ref t2, .ref t3, .ref t4, .int hv, .int tv])), (t2, .inl (cI, 5, .inl tw)), (t3, .inl (cI, 5, .inl tk2)), (t4, .inl (cI, 5, .inl tr)), (on, .inr (5, [.ref oc, .ref n2, .ref n3, .ref n4, .int hr, .int to])), (n2, .inl (cI, 5, .inl w)), (n3, .inl (cI, 5, .inl tk)), (n4, .inl (cI, 5, .inl (ro ρ))), (oc, .inr (1, [.ref c5, .ref c6, .int (nI n), .int bar])), (c5, .inl (cI, 5, .inl K)), (c6, .inl (cI, 5, .inl F))] (fun (r : Int32) (u : Int32 × Int32 × (Nat → Int32) × (Nat → Int32) × (Nat → Int32)) => r = hwt n K F bar w ρ x 60 0) (fun (u : Int32 × Int32 × (Nat → Int32) × (Nat → Int32) × (Nat → Int32)) => [(h0, .inr (3, [.ref oc, .ref on, .ref os, .ref ot, .ref od, .ref oo, .ref oy])), (ot, .inr (5, [.ref oc, .ref t2, .ref t3, .ref t4, .int u.1, .int u.2.1])), (t2, .inl (cI, 5, .inl u.2.2.1)), (t3, .inl (cI, 5, .inl u.2.2.2.1)), (t4, .inl (cI, 5, .inl u.2.2.2.2)), (on, .inr (5, [.ref oc, .ref n2, .ref n3, .ref n4, .int hr, .int to])), (n2, .inl (cI, 5, .inl w)), (n3, .inl (cI, 5, .inl tk)), (n4, .inl (cI, 5, .inl (ro ρ))), (oc, .inr (1, [.ref c5, .ref c6, .int (nI n), .int bar])), (c5, .inl (cI, 5, .inl K)), (c6, .inl (cI, 5, .inl F))]) := by
  refine CI_intro (by decide) (Nat.le_of_ble_eq_true rfl) ?_
  intro p e s m args below meth c A Q ls C h hret hl
  have C : CX p s m args c cX3_waitsOf 3 RX3 D cI cZ kS vS A := C
  have hx := C.1.1
  have hb := C.1.2.1
  have hl : lv_has ls 3 [(0, .ref h0), (1, .int x)] := hl
  refine lv_aload_n hx hb dX3_waitsOf_0 rfl (lv_at hl 0 rfl) ?_
  refine r_get C h fk3 0 3 rfl (by decide) mf_RX3_42 rfl dX3_waitsOf_1 ?_
  refine lv_aload_n hx hb dX3_waitsOf_4 rfl (lv_at hl 0 rfl) ?_
  refine r_get C h fk3 0 1 rfl (by decide) mf_RX3_29 rfl dX3_waitsOf_5 ?_
  refine k_Vv (rest := []) (as := [.ref on]) (wc := [(ot, .inr (5, [.ref oc, .ref t2, .ref t3, .ref t4, .int hv, .int tv])), (t2, .inl (cI, 5, .inl tw)), (t3, .inl (cI, 5, .inl tk2)), (t4, .inl (cI, 5, .inl tr)), (on, .inr (5, [.ref oc, .ref n2, .ref n3, .ref n4, .int hr, .int to])), (n2, .inl (cI, 5, .inl w)), (n3, .inl (cI, 5, .inl tk)), (n4, .inl (cI, 5, .inl (ro ρ)))]) (wr := [(h0, .inr (3, [.ref oc, .ref on, .ref os, .ref ot, .ref od, .ref oo, .ref oy])), (oc, .inr (1, [.ref c5, .ref c6, .int (nI n), .int bar])), (c5, .inl (cI, 5, .inl K)), (c6, .inl (cI, 5, .inl F))]) (isC := [1, 2, 3, 4, 5, 6, 7, 8]) (isR := [0, 9, 10, 11]) (w2 := fun (_ : Unit) => [(h0, .inr (3, [.ref oc, .ref on, .ref os, .ref ot, .ref od, .ref oo, .ref oy])), (ot, .inr (5, [.ref oc, .ref t2, .ref t3, .ref t4, .int hr, .int tv])), (t2, .inl (cI, 5, .inl w)), (t3, .inl (cI, 5, .inl tk)), (t4, .inl (cI, 5, .inl (ro ρ))), (on, .inr (5, [.ref oc, .ref n2, .ref n3, .ref n4, .int hr, .int to])), (n2, .inl (cI, 5, .inl w)), (n3, .inl (cI, 5, .inl tk)), (n4, .inl (cI, 5, .inl (ro ρ))), (oc, .inr (1, [.ref c5, .ref c6, .int (nI n), .int bar])), (c5, .inl (cI, 5, .inl K)), (c6, .inl (cI, 5, .inl F))]) C h (c_X5_copyFrom l D cI cZ kS vS ot oc t2 t3 t4 on oc n2 n3 n4 hv tv hr to tw tk2 tr w tk (ro ρ) ) wv_X5_copyFrom rfl ⟨rfl, rfl, rfl, rfl, by decide⟩ fk5 1 rfl ml_RX3_45 [0, 4, 5, 6, 7, 8, 9, 10, 11, 1, 2, 3] rfl (fun _ => rfl) ⟨Nat.le_of_ble_eq_true rfl, Nat.le_of_ble_eq_true rfl⟩ ⟨Nat.le_of_ble_eq_true rfl, Nat.le_of_ble_eq_true rfl⟩ (Nat.le_of_ble_eq_true rfl) hl rfl dX3_waitsOf_8 (fun u H locs hq h => ?_)
  have h : HS D A s H locs [(h0, .inr (3, [.ref oc, .ref on, .ref os, .ref ot, .ref od, .ref oo, .ref oy])), (ot, .inr (5, [.ref oc, .ref t2, .ref t3, .ref t4, .int hr, .int tv])), (t2, .inl (cI, 5, .inl w)), (t3, .inl (cI, 5, .inl tk)), (t4, .inl (cI, 5, .inl (ro ρ))), (on, .inr (5, [.ref oc, .ref n2, .ref n3, .ref n4, .int hr, .int to])), (n2, .inl (cI, 5, .inl w)), (n3, .inl (cI, 5, .inl tk)), (n4, .inl (cI, 5, .inl (ro ρ))), (oc, .inr (1, [.ref c5, .ref c6, .int (nI n), .int bar])), (c5, .inl (cI, 5, .inl K)), (c6, .inl (cI, 5, .inl F))] := h
  have hq : True := hq
  refine lv_iconst (v := 1) hx hb dX3_waitsOf_11 (by decide) ?_
  refine lv_istore_n (lv' := [(2, .int 1), (0, .ref h0), (1, .int x)]) hx hb dX3_waitsOf_12 rfl hl (by decide) rfl (fun ls hl => ?_)
  have L13 : ∀ (fu : Nat) (k : Nat) (hv1 : Int32) (tv1 : Int32) (tk1 : Nat → Int32), (60 - k) < fu → (hk : k ≤ 60) → (hv0 : hwt n K F bar w ρ x (60 - k) k = hwt n K F bar w ρ x 60 0) → ∀ (H : Heap) (locs : List Loc) (ls : Array Slot), HS D A s H locs [(h0, .inr (3, [.ref oc, .ref on, .ref os, .ref ot, .ref od, .ref oo, .ref oy])), (ot, .inr (5, [.ref oc, .ref t2, .ref t3, .ref t4, .int hv1, .int tv1])), (t2, .inl (cI, 5, .inl (hit n K F bar w ρ k).1)), (t3, .inl (cI, 5, .inl tk1)), (t4, .inl (cI, 5, .inl (ro (hit n K F bar w ρ k).2))), (on, .inr (5, [.ref oc, .ref n2, .ref n3, .ref n4, .int hr, .int to])), (n2, .inl (cI, 5, .inl w)), (n3, .inl (cI, 5, .inl tk)), (n4, .inl (cI, 5, .inl (ro ρ))), (oc, .inr (1, [.ref c5, .ref c6, .int (nI n), .int bar])), (c5, .inl (cI, 5, .inl K)), (c6, .inl (cI, 5, .inl F))] → lv_has ls 3 [(0, .ref h0), (1, .int x), (2, .int (nI (k + 1)))] → W p l e (rmO 4 88 0 0) s m args below meth c H locs 0 0 Q (F0 m 13 ls []) := by
    intro fu
    induction fu with
    | zero => intro k hv1 tv1 tk1 hfu; exact absurd hfu (Nat.not_lt_zero _)
    | succ fu ih13 =>
      intro k hv1 tv1 tk1 hfu hk hv0 H locs ls h hl
      refine lv_iload_n hx hb dX3_waitsOf_13 rfl (lv_at hl 2 rfl) ?_
      refine lv_bipush (v := 60) hx hb dX3_waitsOf_14 (by decide) ?_
      refine lv_icmp_gt (tgt := 46) hx hb dX3_waitsOf_16 (by decide) (fun c_16 => ?_) (fun c_16 => ?_)
      · skip
        have c_16 := (jlt (a := 60) (b := (k + 1)) (by omega) (by omega)).mp c_16
        obtain rfl : 60 = k := by omega
        refine lv_iconst (v := (-1)) hx hb dX3_waitsOf_46 (by decide) ?_
        exact hret (r := (-1)) (⟨hv1, tv1, (hit n K F bar w ρ 60).1, tk1, ro (hit n K F bar w ρ 60).2⟩) dX3_waitsOf_47 h (rfl) (hv0)
      · skip
        have c_16 : ¬ 60 < (k + 1) := fun z => c_16 ((jlt (a := 60) (b := (k + 1)) (by omega) (by omega)).mpr z)
        have hlt : k < 60 := by omega
        have hpk := hpm.hit (K := K) (F := F) (bar := bar) (w := w) hn2 k
        have hs0 := hwt_s (n := n) (K := K) (F := F) (bar := bar) (w := w) (ρ := ρ) (x := x) hlt
        refine lv_aload_n hx hb dX3_waitsOf_19 rfl (lv_at hl 0 rfl) ?_
        refine r_get C h fk3 0 3 rfl (by decide) mf_RX3_42 rfl dX3_waitsOf_20 ?_
        refine k_Vi (rest := []) (as := []) (wc := [(ot, .inr (5, [.ref oc, .ref t2, .ref t3, .ref t4, .int hv1, .int tv1])), (oc, .inr (1, [.ref c5, .ref c6, .int (nI n), .int bar])), (t2, .inl (cI, 5, .inl (hit n K F bar w ρ k).1)), (t3, .inl (cI, 5, .inl tk1)), (t4, .inl (cI, 5, .inl (ro (hit n K F bar w ρ k).2))), (c5, .inl (cI, 5, .inl K)), (c6, .inl (cI, 5, .inl F))]) (wr := [(h0, .inr (3, [.ref oc, .ref on, .ref os, .ref ot, .ref od, .ref oo, .ref oy])), (on, .inr (5, [.ref oc, .ref n2, .ref n3, .ref n4, .int hr, .int to])), (n2, .inl (cI, 5, .inl w)), (n3, .inl (cI, 5, .inl tk)), (n4, .inl (cI, 5, .inl (ro ρ)))]) (isC := [1, 9, 2, 3, 4, 10, 11]) (isR := [0, 5, 6, 7, 8]) (w2 := fun (_ : Unit) => [(h0, .inr (3, [.ref oc, .ref on, .ref os, .ref ot, .ref od, .ref oo, .ref oy])), (ot, .inr (5, [.ref oc, .ref t2, .ref t3, .ref t4, .int (hv1 + 1), .int (hoo n K F bar (hit n K F bar w ρ k).1 (hit n K F bar w ρ k).2)])), (t2, .inl (cI, 5, .inl (hww n K F bar (hit n K F bar w ρ k).1 (hit n K F bar w ρ k).2))), (t3, .inl (cI, 5, .inl (htt n K F bar (hit n K F bar w ρ k).1 (hit n K F bar w ρ k).2 tk1))), (t4, .inl (cI, 5, .inl (ro (hrr n K F bar (hit n K F bar w ρ k).1 (hit n K F bar w ρ k).2)))), (on, .inr (5, [.ref oc, .ref n2, .ref n3, .ref n4, .int hr, .int to])), (n2, .inl (cI, 5, .inl w)), (n3, .inl (cI, 5, .inl tk)), (n4, .inl (cI, 5, .inl (ro ρ))), (oc, .inr (1, [.ref c5, .ref c6, .int (nI n), .int bar])), (c5, .inl (cI, 5, .inl K)), (c6, .inl (cI, 5, .inl F))]) C h (c_X5_passHour l D cI cZ kS vS ot oc t2 t3 t4 c5 c6 n bar hv1 tv1 (hit n K F bar w ρ k).1 tk1 (hit n K F bar w ρ k).2 K F hn2 hn5 hpk.1) wv_X5_passHour rfl ⟨rfl, rfl, rfl, rfl, by decide⟩ fk5 1 rfl ml_RX3_49 [0, 5, 7, 8, 9, 1, 2, 3, 4, 6, 10, 11] rfl (fun _ => rfl) ⟨Nat.le_of_ble_eq_true rfl, Nat.le_of_ble_eq_true rfl⟩ ⟨Nat.le_of_ble_eq_true rfl, Nat.le_of_ble_eq_true rfl⟩ (Nat.le_of_ble_eq_true rfl) hl rfl dX3_waitsOf_23 (fun r u H locs hq h => ?_)
        have h : HS D A s H locs [(h0, .inr (3, [.ref oc, .ref on, .ref os, .ref ot, .ref od, .ref oo, .ref oy])), (ot, .inr (5, [.ref oc, .ref t2, .ref t3, .ref t4, .int (hv1 + 1), .int (hoo n K F bar (hit n K F bar w ρ k).1 (hit n K F bar w ρ k).2)])), (t2, .inl (cI, 5, .inl (hww n K F bar (hit n K F bar w ρ k).1 (hit n K F bar w ρ k).2))), (t3, .inl (cI, 5, .inl (htt n K F bar (hit n K F bar w ρ k).1 (hit n K F bar w ρ k).2 tk1))), (t4, .inl (cI, 5, .inl (ro (hrr n K F bar (hit n K F bar w ρ k).1 (hit n K F bar w ρ k).2)))), (on, .inr (5, [.ref oc, .ref n2, .ref n3, .ref n4, .int hr, .int to])), (n2, .inl (cI, 5, .inl w)), (n3, .inl (cI, 5, .inl tk)), (n4, .inl (cI, 5, .inl (ro ρ))), (oc, .inr (1, [.ref c5, .ref c6, .int (nI n), .int bar])), (c5, .inl (cI, 5, .inl K)), (c6, .inl (cI, 5, .inl F))] := h
        have hq : r = hmm n K F bar (hit n K F bar w ρ k).1 (hit n K F bar w ρ k).2 := hq
        have hq := hq.symm
        subst hq
        refine lv_pop hx hb dX3_waitsOf_26 rfl ?_
        refine lv_aload_n hx hb dX3_waitsOf_27 rfl (lv_at hl 0 rfl) ?_
        refine r_get C h fk3 0 3 rfl (by decide) mf_RX3_42 rfl dX3_waitsOf_28 ?_
        refine r_getN C h fk5 1 5 18 rfl (by decide) rfl rfl dX3_waitsOf_31 ?_
        refine lv_iload_n hx hb dX3_waitsOf_34 rfl (lv_at hl 1 rfl) ?_
        refine lv_icmp_ne (tgt := 40) hx hb dX3_waitsOf_35 (by decide) (fun c_35 => ?_) (fun c_35 => ?_)
        · skip
          refine lv_iinc (v := nI ((k + 1) + 1)) (lv' := [(2, .int (nI ((k + 1) + 1))), (0, .ref h0), (1, .int x)]) hx hb dX3_waitsOf_40 hl (k := 2) rfl (nI_1 (k + 1)) (by decide) rfl (fun ls hl => ?_)
          refine lv_goto (tgt := 13) hx hb dX3_waitsOf_43 (by decide) ?_
          have h := h.arr 2 (g := (hit n K F bar w ρ (k + 1)).1) rfl (fun j hj => rfl) rfl
          have h := h.arr 3 (g := (htt n K F bar (hit n K F bar w ρ k).1 (hit n K F bar w ρ k).2 tk1)) rfl (fun j hj => rfl) rfl
          have h := h.arr 4 (g := ro (hit n K F bar w ρ (k + 1)).2) rfl (fun j hj => rfl) rfl
          exact ih13  (k + 1) (hv1 + 1) (hoo n K F bar (hit n K F bar w ρ k).1 (hit n K F bar w ρ k).2) (htt n K F bar (hit n K F bar w ρ k).1 (hit n K F bar w ρ k).2 tk1) (by omega) (by omega) ((hs0.trans (if_neg c_35)).symm.trans hv0) _ _ _ h (lv_sub hl [1, 2, 0] rfl)
        · skip
          refine lv_iload_n hx hb dX3_waitsOf_38 rfl (lv_at hl 2 rfl) ?_
          exact hret (r := nI (k + 1)) (⟨hv1 + 1, hoo n K F bar (hit n K F bar w ρ k).1 (hit n K F bar w ρ k).2, hww n K F bar (hit n K F bar w ρ k).1 (hit n K F bar w ρ k).2, htt n K F bar (hit n K F bar w ρ k).1 (hit n K F bar w ρ k).2 tk1, ro (hrr n K F bar (hit n K F bar w ρ k).1 (hit n K F bar w ρ k).2)⟩) dX3_waitsOf_39 h (rfl) ((hs0.trans (if_pos c_35)).symm.trans hv0)
  have h := h.arr 2 (g := (hit n K F bar w ρ 0).1) rfl (fun j hj => rfl) rfl
  have h := h.arr 4 (g := ro (hit n K F bar w ρ 0).2) rfl (fun j hj => rfl) rfl
  exact L13 ((60 - 0) + 1) 0 hr tv tk (by omega) (by first | assumption | omega) rfl _ _ _ h (lv_sub hl [1, 2, 0] rfl)

set_option maxHeartbeats 4000000 in
set_option maxRecDepth 100000 in
theorem c_X3_widestHour (l : Launch) (D : va_G) (cI cZ : ClassId) (kS vS : Nat) (h0 : Nat) (oc : Nat) (on : Nat) (os : Nat) (ot : Nat) (od : Nat) (oo : Nat) (oy : Nat) (t2 : Nat) (t3 : Nat) (t4 : Nat) (n2 : Nat) (n3 : Nat) (n4 : Nat) (c5 : Nat) (c6 : Nat) (n : Nat) (bar : Int32) (K : Nat → Int32) (F : Nat → Int32) (w : Nat → Int32) (ρ : Nat → Nat) (tk : Nat → Int32) (hr : Int32) (to : Int32) (hv : Int32) (tv : Int32) (tw : Nat → Int32) (tk2 : Nat → Int32) (tr : Nat → Int32) (mm : Nat) (hn2 : 2 ≤ n) (hn5 : n ≤ 5) (hpm : PM n ρ) (hm : mm ≤ 60) : CI l yX3_widestHour cX3_widestHour 6 .int D cI cZ kS vS 4 88 0 0 [.ref h0, .int (nI mm)] [(h0, .inr (3, [.ref oc, .ref on, .ref os, .ref ot, .ref od, .ref oo, .ref oy])), (ot, .inr (5, [.ref oc, .ref t2, .ref t3, .ref t4, .int hv, .int tv])), (t2, .inl (cI, 5, .inl tw)), (t3, .inl (cI, 5, .inl tk2)), (t4, .inl (cI, 5, .inl tr)), (on, .inr (5, [.ref oc, .ref n2, .ref n3, .ref n4, .int hr, .int to])), (n2, .inl (cI, 5, .inl w)), (n3, .inl (cI, 5, .inl tk)), (n4, .inl (cI, 5, .inl (ro ρ))), (oc, .inr (1, [.ref c5, .ref c6, .int (nI n), .int bar])), (c5, .inl (cI, 5, .inl K)), (c6, .inl (cI, 5, .inl F))] (fun (r : Int32) (u : Int32 × Int32 × (Nat → Int32) × (Nat → Int32) × (Nat → Int32)) => r = (hwd n K F bar w ρ mm).1) (fun (u : Int32 × Int32 × (Nat → Int32) × (Nat → Int32) × (Nat → Int32)) => [(h0, .inr (3, [.ref oc, .ref on, .ref os, .ref ot, .ref od, .ref oo, .ref oy])), (ot, .inr (5, [.ref oc, .ref t2, .ref t3, .ref t4, .int u.1, .int u.2.1])), (t2, .inl (cI, 5, .inl u.2.2.1)), (t3, .inl (cI, 5, .inl u.2.2.2.1)), (t4, .inl (cI, 5, .inl u.2.2.2.2)), (on, .inr (5, [.ref oc, .ref n2, .ref n3, .ref n4, .int hr, .int to])), (n2, .inl (cI, 5, .inl w)), (n3, .inl (cI, 5, .inl tk)), (n4, .inl (cI, 5, .inl (ro ρ))), (oc, .inr (1, [.ref c5, .ref c6, .int (nI n), .int bar])), (c5, .inl (cI, 5, .inl K)), (c6, .inl (cI, 5, .inl F))]) := by
  refine CI_intro (by decide) (Nat.le_of_ble_eq_true rfl) ?_
  intro p e s m args below meth c A Q ls C h hret hl
  have C : CX p s m args c cX3_widestHour 6 RX3 D cI cZ kS vS A := C
  have hx := C.1.1
  have hb := C.1.2.1
  have hl : lv_has ls 6 [(0, .ref h0), (1, .int (nI mm))] := hl
  refine lv_aload_n hx hb dX3_widestHour_0 rfl (lv_at hl 0 rfl) ?_
  refine r_get C h fk3 0 3 rfl (by decide) mf_RX3_42 rfl dX3_widestHour_1 ?_
  refine lv_aload_n hx hb dX3_widestHour_4 rfl (lv_at hl 0 rfl) ?_
  refine r_get C h fk3 0 1 rfl (by decide) mf_RX3_29 rfl dX3_widestHour_5 ?_
  refine k_Vv (rest := []) (as := [.ref on]) (wc := [(ot, .inr (5, [.ref oc, .ref t2, .ref t3, .ref t4, .int hv, .int tv])), (t2, .inl (cI, 5, .inl tw)), (t3, .inl (cI, 5, .inl tk2)), (t4, .inl (cI, 5, .inl tr)), (on, .inr (5, [.ref oc, .ref n2, .ref n3, .ref n4, .int hr, .int to])), (n2, .inl (cI, 5, .inl w)), (n3, .inl (cI, 5, .inl tk)), (n4, .inl (cI, 5, .inl (ro ρ)))]) (wr := [(h0, .inr (3, [.ref oc, .ref on, .ref os, .ref ot, .ref od, .ref oo, .ref oy])), (oc, .inr (1, [.ref c5, .ref c6, .int (nI n), .int bar])), (c5, .inl (cI, 5, .inl K)), (c6, .inl (cI, 5, .inl F))]) (isC := [1, 2, 3, 4, 5, 6, 7, 8]) (isR := [0, 9, 10, 11]) (w2 := fun (_ : Unit) => [(h0, .inr (3, [.ref oc, .ref on, .ref os, .ref ot, .ref od, .ref oo, .ref oy])), (ot, .inr (5, [.ref oc, .ref t2, .ref t3, .ref t4, .int hr, .int tv])), (t2, .inl (cI, 5, .inl w)), (t3, .inl (cI, 5, .inl tk)), (t4, .inl (cI, 5, .inl (ro ρ))), (on, .inr (5, [.ref oc, .ref n2, .ref n3, .ref n4, .int hr, .int to])), (n2, .inl (cI, 5, .inl w)), (n3, .inl (cI, 5, .inl tk)), (n4, .inl (cI, 5, .inl (ro ρ))), (oc, .inr (1, [.ref c5, .ref c6, .int (nI n), .int bar])), (c5, .inl (cI, 5, .inl K)), (c6, .inl (cI, 5, .inl F))]) C h (c_X5_copyFrom l D cI cZ kS vS ot oc t2 t3 t4 on oc n2 n3 n4 hv tv hr to tw tk2 tr w tk (ro ρ) ) wv_X5_copyFrom rfl ⟨rfl, rfl, rfl, rfl, by decide⟩ fk5 1 rfl ml_RX3_45 [0, 4, 5, 6, 7, 8, 9, 10, 11, 1, 2, 3] rfl (fun _ => rfl) ⟨Nat.le_of_ble_eq_true rfl, Nat.le_of_ble_eq_true rfl⟩ ⟨Nat.le_of_ble_eq_true rfl, Nat.le_of_ble_eq_true rfl⟩ (Nat.le_of_ble_eq_true rfl) hl rfl dX3_widestHour_8 (fun u H locs hq h => ?_)
  have h : HS D A s H locs [(h0, .inr (3, [.ref oc, .ref on, .ref os, .ref ot, .ref od, .ref oo, .ref oy])), (ot, .inr (5, [.ref oc, .ref t2, .ref t3, .ref t4, .int hr, .int tv])), (t2, .inl (cI, 5, .inl w)), (t3, .inl (cI, 5, .inl tk)), (t4, .inl (cI, 5, .inl (ro ρ))), (on, .inr (5, [.ref oc, .ref n2, .ref n3, .ref n4, .int hr, .int to])), (n2, .inl (cI, 5, .inl w)), (n3, .inl (cI, 5, .inl tk)), (n4, .inl (cI, 5, .inl (ro ρ))), (oc, .inr (1, [.ref c5, .ref c6, .int (nI n), .int bar])), (c5, .inl (cI, 5, .inl K)), (c6, .inl (cI, 5, .inl F))] := h
  have hq : True := hq
  refine lv_iconst (v := (-1)) hx hb dX3_widestHour_11 (by decide) ?_
  refine lv_istore_n (lv' := [(2, .int (-1)), (0, .ref h0), (1, .int (nI mm))]) hx hb dX3_widestHour_12 rfl hl (by decide) rfl (fun ls hl => ?_)
  refine lv_iconst (v := (-1)) hx hb dX3_widestHour_13 (by decide) ?_
  refine lv_istore_n (lv' := [(3, .int (-1)), (2, .int (-1)), (0, .ref h0), (1, .int (nI mm))]) hx hb dX3_widestHour_14 rfl hl (by decide) rfl (fun ls hl => ?_)
  refine lv_iconst (v := 1) hx hb dX3_widestHour_15 (by decide) ?_
  refine lv_istore (lv' := [(4, .int 1), (3, .int (-1)), (2, .int (-1)), (0, .ref h0), (1, .int (nI mm))]) hx hb dX3_widestHour_16 hl (by decide) rfl (fun ls hl => ?_)
  have L18 : ∀ (fu : Nat) (k : Nat) (hv1 : Int32) (tv1 : Int32) (tk1 : Nat → Int32), (mm - k) < fu → (hk : k ≤ mm) → ∀ (H : Heap) (locs : List Loc) (ls : Array Slot), HS D A s H locs [(h0, .inr (3, [.ref oc, .ref on, .ref os, .ref ot, .ref od, .ref oo, .ref oy])), (ot, .inr (5, [.ref oc, .ref t2, .ref t3, .ref t4, .int hv1, .int tv1])), (t2, .inl (cI, 5, .inl (hit n K F bar w ρ k).1)), (t3, .inl (cI, 5, .inl tk1)), (t4, .inl (cI, 5, .inl (ro (hit n K F bar w ρ k).2))), (on, .inr (5, [.ref oc, .ref n2, .ref n3, .ref n4, .int hr, .int to])), (n2, .inl (cI, 5, .inl w)), (n3, .inl (cI, 5, .inl tk)), (n4, .inl (cI, 5, .inl (ro ρ))), (oc, .inr (1, [.ref c5, .ref c6, .int (nI n), .int bar])), (c5, .inl (cI, 5, .inl K)), (c6, .inl (cI, 5, .inl F))] → lv_has ls 6 [(0, .ref h0), (1, .int (nI mm)), (2, .int (hwd n K F bar w ρ k).1), (3, .int (hwd n K F bar w ρ k).2), (4, .int (nI (k + 1)))] → W p l e (rmO 4 88 0 0) s m args below meth c H locs 0 0 Q (F0 m 18 ls []) := by
    intro fu
    induction fu with
    | zero => intro k hv1 tv1 tk1 hfu; exact absurd hfu (Nat.not_lt_zero _)
    | succ fu ih18 =>
      intro k hv1 tv1 tk1 hfu hk H locs ls h hl
      refine lv_iload hx hb dX3_widestHour_18 (lv_at hl 4 rfl) ?_
      refine lv_iload_n hx hb dX3_widestHour_20 rfl (lv_at hl 1 rfl) ?_
      refine lv_icmp_gt (tgt := 59) hx hb dX3_widestHour_21 (by decide) (fun c_21 => ?_) (fun c_21 => ?_)
      · skip
        have c_21 := (jlt (a := mm) (b := (k + 1)) (by omega) (by omega)).mp c_21
        obtain rfl : mm = k := by omega
        refine lv_iload_n hx hb dX3_widestHour_59 rfl (lv_at hl 2 rfl) ?_
        exact hret (r := (hwd n K F bar w ρ mm).1) (⟨hv1, tv1, (hit n K F bar w ρ mm).1, tk1, ro (hit n K F bar w ρ mm).2⟩) dX3_widestHour_60 h (rfl) (rfl)
      · skip
        have c_21 : ¬ mm < (k + 1) := fun z => c_21 ((jlt (a := mm) (b := (k + 1)) (by omega) (by omega)).mpr z)
        have hlt : k < mm := by omega
        have hpk := hpm.hit (K := K) (F := F) (bar := bar) (w := w) hn2 k
        refine lv_aload_n hx hb dX3_widestHour_24 rfl (lv_at hl 0 rfl) ?_
        refine r_get C h fk3 0 3 rfl (by decide) mf_RX3_42 rfl dX3_widestHour_25 ?_
        refine k_Vi (rest := []) (as := []) (wc := [(ot, .inr (5, [.ref oc, .ref t2, .ref t3, .ref t4, .int hv1, .int tv1])), (oc, .inr (1, [.ref c5, .ref c6, .int (nI n), .int bar])), (t2, .inl (cI, 5, .inl (hit n K F bar w ρ k).1)), (t3, .inl (cI, 5, .inl tk1)), (t4, .inl (cI, 5, .inl (ro (hit n K F bar w ρ k).2))), (c5, .inl (cI, 5, .inl K)), (c6, .inl (cI, 5, .inl F))]) (wr := [(h0, .inr (3, [.ref oc, .ref on, .ref os, .ref ot, .ref od, .ref oo, .ref oy])), (on, .inr (5, [.ref oc, .ref n2, .ref n3, .ref n4, .int hr, .int to])), (n2, .inl (cI, 5, .inl w)), (n3, .inl (cI, 5, .inl tk)), (n4, .inl (cI, 5, .inl (ro ρ)))]) (isC := [1, 9, 2, 3, 4, 10, 11]) (isR := [0, 5, 6, 7, 8]) (w2 := fun (_ : Unit) => [(h0, .inr (3, [.ref oc, .ref on, .ref os, .ref ot, .ref od, .ref oo, .ref oy])), (ot, .inr (5, [.ref oc, .ref t2, .ref t3, .ref t4, .int (hv1 + 1), .int (hoo n K F bar (hit n K F bar w ρ k).1 (hit n K F bar w ρ k).2)])), (t2, .inl (cI, 5, .inl (hww n K F bar (hit n K F bar w ρ k).1 (hit n K F bar w ρ k).2))), (t3, .inl (cI, 5, .inl (htt n K F bar (hit n K F bar w ρ k).1 (hit n K F bar w ρ k).2 tk1))), (t4, .inl (cI, 5, .inl (ro (hrr n K F bar (hit n K F bar w ρ k).1 (hit n K F bar w ρ k).2)))), (on, .inr (5, [.ref oc, .ref n2, .ref n3, .ref n4, .int hr, .int to])), (n2, .inl (cI, 5, .inl w)), (n3, .inl (cI, 5, .inl tk)), (n4, .inl (cI, 5, .inl (ro ρ))), (oc, .inr (1, [.ref c5, .ref c6, .int (nI n), .int bar])), (c5, .inl (cI, 5, .inl K)), (c6, .inl (cI, 5, .inl F))]) C h (c_X5_passHour l D cI cZ kS vS ot oc t2 t3 t4 c5 c6 n bar hv1 tv1 (hit n K F bar w ρ k).1 tk1 (hit n K F bar w ρ k).2 K F hn2 hn5 hpk.1) wv_X5_passHour rfl ⟨rfl, rfl, rfl, rfl, by decide⟩ fk5 1 rfl ml_RX3_49 [0, 5, 7, 8, 9, 1, 2, 3, 4, 6, 10, 11] rfl (fun _ => rfl) ⟨Nat.le_of_ble_eq_true rfl, Nat.le_of_ble_eq_true rfl⟩ ⟨Nat.le_of_ble_eq_true rfl, Nat.le_of_ble_eq_true rfl⟩ (Nat.le_of_ble_eq_true rfl) hl rfl dX3_widestHour_28 (fun r u H locs hq h => ?_)
        have h : HS D A s H locs [(h0, .inr (3, [.ref oc, .ref on, .ref os, .ref ot, .ref od, .ref oo, .ref oy])), (ot, .inr (5, [.ref oc, .ref t2, .ref t3, .ref t4, .int (hv1 + 1), .int (hoo n K F bar (hit n K F bar w ρ k).1 (hit n K F bar w ρ k).2)])), (t2, .inl (cI, 5, .inl (hww n K F bar (hit n K F bar w ρ k).1 (hit n K F bar w ρ k).2))), (t3, .inl (cI, 5, .inl (htt n K F bar (hit n K F bar w ρ k).1 (hit n K F bar w ρ k).2 tk1))), (t4, .inl (cI, 5, .inl (ro (hrr n K F bar (hit n K F bar w ρ k).1 (hit n K F bar w ρ k).2)))), (on, .inr (5, [.ref oc, .ref n2, .ref n3, .ref n4, .int hr, .int to])), (n2, .inl (cI, 5, .inl w)), (n3, .inl (cI, 5, .inl tk)), (n4, .inl (cI, 5, .inl (ro ρ))), (oc, .inr (1, [.ref c5, .ref c6, .int (nI n), .int bar])), (c5, .inl (cI, 5, .inl K)), (c6, .inl (cI, 5, .inl F))] := h
        have hq : r = hmm n K F bar (hit n K F bar w ρ k).1 (hit n K F bar w ρ k).2 := hq
        have hq := hq.symm
        subst hq
        refine lv_pop hx hb dX3_widestHour_31 rfl ?_
        refine lv_aload_n hx hb dX3_widestHour_32 rfl (lv_at hl 0 rfl) ?_
        refine r_get C h fk3 0 3 rfl (by decide) mf_RX3_42 rfl dX3_widestHour_33 ?_
        refine k_Vi (rest := []) (as := []) (wc := [(ot, .inr (5, [.ref oc, .ref t2, .ref t3, .ref t4, .int (hv1 + 1), .int (hoo n K F bar (hit n K F bar w ρ k).1 (hit n K F bar w ρ k).2)])), (oc, .inr (1, [.ref c5, .ref c6, .int (nI n), .int bar])), (t2, .inl (cI, 5, .inl (hww n K F bar (hit n K F bar w ρ k).1 (hit n K F bar w ρ k).2)))]) (wr := [(h0, .inr (3, [.ref oc, .ref on, .ref os, .ref ot, .ref od, .ref oo, .ref oy])), (t3, .inl (cI, 5, .inl (htt n K F bar (hit n K F bar w ρ k).1 (hit n K F bar w ρ k).2 tk1))), (t4, .inl (cI, 5, .inl (ro (hrr n K F bar (hit n K F bar w ρ k).1 (hit n K F bar w ρ k).2)))), (on, .inr (5, [.ref oc, .ref n2, .ref n3, .ref n4, .int hr, .int to])), (n2, .inl (cI, 5, .inl w)), (n3, .inl (cI, 5, .inl tk)), (n4, .inl (cI, 5, .inl (ro ρ))), (c5, .inl (cI, 5, .inl K)), (c6, .inl (cI, 5, .inl F))]) (isC := [1, 9, 2]) (isR := [0, 3, 4, 5, 6, 7, 8, 10, 11]) (w2 := fun (_ : Unit) => [(h0, .inr (3, [.ref oc, .ref on, .ref os, .ref ot, .ref od, .ref oo, .ref oy])), (ot, .inr (5, [.ref oc, .ref t2, .ref t3, .ref t4, .int (hv1 + 1), .int (hoo n K F bar (hit n K F bar w ρ k).1 (hit n K F bar w ρ k).2)])), (t2, .inl (cI, 5, .inl (hww n K F bar (hit n K F bar w ρ k).1 (hit n K F bar w ρ k).2))), (t3, .inl (cI, 5, .inl (htt n K F bar (hit n K F bar w ρ k).1 (hit n K F bar w ρ k).2 tk1))), (t4, .inl (cI, 5, .inl (ro (hrr n K F bar (hit n K F bar w ρ k).1 (hit n K F bar w ρ k).2)))), (on, .inr (5, [.ref oc, .ref n2, .ref n3, .ref n4, .int hr, .int to])), (n2, .inl (cI, 5, .inl w)), (n3, .inl (cI, 5, .inl tk)), (n4, .inl (cI, 5, .inl (ro ρ))), (oc, .inr (1, [.ref c5, .ref c6, .int (nI n), .int bar])), (c5, .inl (cI, 5, .inl K)), (c6, .inl (cI, 5, .inl F))]) C h (c_X5_waterInAll l D cI cZ kS vS ot oc t2 t3 t4 c5 c6 n bar (hv1 + 1) (hoo n K F bar (hit n K F bar w ρ k).1 (hit n K F bar w ρ k).2) (hww n K F bar (hit n K F bar w ρ k).1 (hit n K F bar w ρ k).2) hn5) wv_X5_waterInAll rfl ⟨rfl, rfl, rfl, rfl, by decide⟩ fk5 1 rfl ml_RX3_56 [0, 9, 11, 1, 2, 3, 4, 5, 6, 10, 7, 8] rfl (fun _ => rfl) ⟨Nat.le_of_ble_eq_true rfl, Nat.le_of_ble_eq_true rfl⟩ ⟨Nat.le_of_ble_eq_true rfl, Nat.le_of_ble_eq_true rfl⟩ (Nat.le_of_ble_eq_true rfl) hl rfl dX3_widestHour_36 (fun r u H locs hq h => ?_)
        have h : HS D A s H locs [(h0, .inr (3, [.ref oc, .ref on, .ref os, .ref ot, .ref od, .ref oo, .ref oy])), (ot, .inr (5, [.ref oc, .ref t2, .ref t3, .ref t4, .int (hv1 + 1), .int (hoo n K F bar (hit n K F bar w ρ k).1 (hit n K F bar w ρ k).2)])), (t2, .inl (cI, 5, .inl (hww n K F bar (hit n K F bar w ρ k).1 (hit n K F bar w ρ k).2))), (t3, .inl (cI, 5, .inl (htt n K F bar (hit n K F bar w ρ k).1 (hit n K F bar w ρ k).2 tk1))), (t4, .inl (cI, 5, .inl (ro (hrr n K F bar (hit n K F bar w ρ k).1 (hit n K F bar w ρ k).2)))), (on, .inr (5, [.ref oc, .ref n2, .ref n3, .ref n4, .int hr, .int to])), (n2, .inl (cI, 5, .inl w)), (n3, .inl (cI, 5, .inl tk)), (n4, .inl (cI, 5, .inl (ro ρ))), (oc, .inr (1, [.ref c5, .ref c6, .int (nI n), .int bar])), (c5, .inl (cI, 5, .inl K)), (c6, .inl (cI, 5, .inl F))] := h
        have hq : r = hsum (hww n K F bar (hit n K F bar w ρ k).1 (hit n K F bar w ρ k).2) n := hq
        have hq := hq.symm
        subst hq
        refine r_top (y := hsm n K F bar w ρ (k + 1)) (rfl) ?_
        refine lv_istore (lv' := [(5, .int (hsm n K F bar w ρ (k + 1))), (0, .ref h0), (1, .int (nI mm)), (2, .int (hwd n K F bar w ρ k).1), (3, .int (hwd n K F bar w ρ k).2), (4, .int (nI (k + 1)))]) hx hb dX3_widestHour_39 hl (by decide) rfl (fun ls hl => ?_)
        refine lv_iload hx hb dX3_widestHour_41 (lv_at hl 0 rfl) ?_
        refine lv_iload_n hx hb dX3_widestHour_43 rfl (lv_at hl 4 rfl) ?_
        refine lv_icmp_le (tgt := 53) hx hb dX3_widestHour_44 (by decide) (fun c_44 => ?_) (fun c_44 => ?_)
        · skip
          have ew : hwd n K F bar w ρ (k + 1) = hwd n K F bar w ρ k := if_pos c_44
          refine lv_iinc (v := nI ((k + 1) + 1)) (lv' := [(4, .int (nI ((k + 1) + 1))), (5, .int (hsm n K F bar w ρ (k + 1))), (0, .ref h0), (1, .int (nI mm)), (2, .int (hwd n K F bar w ρ k).1), (3, .int (hwd n K F bar w ρ k).2)]) hx hb dX3_widestHour_53 hl (k := 5) rfl (nI_1 (k + 1)) (by decide) rfl (fun ls hl => ?_)
          refine lv_goto (tgt := 18) hx hb dX3_widestHour_56 (by decide) ?_
          have hl : lv_has ls 6 [(4, .int (nI ((k + 1) + 1))), (5, .int (hsm n K F bar w ρ (k + 1))), (0, .ref h0), (1, .int (nI mm)), (2, .int (hwd n K F bar w ρ (k + 1)).1), (3, .int (hwd n K F bar w ρ (k + 1)).2)] := by rw [ew]; exact hl
          have h := h.arr 2 (g := (hit n K F bar w ρ (k + 1)).1) rfl (fun j hj => rfl) rfl
          have h := h.arr 3 (g := (htt n K F bar (hit n K F bar w ρ k).1 (hit n K F bar w ρ k).2 tk1)) rfl (fun j hj => rfl) rfl
          have h := h.arr 4 (g := ro (hit n K F bar w ρ (k + 1)).2) rfl (fun j hj => rfl) rfl
          exact ih18  (k + 1) (hv1 + 1) (hoo n K F bar (hit n K F bar w ρ k).1 (hit n K F bar w ρ k).2) (htt n K F bar (hit n K F bar w ρ k).1 (hit n K F bar w ρ k).2 tk1) (by omega) (by first | assumption | omega) _ _ _ h (lv_sub hl [2, 3, 4, 5, 0] rfl)
        · skip
          have ew : hwd n K F bar w ρ (k + 1) = (nI (k + 1), hsm n K F bar w ρ (k + 1)) := if_neg c_44
          refine lv_iload hx hb dX3_widestHour_47 (lv_at hl 0 rfl) ?_
          refine lv_istore_n (lv' := [(3, .int (hsm n K F bar w ρ (k + 1))), (5, .int (hsm n K F bar w ρ (k + 1))), (0, .ref h0), (1, .int (nI mm)), (2, .int (hwd n K F bar w ρ k).1), (4, .int (nI (k + 1)))]) hx hb dX3_widestHour_49 rfl hl (by decide) rfl (fun ls hl => ?_)
          refine lv_iload hx hb dX3_widestHour_50 (lv_at hl 5 rfl) ?_
          refine lv_istore_n (lv' := [(2, .int (nI (k + 1))), (3, .int (hsm n K F bar w ρ (k + 1))), (5, .int (hsm n K F bar w ρ (k + 1))), (0, .ref h0), (1, .int (nI mm)), (4, .int (nI (k + 1)))]) hx hb dX3_widestHour_52 rfl hl (by decide) rfl (fun ls hl => ?_)
          refine lv_iinc (v := nI ((k + 1) + 1)) (lv' := [(4, .int (nI ((k + 1) + 1))), (2, .int (nI (k + 1))), (3, .int (hsm n K F bar w ρ (k + 1))), (5, .int (hsm n K F bar w ρ (k + 1))), (0, .ref h0), (1, .int (nI mm))]) hx hb dX3_widestHour_53 hl (k := 5) rfl (nI_1 (k + 1)) (by decide) rfl (fun ls hl => ?_)
          refine lv_goto (tgt := 18) hx hb dX3_widestHour_56 (by decide) ?_
          have hl : lv_has ls 6 [(4, .int (nI ((k + 1) + 1))), (2, .int (hwd n K F bar w ρ (k + 1)).1), (3, .int (hwd n K F bar w ρ (k + 1)).2), (5, .int (hsm n K F bar w ρ (k + 1))), (0, .ref h0), (1, .int (nI mm))] := by rw [ew]; exact hl
          have h := h.arr 2 (g := (hit n K F bar w ρ (k + 1)).1) rfl (fun j hj => rfl) rfl
          have h := h.arr 3 (g := (htt n K F bar (hit n K F bar w ρ k).1 (hit n K F bar w ρ k).2 tk1)) rfl (fun j hj => rfl) rfl
          have h := h.arr 4 (g := ro (hit n K F bar w ρ (k + 1)).2) rfl (fun j hj => rfl) rfl
          exact ih18  (k + 1) (hv1 + 1) (hoo n K F bar (hit n K F bar w ρ k).1 (hit n K F bar w ρ k).2) (htt n K F bar (hit n K F bar w ρ k).1 (hit n K F bar w ρ k).2 tk1) (by omega) (by first | assumption | omega) _ _ _ h (lv_sub hl [4, 5, 1, 2, 0] rfl)
  have h := h.arr 2 (g := (hit n K F bar w ρ 0).1) rfl (fun j hj => rfl) rfl
  have h := h.arr 4 (g := ro (hit n K F bar w ρ 0).2) rfl (fun j hj => rfl) rfl
  exact L18 ((mm - 0) + 1) 0 hr tv tk (by omega) (by first | assumption | omega) _ _ _ h (lv_sub hl [3, 4, 2, 1, 0] rfl)

set_option maxHeartbeats 4000000 in
set_option maxRecDepth 100000 in
theorem c_X3_waterBehind (l : Launch) (D : va_G) (cI cZ : ClassId) (kS vS : Nat) (h0 : Nat) (oc : Nat) (on : Nat) (os : Nat) (ot : Nat) (od : Nat) (oo : Nat) (oy : Nat) (t2 : Nat) (t3 : Nat) (t4 : Nat) (n2 : Nat) (n3 : Nat) (n4 : Nat) (c5 : Nat) (c6 : Nat) (n : Nat) (bar : Int32) (K : Nat → Int32) (F : Nat → Int32) (w : Nat → Int32) (ρ : Nat → Nat) (tk : Nat → Int32) (hr : Int32) (to : Int32) (hv : Int32) (tv : Int32) (tw : Nat → Int32) (tk2 : Nat → Int32) (tr : Nat → Int32) (mm : Nat) (hn2 : 2 ≤ n) (hn5 : n ≤ 5) (hpm : PM n ρ) (hm : mm ≤ 60) : CI l yX3_waterBehind cX3_waterBehind 3 .int D cI cZ kS vS 4 88 0 0 [.ref h0, .int (nI mm)] [(h0, .inr (3, [.ref oc, .ref on, .ref os, .ref ot, .ref od, .ref oo, .ref oy])), (ot, .inr (5, [.ref oc, .ref t2, .ref t3, .ref t4, .int hv, .int tv])), (t2, .inl (cI, 5, .inl tw)), (t3, .inl (cI, 5, .inl tk2)), (t4, .inl (cI, 5, .inl tr)), (on, .inr (5, [.ref oc, .ref n2, .ref n3, .ref n4, .int hr, .int to])), (n2, .inl (cI, 5, .inl w)), (n3, .inl (cI, 5, .inl tk)), (n4, .inl (cI, 5, .inl (ro ρ))), (oc, .inr (1, [.ref c5, .ref c6, .int (nI n), .int bar])), (c5, .inl (cI, 5, .inl K)), (c6, .inl (cI, 5, .inl F))] (fun (r : Int32) (u : Int32 × Int32 × (Nat → Int32) × (Nat → Int32) × (Nat → Int32)) => r = hsm n K F bar w ρ mm) (fun (u : Int32 × Int32 × (Nat → Int32) × (Nat → Int32) × (Nat → Int32)) => [(h0, .inr (3, [.ref oc, .ref on, .ref os, .ref ot, .ref od, .ref oo, .ref oy])), (ot, .inr (5, [.ref oc, .ref t2, .ref t3, .ref t4, .int u.1, .int u.2.1])), (t2, .inl (cI, 5, .inl u.2.2.1)), (t3, .inl (cI, 5, .inl u.2.2.2.1)), (t4, .inl (cI, 5, .inl u.2.2.2.2)), (on, .inr (5, [.ref oc, .ref n2, .ref n3, .ref n4, .int hr, .int to])), (n2, .inl (cI, 5, .inl w)), (n3, .inl (cI, 5, .inl tk)), (n4, .inl (cI, 5, .inl (ro ρ))), (oc, .inr (1, [.ref c5, .ref c6, .int (nI n), .int bar])), (c5, .inl (cI, 5, .inl K)), (c6, .inl (cI, 5, .inl F))]) := by
  refine CI_intro (by decide) (Nat.le_of_ble_eq_true rfl) ?_
  intro p e s m args below meth c A Q ls C h hret hl
  have C : CX p s m args c cX3_waterBehind 3 RX3 D cI cZ kS vS A := C
  have hx := C.1.1
  have hb := C.1.2.1
  have hl : lv_has ls 3 [(0, .ref h0), (1, .int (nI mm))] := hl
  refine lv_aload_n hx hb dX3_waterBehind_0 rfl (lv_at hl 0 rfl) ?_
  refine r_get C h fk3 0 3 rfl (by decide) mf_RX3_42 rfl dX3_waterBehind_1 ?_
  refine lv_aload_n hx hb dX3_waterBehind_4 rfl (lv_at hl 0 rfl) ?_
  refine r_get C h fk3 0 1 rfl (by decide) mf_RX3_29 rfl dX3_waterBehind_5 ?_
  refine k_Vv (rest := []) (as := [.ref on]) (wc := [(ot, .inr (5, [.ref oc, .ref t2, .ref t3, .ref t4, .int hv, .int tv])), (t2, .inl (cI, 5, .inl tw)), (t3, .inl (cI, 5, .inl tk2)), (t4, .inl (cI, 5, .inl tr)), (on, .inr (5, [.ref oc, .ref n2, .ref n3, .ref n4, .int hr, .int to])), (n2, .inl (cI, 5, .inl w)), (n3, .inl (cI, 5, .inl tk)), (n4, .inl (cI, 5, .inl (ro ρ)))]) (wr := [(h0, .inr (3, [.ref oc, .ref on, .ref os, .ref ot, .ref od, .ref oo, .ref oy])), (oc, .inr (1, [.ref c5, .ref c6, .int (nI n), .int bar])), (c5, .inl (cI, 5, .inl K)), (c6, .inl (cI, 5, .inl F))]) (isC := [1, 2, 3, 4, 5, 6, 7, 8]) (isR := [0, 9, 10, 11]) (w2 := fun (_ : Unit) => [(h0, .inr (3, [.ref oc, .ref on, .ref os, .ref ot, .ref od, .ref oo, .ref oy])), (ot, .inr (5, [.ref oc, .ref t2, .ref t3, .ref t4, .int hr, .int tv])), (t2, .inl (cI, 5, .inl w)), (t3, .inl (cI, 5, .inl tk)), (t4, .inl (cI, 5, .inl (ro ρ))), (on, .inr (5, [.ref oc, .ref n2, .ref n3, .ref n4, .int hr, .int to])), (n2, .inl (cI, 5, .inl w)), (n3, .inl (cI, 5, .inl tk)), (n4, .inl (cI, 5, .inl (ro ρ))), (oc, .inr (1, [.ref c5, .ref c6, .int (nI n), .int bar])), (c5, .inl (cI, 5, .inl K)), (c6, .inl (cI, 5, .inl F))]) C h (c_X5_copyFrom l D cI cZ kS vS ot oc t2 t3 t4 on oc n2 n3 n4 hv tv hr to tw tk2 tr w tk (ro ρ) ) wv_X5_copyFrom rfl ⟨rfl, rfl, rfl, rfl, by decide⟩ fk5 1 rfl ml_RX3_45 [0, 4, 5, 6, 7, 8, 9, 10, 11, 1, 2, 3] rfl (fun _ => rfl) ⟨Nat.le_of_ble_eq_true rfl, Nat.le_of_ble_eq_true rfl⟩ ⟨Nat.le_of_ble_eq_true rfl, Nat.le_of_ble_eq_true rfl⟩ (Nat.le_of_ble_eq_true rfl) hl rfl dX3_waterBehind_8 (fun u H locs hq h => ?_)
  have h : HS D A s H locs [(h0, .inr (3, [.ref oc, .ref on, .ref os, .ref ot, .ref od, .ref oo, .ref oy])), (ot, .inr (5, [.ref oc, .ref t2, .ref t3, .ref t4, .int hr, .int tv])), (t2, .inl (cI, 5, .inl w)), (t3, .inl (cI, 5, .inl tk)), (t4, .inl (cI, 5, .inl (ro ρ))), (on, .inr (5, [.ref oc, .ref n2, .ref n3, .ref n4, .int hr, .int to])), (n2, .inl (cI, 5, .inl w)), (n3, .inl (cI, 5, .inl tk)), (n4, .inl (cI, 5, .inl (ro ρ))), (oc, .inr (1, [.ref c5, .ref c6, .int (nI n), .int bar])), (c5, .inl (cI, 5, .inl K)), (c6, .inl (cI, 5, .inl F))] := h
  have hq : True := hq
  refine lv_iconst (v := 1) hx hb dX3_waterBehind_11 (by decide) ?_
  refine lv_istore_n (lv' := [(2, .int 1), (0, .ref h0), (1, .int (nI mm))]) hx hb dX3_waterBehind_12 rfl hl (by decide) rfl (fun ls hl => ?_)
  have L13 : ∀ (fu : Nat) (k : Nat) (hv1 : Int32) (tv1 : Int32) (tk1 : Nat → Int32), (mm - k) < fu → (hk : k ≤ mm) → ∀ (H : Heap) (locs : List Loc) (ls : Array Slot), HS D A s H locs [(h0, .inr (3, [.ref oc, .ref on, .ref os, .ref ot, .ref od, .ref oo, .ref oy])), (ot, .inr (5, [.ref oc, .ref t2, .ref t3, .ref t4, .int hv1, .int tv1])), (t2, .inl (cI, 5, .inl (hit n K F bar w ρ k).1)), (t3, .inl (cI, 5, .inl tk1)), (t4, .inl (cI, 5, .inl (ro (hit n K F bar w ρ k).2))), (on, .inr (5, [.ref oc, .ref n2, .ref n3, .ref n4, .int hr, .int to])), (n2, .inl (cI, 5, .inl w)), (n3, .inl (cI, 5, .inl tk)), (n4, .inl (cI, 5, .inl (ro ρ))), (oc, .inr (1, [.ref c5, .ref c6, .int (nI n), .int bar])), (c5, .inl (cI, 5, .inl K)), (c6, .inl (cI, 5, .inl F))] → lv_has ls 3 [(0, .ref h0), (1, .int (nI mm)), (2, .int (nI (k + 1)))] → W p l e (rmO 4 88 0 0) s m args below meth c H locs 0 0 Q (F0 m 13 ls []) := by
    intro fu
    induction fu with
    | zero => intro k hv1 tv1 tk1 hfu; exact absurd hfu (Nat.not_lt_zero _)
    | succ fu ih13 =>
      intro k hv1 tv1 tk1 hfu hk H locs ls h hl
      refine lv_iload_n hx hb dX3_waterBehind_13 rfl (lv_at hl 2 rfl) ?_
      refine lv_iload_n hx hb dX3_waterBehind_14 rfl (lv_at hl 1 rfl) ?_
      refine lv_icmp_gt (tgt := 32) hx hb dX3_waterBehind_15 (by decide) (fun c_15 => ?_) (fun c_15 => ?_)
      · skip
        have c_15 := (jlt (a := mm) (b := (k + 1)) (by omega) (by omega)).mp c_15
        obtain rfl : mm = k := by omega
        refine lv_aload_n hx hb dX3_waterBehind_32 rfl (lv_at hl 0 rfl) ?_
        refine r_get C h fk3 0 3 rfl (by decide) mf_RX3_42 rfl dX3_waterBehind_33 ?_
        refine k_Vi (rest := []) (as := []) (wc := [(ot, .inr (5, [.ref oc, .ref t2, .ref t3, .ref t4, .int hv1, .int tv1])), (oc, .inr (1, [.ref c5, .ref c6, .int (nI n), .int bar])), (t2, .inl (cI, 5, .inl (hit n K F bar w ρ mm).1))]) (wr := [(h0, .inr (3, [.ref oc, .ref on, .ref os, .ref ot, .ref od, .ref oo, .ref oy])), (t3, .inl (cI, 5, .inl tk1)), (t4, .inl (cI, 5, .inl (ro (hit n K F bar w ρ mm).2))), (on, .inr (5, [.ref oc, .ref n2, .ref n3, .ref n4, .int hr, .int to])), (n2, .inl (cI, 5, .inl w)), (n3, .inl (cI, 5, .inl tk)), (n4, .inl (cI, 5, .inl (ro ρ))), (c5, .inl (cI, 5, .inl K)), (c6, .inl (cI, 5, .inl F))]) (isC := [1, 9, 2]) (isR := [0, 3, 4, 5, 6, 7, 8, 10, 11]) (w2 := fun (_ : Unit) => [(h0, .inr (3, [.ref oc, .ref on, .ref os, .ref ot, .ref od, .ref oo, .ref oy])), (ot, .inr (5, [.ref oc, .ref t2, .ref t3, .ref t4, .int hv1, .int tv1])), (t2, .inl (cI, 5, .inl (hit n K F bar w ρ mm).1)), (t3, .inl (cI, 5, .inl tk1)), (t4, .inl (cI, 5, .inl (ro (hit n K F bar w ρ mm).2))), (on, .inr (5, [.ref oc, .ref n2, .ref n3, .ref n4, .int hr, .int to])), (n2, .inl (cI, 5, .inl w)), (n3, .inl (cI, 5, .inl tk)), (n4, .inl (cI, 5, .inl (ro ρ))), (oc, .inr (1, [.ref c5, .ref c6, .int (nI n), .int bar])), (c5, .inl (cI, 5, .inl K)), (c6, .inl (cI, 5, .inl F))]) C h (c_X5_waterInAll l D cI cZ kS vS ot oc t2 t3 t4 c5 c6 n bar hv1 tv1 (hit n K F bar w ρ mm).1 hn5) wv_X5_waterInAll rfl ⟨rfl, rfl, rfl, rfl, by decide⟩ fk5 1 rfl ml_RX3_56 [0, 9, 11, 1, 2, 3, 4, 5, 6, 10, 7, 8] rfl (fun _ => rfl) ⟨Nat.le_of_ble_eq_true rfl, Nat.le_of_ble_eq_true rfl⟩ ⟨Nat.le_of_ble_eq_true rfl, Nat.le_of_ble_eq_true rfl⟩ (Nat.le_of_ble_eq_true rfl) hl rfl dX3_waterBehind_36 (fun r u H locs hq h => ?_)
        have h : HS D A s H locs [(h0, .inr (3, [.ref oc, .ref on, .ref os, .ref ot, .ref od, .ref oo, .ref oy])), (ot, .inr (5, [.ref oc, .ref t2, .ref t3, .ref t4, .int hv1, .int tv1])), (t2, .inl (cI, 5, .inl (hit n K F bar w ρ mm).1)), (t3, .inl (cI, 5, .inl tk1)), (t4, .inl (cI, 5, .inl (ro (hit n K F bar w ρ mm).2))), (on, .inr (5, [.ref oc, .ref n2, .ref n3, .ref n4, .int hr, .int to])), (n2, .inl (cI, 5, .inl w)), (n3, .inl (cI, 5, .inl tk)), (n4, .inl (cI, 5, .inl (ro ρ))), (oc, .inr (1, [.ref c5, .ref c6, .int (nI n), .int bar])), (c5, .inl (cI, 5, .inl K)), (c6, .inl (cI, 5, .inl F))] := h
        have hq : r = hsum (hit n K F bar w ρ mm).1 n := hq
        have hq := hq.symm
        subst hq
        exact hret (r := hsum (hit n K F bar w ρ mm).1 n) (⟨hv1, tv1, (hit n K F bar w ρ mm).1, tk1, ro (hit n K F bar w ρ mm).2⟩) dX3_waterBehind_39 h (rfl) (rfl)
      · skip
        have c_15 : ¬ mm < (k + 1) := fun z => c_15 ((jlt (a := mm) (b := (k + 1)) (by omega) (by omega)).mpr z)
        have hlt : k < mm := by omega
        have hpk := hpm.hit (K := K) (F := F) (bar := bar) (w := w) hn2 k
        refine lv_aload_n hx hb dX3_waterBehind_18 rfl (lv_at hl 0 rfl) ?_
        refine r_get C h fk3 0 3 rfl (by decide) mf_RX3_42 rfl dX3_waterBehind_19 ?_
        refine k_Vi (rest := []) (as := []) (wc := [(ot, .inr (5, [.ref oc, .ref t2, .ref t3, .ref t4, .int hv1, .int tv1])), (oc, .inr (1, [.ref c5, .ref c6, .int (nI n), .int bar])), (t2, .inl (cI, 5, .inl (hit n K F bar w ρ k).1)), (t3, .inl (cI, 5, .inl tk1)), (t4, .inl (cI, 5, .inl (ro (hit n K F bar w ρ k).2))), (c5, .inl (cI, 5, .inl K)), (c6, .inl (cI, 5, .inl F))]) (wr := [(h0, .inr (3, [.ref oc, .ref on, .ref os, .ref ot, .ref od, .ref oo, .ref oy])), (on, .inr (5, [.ref oc, .ref n2, .ref n3, .ref n4, .int hr, .int to])), (n2, .inl (cI, 5, .inl w)), (n3, .inl (cI, 5, .inl tk)), (n4, .inl (cI, 5, .inl (ro ρ)))]) (isC := [1, 9, 2, 3, 4, 10, 11]) (isR := [0, 5, 6, 7, 8]) (w2 := fun (_ : Unit) => [(h0, .inr (3, [.ref oc, .ref on, .ref os, .ref ot, .ref od, .ref oo, .ref oy])), (ot, .inr (5, [.ref oc, .ref t2, .ref t3, .ref t4, .int (hv1 + 1), .int (hoo n K F bar (hit n K F bar w ρ k).1 (hit n K F bar w ρ k).2)])), (t2, .inl (cI, 5, .inl (hww n K F bar (hit n K F bar w ρ k).1 (hit n K F bar w ρ k).2))), (t3, .inl (cI, 5, .inl (htt n K F bar (hit n K F bar w ρ k).1 (hit n K F bar w ρ k).2 tk1))), (t4, .inl (cI, 5, .inl (ro (hrr n K F bar (hit n K F bar w ρ k).1 (hit n K F bar w ρ k).2)))), (on, .inr (5, [.ref oc, .ref n2, .ref n3, .ref n4, .int hr, .int to])), (n2, .inl (cI, 5, .inl w)), (n3, .inl (cI, 5, .inl tk)), (n4, .inl (cI, 5, .inl (ro ρ))), (oc, .inr (1, [.ref c5, .ref c6, .int (nI n), .int bar])), (c5, .inl (cI, 5, .inl K)), (c6, .inl (cI, 5, .inl F))]) C h (c_X5_passHour l D cI cZ kS vS ot oc t2 t3 t4 c5 c6 n bar hv1 tv1 (hit n K F bar w ρ k).1 tk1 (hit n K F bar w ρ k).2 K F hn2 hn5 hpk.1) wv_X5_passHour rfl ⟨rfl, rfl, rfl, rfl, by decide⟩ fk5 1 rfl ml_RX3_49 [0, 5, 7, 8, 9, 1, 2, 3, 4, 6, 10, 11] rfl (fun _ => rfl) ⟨Nat.le_of_ble_eq_true rfl, Nat.le_of_ble_eq_true rfl⟩ ⟨Nat.le_of_ble_eq_true rfl, Nat.le_of_ble_eq_true rfl⟩ (Nat.le_of_ble_eq_true rfl) hl rfl dX3_waterBehind_22 (fun r u H locs hq h => ?_)
        have h : HS D A s H locs [(h0, .inr (3, [.ref oc, .ref on, .ref os, .ref ot, .ref od, .ref oo, .ref oy])), (ot, .inr (5, [.ref oc, .ref t2, .ref t3, .ref t4, .int (hv1 + 1), .int (hoo n K F bar (hit n K F bar w ρ k).1 (hit n K F bar w ρ k).2)])), (t2, .inl (cI, 5, .inl (hww n K F bar (hit n K F bar w ρ k).1 (hit n K F bar w ρ k).2))), (t3, .inl (cI, 5, .inl (htt n K F bar (hit n K F bar w ρ k).1 (hit n K F bar w ρ k).2 tk1))), (t4, .inl (cI, 5, .inl (ro (hrr n K F bar (hit n K F bar w ρ k).1 (hit n K F bar w ρ k).2)))), (on, .inr (5, [.ref oc, .ref n2, .ref n3, .ref n4, .int hr, .int to])), (n2, .inl (cI, 5, .inl w)), (n3, .inl (cI, 5, .inl tk)), (n4, .inl (cI, 5, .inl (ro ρ))), (oc, .inr (1, [.ref c5, .ref c6, .int (nI n), .int bar])), (c5, .inl (cI, 5, .inl K)), (c6, .inl (cI, 5, .inl F))] := h
        have hq : r = hmm n K F bar (hit n K F bar w ρ k).1 (hit n K F bar w ρ k).2 := hq
        have hq := hq.symm
        subst hq
        refine lv_pop hx hb dX3_waterBehind_25 rfl ?_
        refine lv_iinc (v := nI ((k + 1) + 1)) (lv' := [(2, .int (nI ((k + 1) + 1))), (0, .ref h0), (1, .int (nI mm))]) hx hb dX3_waterBehind_26 hl (k := 2) rfl (nI_1 (k + 1)) (by decide) rfl (fun ls hl => ?_)
        refine lv_goto (tgt := 13) hx hb dX3_waterBehind_29 (by decide) ?_
        have h := h.arr 2 (g := (hit n K F bar w ρ (k + 1)).1) rfl (fun j hj => rfl) rfl
        have h := h.arr 3 (g := (htt n K F bar (hit n K F bar w ρ k).1 (hit n K F bar w ρ k).2 tk1)) rfl (fun j hj => rfl) rfl
        have h := h.arr 4 (g := ro (hit n K F bar w ρ (k + 1)).2) rfl (fun j hj => rfl) rfl
        exact ih13  (k + 1) (hv1 + 1) (hoo n K F bar (hit n K F bar w ρ k).1 (hit n K F bar w ρ k).2) (htt n K F bar (hit n K F bar w ρ k).1 (hit n K F bar w ρ k).2 tk1) (by omega) (by first | assumption | omega) _ _ _ h (lv_sub hl [1, 2, 0] rfl)
  have h := h.arr 2 (g := (hit n K F bar w ρ 0).1) rfl (fun j hj => rfl) rfl
  have h := h.arr 4 (g := ro (hit n K F bar w ρ 0).2) rfl (fun j hj => rfl) rfl
  exact L13 ((mm - 0) + 1) 0 hr tv tk (by omega) (by first | assumption | omega) _ _ _ h (lv_sub hl [1, 2, 0] rfl)

set_option maxHeartbeats 4000000 in
set_option maxRecDepth 100000 in
theorem c_X6_agreeWith (l : Launch) (D : va_G) (cI cZ : ClassId) (kS vS : Nat) (os : Nat) (ha : Nat) (s1 : Nat) (s2 : Nat) (s3 : Nat) (q : Nat) (sh : Nat → Nat) (sr : Nat → Nat) (tb : Nat → Int32) (T : Nat → Int32) (hq6 : q ≤ 6) (hsh : ∀ i, i < q → 1 ≤ sh i ∧ sh i ≤ 12) : CI l yX6_agreeWith cX6_agreeWith 5 .boolean D cI cZ kS vS 0 0 0 0 [.ref os, .ref ha] [(os, .inr (6, [.ref s1, .ref s2, .ref s3, .int (nI q)])), (s1, .inl (cI, 6, .inl (ro sh))), (s2, .inl (cI, 6, .inl (ro sr))), (s3, .inl (cZ, 6, .inl tb)), (ha, .inl (cI, 13, .inl T))] (fun (r : Int32) (_ : Unit) => r = bI (hag T sh sr tb q)) (fun (_ : Unit) => [(os, .inr (6, [.ref s1, .ref s2, .ref s3, .int (nI q)])), (s1, .inl (cI, 6, .inl (ro sh))), (s2, .inl (cI, 6, .inl (ro sr))), (s3, .inl (cZ, 6, .inl tb)), (ha, .inl (cI, 13, .inl T))]) := by
  refine CI_intro (by decide) (Nat.le_of_ble_eq_true rfl) ?_
  intro p e s m args below meth c A Q ls C h hret hl
  have C : CX p s m args c cX6_agreeWith 5 RX6 D cI cZ kS vS A := C
  have hx := C.1.1
  have hb := C.1.2.1
  have hl : lv_has ls 5 [(0, .ref os), (1, .ref ha)] := hl
  refine lv_iconst (v := 0) hx hb dX6_agreeWith_0 (by decide) ?_
  refine lv_istore_n (lv' := [(2, .int 0), (0, .ref os), (1, .ref ha)]) hx hb dX6_agreeWith_1 rfl hl (by decide) rfl (fun ls hl => ?_)
  have L2 : ∀ (fu : Nat) (i : Nat), (q - i) < fu → (hi : i ≤ q) → (hg : hag T sh sr tb i = true) → ∀ (H : Heap) (locs : List Loc) (ls : Array Slot), HS D A s H locs [(os, .inr (6, [.ref s1, .ref s2, .ref s3, .int (nI q)])), (s1, .inl (cI, 6, .inl (ro sh))), (s2, .inl (cI, 6, .inl (ro sr))), (s3, .inl (cZ, 6, .inl tb)), (ha, .inl (cI, 13, .inl T))] → lv_has ls 5 [(0, .ref os), (1, .ref ha), (2, .int (nI i))] → W p l e (rmO 0 0 0 0) s m args below meth c H locs 0 0 Q (F0 m 2 ls []) := by
    intro fu
    induction fu with
    | zero => intro i hfu; exact absurd hfu (Nat.not_lt_zero _)
    | succ fu ih2 =>
      intro i hfu hi hg H locs ls h hl
      refine lv_iload_n hx hb dX6_agreeWith_2 rfl (lv_at hl 2 rfl) ?_
      refine lv_aload_n hx hb dX6_agreeWith_3 rfl (lv_at hl 0 rfl) ?_
      refine r_get C h fk6 0 3 rfl (by decide) mf_RX6_22 rfl dX6_agreeWith_4 ?_
      refine lv_icmp_ge (tgt := 61) hx hb dX6_agreeWith_7 (by decide) (fun c_7 => ?_) (fun c_7 => ?_)
      · skip
        have c_7 := (jle (a := q) (b := i) (by omega) (by omega)).mp c_7
        obtain rfl : q = i := by omega
        refine lv_iconst (v := 1) hx hb dX6_agreeWith_61 (by decide) ?_
        exact hret (r := 1) () dX6_agreeWith_62 h (rfl) (by rw [hg]; rfl)
      · skip
        have c_7 : ¬ q ≤ i := fun z => c_7 ((jle (a := q) (b := i) (by omega) (by omega)).mpr z)
        have hlt : i < q := by omega
        have hsi := hsh i hlt
        refine lv_aload_n hx hb dX6_agreeWith_10 rfl (lv_at hl 0 rfl) ?_
        refine r_get C h fk6 0 0 rfl (by decide) mf_RX6_9 rfl dX6_agreeWith_11 ?_
        refine lv_iload_n hx hb dX6_agreeWith_14 rfl (lv_at hl 2 rfl) ?_
        refine r_ld C h 1 rfl i (rfl) (by omega) (by decide) (x := nI (sh i)) (rfl) dX6_agreeWith_15 ?_
        refine lv_istore_n (lv' := [(3, .int (nI (sh i))), (0, .ref os), (1, .ref ha), (2, .int (nI i))]) hx hb dX6_agreeWith_16 rfl hl (by decide) rfl (fun ls hl => ?_)
        refine lv_iload_n hx hb dX6_agreeWith_17 rfl (lv_at hl 0 rfl) ?_
        refine lv_aload_n hx hb dX6_agreeWith_18 rfl (lv_at hl 2 rfl) ?_
        refine r_alen C h 4 rfl dX6_agreeWith_19 ?_
        refine lv_icmp_ge (tgt := 39) hx hb dX6_agreeWith_20 (by decide) (fun c_20 => ?_) (fun c_20 => ?_)
        · skip
          have c_20 := (jle (a := 13) (b := (sh i)) (by omega) (by omega)).mp c_20
          exact absurd c_20 (by omega)
        · skip
          have c_20 : ¬ 13 ≤ (sh i) := fun z => c_20 ((jle (a := 13) (b := (sh i)) (by omega) (by omega)).mpr z)
          refine lv_aload_n hx hb dX6_agreeWith_23 rfl (lv_at hl 2 rfl) ?_
          refine lv_iload_n hx hb dX6_agreeWith_24 rfl (lv_at hl 0 rfl) ?_
          refine r_ld C h 4 rfl (sh i) (rfl) (by omega) (by decide) (x := T (sh i)) (rfl) dX6_agreeWith_25 ?_
          refine lv_aload_n hx hb dX6_agreeWith_26 rfl (lv_at hl 1 rfl) ?_
          refine r_get C h fk6 0 1 rfl (by decide) mf_RX6_15 rfl dX6_agreeWith_27 ?_
          refine lv_iload_n hx hb dX6_agreeWith_30 rfl (lv_at hl 3 rfl) ?_
          refine r_ld C h 2 rfl i (rfl) (by omega) (by decide) (x := nI (sr i)) (rfl) dX6_agreeWith_31 ?_
          refine lv_icmp_ne (tgt := 39) hx hb dX6_agreeWith_32 (by decide) (fun c_32 => ?_) (fun c_32 => ?_)
          · skip
            refine lv_iconst (v := 0) hx hb dX6_agreeWith_39 (by decide) ?_
            refine lv_istore (lv' := [(4, .int 0), (3, .int (nI (sh i))), (0, .ref os), (1, .ref ha), (2, .int (nI i))]) hx hb dX6_agreeWith_40 hl (by decide) rfl (fun ls hl => ?_)
            refine lv_iload hx hb dX6_agreeWith_42 (lv_at hl 0 rfl) ?_
            refine lv_aload_n hx hb dX6_agreeWith_44 rfl (lv_at hl 2 rfl) ?_
            refine r_get C h fk6 0 2 rfl (by decide) mf_RX6_18 rfl dX6_agreeWith_45 ?_
            refine lv_iload_n hx hb dX6_agreeWith_48 rfl (lv_at hl 4 rfl) ?_
            refine r_zld C h 3 rfl i (rfl) (by omega) (by decide) (x := tb i) (rfl) dX6_agreeWith_49 ?_
            refine lv_icmp_eq (tgt := 55) hx hb dX6_agreeWith_50 (by decide) (fun c_50 => ?_) (fun c_50 => ?_)
            · skip
              refine lv_iinc (v := nI (i + 1)) (lv' := [(2, .int (nI (i + 1))), (4, .int 0), (3, .int (nI (sh i))), (0, .ref os), (1, .ref ha)]) hx hb dX6_agreeWith_55 hl (k := 4) rfl (nI_1 i) (by decide) rfl (fun ls hl => ?_)
              refine lv_goto (tgt := 2) hx hb dX6_agreeWith_58 (by decide) ?_
              exact ih2  (i + 1) (by omega) (by first | assumption | omega) (hag_t hg (by first | (rw [if_pos c_32]; exact c_50) | (rw [if_neg c_32]; exact c_50))) _ _ _ h (lv_sub hl [3, 4, 0] rfl)
            · skip
              refine lv_iconst (v := 0) hx hb dX6_agreeWith_53 (by decide) ?_
              exact hret (r := 0) () dX6_agreeWith_54 h (rfl) (by rw [hag_f (by first | (rw [if_pos c_32]; exact c_50) | (rw [if_neg c_32]; exact c_50)) q hlt]; rfl)
          · skip
            refine lv_iconst (v := 1) hx hb dX6_agreeWith_35 (by decide) ?_
            refine lv_goto (tgt := 40) hx hb dX6_agreeWith_36 (by decide) ?_
            refine lv_istore (lv' := [(4, .int 1), (3, .int (nI (sh i))), (0, .ref os), (1, .ref ha), (2, .int (nI i))]) hx hb dX6_agreeWith_40 hl (by decide) rfl (fun ls hl => ?_)
            refine lv_iload hx hb dX6_agreeWith_42 (lv_at hl 0 rfl) ?_
            refine lv_aload_n hx hb dX6_agreeWith_44 rfl (lv_at hl 2 rfl) ?_
            refine r_get C h fk6 0 2 rfl (by decide) mf_RX6_18 rfl dX6_agreeWith_45 ?_
            refine lv_iload_n hx hb dX6_agreeWith_48 rfl (lv_at hl 4 rfl) ?_
            refine r_zld C h 3 rfl i (rfl) (by omega) (by decide) (x := tb i) (rfl) dX6_agreeWith_49 ?_
            refine lv_icmp_eq (tgt := 55) hx hb dX6_agreeWith_50 (by decide) (fun c_50 => ?_) (fun c_50 => ?_)
            · skip
              refine lv_iinc (v := nI (i + 1)) (lv' := [(2, .int (nI (i + 1))), (4, .int 1), (3, .int (nI (sh i))), (0, .ref os), (1, .ref ha)]) hx hb dX6_agreeWith_55 hl (k := 4) rfl (nI_1 i) (by decide) rfl (fun ls hl => ?_)
              refine lv_goto (tgt := 2) hx hb dX6_agreeWith_58 (by decide) ?_
              exact ih2  (i + 1) (by omega) (by first | assumption | omega) (hag_t hg (by first | (rw [if_pos c_32]; exact c_50) | (rw [if_neg c_32]; exact c_50))) _ _ _ h (lv_sub hl [3, 4, 0] rfl)
            · skip
              refine lv_iconst (v := 0) hx hb dX6_agreeWith_53 (by decide) ?_
              exact hret (r := 0) () dX6_agreeWith_54 h (rfl) (by rw [hag_f (by first | (rw [if_pos c_32]; exact c_50) | (rw [if_neg c_32]; exact c_50)) q hlt]; rfl)
  exact L2 ((q - 0) + 1) 0 (by omega) (by first | assumption | omega) rfl _ _ _ h (lv_sub hl [1, 2, 0] rfl)

set_option maxHeartbeats 4000000 in
set_option maxRecDepth 100000 in
theorem c_X3_isPossible (l : Launch) (D : va_G) (cI cZ : ClassId) (kS vS : Nat) (h0 : Nat) (oc : Nat) (on : Nat) (os : Nat) (ot : Nat) (od : Nat) (oo : Nat) (oy : Nat) (t2 : Nat) (t3 : Nat) (t4 : Nat) (n2 : Nat) (n3 : Nat) (n4 : Nat) (c5 : Nat) (c6 : Nat) (n : Nat) (bar : Int32) (K : Nat → Int32) (F : Nat → Int32) (w : Nat → Int32) (ρ : Nat → Nat) (tk : Nat → Int32) (hr : Int32) (to : Int32) (hv : Int32) (tv : Int32) (tw : Nat → Int32) (tk2 : Nat → Int32) (tr : Nat → Int32) (s1 : Nat) (s2 : Nat) (s3 : Nat) (q : Nat) (sh : Nat → Nat) (sr : Nat → Nat) (tb : Nat → Int32) (g : Nat → Int32) (rr : Nat) (v : Nat) (hn2 : 2 ≤ n) (hn5 : n ≤ 5) (hpm : PM n ρ) (hq6 : q ≤ 6) (hsh : ∀ i, i < q → 1 ≤ sh i ∧ sh i ≤ 12) (hrn : rr < n) (hv9 : v < 10) : CI l yX3_isPossible cX3_isPossible 4 .boolean D cI cZ kS vS 4 88 0 0 [.ref h0, .int (nI rr), .int (nI v)] [(h0, .inr (3, [.ref oc, .ref on, .ref os, .ref ot, .ref od, .ref oo, .ref oy])), (ot, .inr (5, [.ref oc, .ref t2, .ref t3, .ref t4, .int hv, .int tv])), (t2, .inl (cI, 5, .inl tw)), (t3, .inl (cI, 5, .inl tk2)), (t4, .inl (cI, 5, .inl tr)), (on, .inr (5, [.ref oc, .ref n2, .ref n3, .ref n4, .int hr, .int to])), (n2, .inl (cI, 5, .inl w)), (n3, .inl (cI, 5, .inl tk)), (n4, .inl (cI, 5, .inl (ro ρ))), (oc, .inr (1, [.ref c5, .ref c6, .int (nI n), .int bar])), (c5, .inl (cI, 5, .inl K)), (c6, .inl (cI, 5, .inl F)), (os, .inr (6, [.ref s1, .ref s2, .ref s3, .int (nI q)])), (s1, .inl (cI, 6, .inl (ro sh))), (s2, .inl (cI, 6, .inl (ro sr))), (s3, .inl (cZ, 6, .inl tb)), (oo, .inl (cI, 13, .inl g))] (fun (r : Int32) (u : Int32 × Int32 × (Nat → Int32) × (Nat → Int32) × (Nat → Int32)) => r = bI (hpo n K F bar w ρ sh sr tb q rr v)) (fun (u : Int32 × Int32 × (Nat → Int32) × (Nat → Int32) × (Nat → Int32)) => [(h0, .inr (3, [.ref oc, .ref on, .ref os, .ref ot, .ref od, .ref oo, .ref oy])), (ot, .inr (5, [.ref oc, .ref t2, .ref t3, .ref t4, .int u.1, .int u.2.1])), (t2, .inl (cI, 5, .inl u.2.2.1)), (t3, .inl (cI, 5, .inl u.2.2.2.1)), (t4, .inl (cI, 5, .inl u.2.2.2.2)), (on, .inr (5, [.ref oc, .ref n2, .ref n3, .ref n4, .int hr, .int to])), (n2, .inl (cI, 5, .inl w)), (n3, .inl (cI, 5, .inl tk)), (n4, .inl (cI, 5, .inl (ro ρ))), (oc, .inr (1, [.ref c5, .ref c6, .int (nI n), .int bar])), (c5, .inl (cI, 5, .inl K)), (c6, .inl (cI, 5, .inl F)), (os, .inr (6, [.ref s1, .ref s2, .ref s3, .int (nI q)])), (s1, .inl (cI, 6, .inl (ro sh))), (s2, .inl (cI, 6, .inl (ro sr))), (s3, .inl (cZ, 6, .inl tb)), (oo, .inl (cI, 13, .inl (hfl (htk n K F bar (upd w rr (nI v)) ρ) g 12)))]) := by
  refine CI_intro (by decide) (Nat.le_of_ble_eq_true rfl) ?_
  intro p e s m args below meth c A Q ls C h hret hl
  have C : CX p s m args c cX3_isPossible 4 RX3 D cI cZ kS vS A := C
  have hx := C.1.1
  have hb := C.1.2.1
  have hl : lv_has ls 4 [(0, .ref h0), (1, .int (nI rr)), (2, .int (nI v))] := hl
  refine lv_aload_n hx hb dX3_isPossible_0 rfl (lv_at hl 0 rfl) ?_
  refine r_get C h fk3 0 3 rfl (by decide) mf_RX3_42 rfl dX3_isPossible_1 ?_
  refine lv_aload_n hx hb dX3_isPossible_4 rfl (lv_at hl 0 rfl) ?_
  refine r_get C h fk3 0 1 rfl (by decide) mf_RX3_29 rfl dX3_isPossible_5 ?_
  refine k_Vv (rest := []) (as := [.ref on]) (wc := [(ot, .inr (5, [.ref oc, .ref t2, .ref t3, .ref t4, .int hv, .int tv])), (t2, .inl (cI, 5, .inl tw)), (t3, .inl (cI, 5, .inl tk2)), (t4, .inl (cI, 5, .inl tr)), (on, .inr (5, [.ref oc, .ref n2, .ref n3, .ref n4, .int hr, .int to])), (n2, .inl (cI, 5, .inl w)), (n3, .inl (cI, 5, .inl tk)), (n4, .inl (cI, 5, .inl (ro ρ)))]) (wr := [(h0, .inr (3, [.ref oc, .ref on, .ref os, .ref ot, .ref od, .ref oo, .ref oy])), (oc, .inr (1, [.ref c5, .ref c6, .int (nI n), .int bar])), (c5, .inl (cI, 5, .inl K)), (c6, .inl (cI, 5, .inl F)), (os, .inr (6, [.ref s1, .ref s2, .ref s3, .int (nI q)])), (s1, .inl (cI, 6, .inl (ro sh))), (s2, .inl (cI, 6, .inl (ro sr))), (s3, .inl (cZ, 6, .inl tb)), (oo, .inl (cI, 13, .inl g))]) (isC := [1, 2, 3, 4, 5, 6, 7, 8]) (isR := [0, 9, 10, 11, 12, 13, 14, 15, 16]) (w2 := fun (_ : Unit) => [(h0, .inr (3, [.ref oc, .ref on, .ref os, .ref ot, .ref od, .ref oo, .ref oy])), (ot, .inr (5, [.ref oc, .ref t2, .ref t3, .ref t4, .int hr, .int tv])), (t2, .inl (cI, 5, .inl w)), (t3, .inl (cI, 5, .inl tk)), (t4, .inl (cI, 5, .inl (ro ρ))), (on, .inr (5, [.ref oc, .ref n2, .ref n3, .ref n4, .int hr, .int to])), (n2, .inl (cI, 5, .inl w)), (n3, .inl (cI, 5, .inl tk)), (n4, .inl (cI, 5, .inl (ro ρ))), (oc, .inr (1, [.ref c5, .ref c6, .int (nI n), .int bar])), (c5, .inl (cI, 5, .inl K)), (c6, .inl (cI, 5, .inl F)), (os, .inr (6, [.ref s1, .ref s2, .ref s3, .int (nI q)])), (s1, .inl (cI, 6, .inl (ro sh))), (s2, .inl (cI, 6, .inl (ro sr))), (s3, .inl (cZ, 6, .inl tb)), (oo, .inl (cI, 13, .inl g))]) C h (c_X5_copyFrom l D cI cZ kS vS ot oc t2 t3 t4 on oc n2 n3 n4 hv tv hr to tw tk2 tr w tk (ro ρ) ) wv_X5_copyFrom rfl ⟨rfl, rfl, rfl, rfl, by decide⟩ fk5 1 rfl ml_RX3_45 [0, 9, 10, 11, 12, 13, 14, 15, 16, 1, 2, 3, 4, 5, 6, 7, 8] rfl (fun _ => rfl) ⟨Nat.le_of_ble_eq_true rfl, Nat.le_of_ble_eq_true rfl⟩ ⟨Nat.le_of_ble_eq_true rfl, Nat.le_of_ble_eq_true rfl⟩ (Nat.le_of_ble_eq_true rfl) hl rfl dX3_isPossible_8 (fun u H locs hq h => ?_)
  have h : HS D A s H locs [(h0, .inr (3, [.ref oc, .ref on, .ref os, .ref ot, .ref od, .ref oo, .ref oy])), (ot, .inr (5, [.ref oc, .ref t2, .ref t3, .ref t4, .int hr, .int tv])), (t2, .inl (cI, 5, .inl w)), (t3, .inl (cI, 5, .inl tk)), (t4, .inl (cI, 5, .inl (ro ρ))), (on, .inr (5, [.ref oc, .ref n2, .ref n3, .ref n4, .int hr, .int to])), (n2, .inl (cI, 5, .inl w)), (n3, .inl (cI, 5, .inl tk)), (n4, .inl (cI, 5, .inl (ro ρ))), (oc, .inr (1, [.ref c5, .ref c6, .int (nI n), .int bar])), (c5, .inl (cI, 5, .inl K)), (c6, .inl (cI, 5, .inl F)), (os, .inr (6, [.ref s1, .ref s2, .ref s3, .int (nI q)])), (s1, .inl (cI, 6, .inl (ro sh))), (s2, .inl (cI, 6, .inl (ro sr))), (s3, .inl (cZ, 6, .inl tb)), (oo, .inl (cI, 13, .inl g))] := h
  have hq : True := hq
  refine lv_aload_n hx hb dX3_isPossible_11 rfl (lv_at hl 0 rfl) ?_
  refine r_get C h fk3 0 3 rfl (by decide) mf_RX3_42 rfl dX3_isPossible_12 ?_
  refine r_getN C h fk5 1 1 13 rfl (by decide) rfl rfl dX3_isPossible_15 ?_
  refine lv_iload_n hx hb dX3_isPossible_18 rfl (lv_at hl 1 rfl) ?_
  refine lv_iload_n hx hb dX3_isPossible_19 rfl (lv_at hl 2 rfl) ?_
  refine r_st C h 2 rfl rr (rfl) (by omega) (by decide) (g := upd w rr (nI v)) (fun _ _ => rfl) (ws' := [(h0, .inr (3, [.ref oc, .ref on, .ref os, .ref ot, .ref od, .ref oo, .ref oy])), (ot, .inr (5, [.ref oc, .ref t2, .ref t3, .ref t4, .int hr, .int tv])), (t2, .inl (cI, 5, .inl (upd w rr (nI v)))), (t3, .inl (cI, 5, .inl tk)), (t4, .inl (cI, 5, .inl (ro ρ))), (on, .inr (5, [.ref oc, .ref n2, .ref n3, .ref n4, .int hr, .int to])), (n2, .inl (cI, 5, .inl w)), (n3, .inl (cI, 5, .inl tk)), (n4, .inl (cI, 5, .inl (ro ρ))), (oc, .inr (1, [.ref c5, .ref c6, .int (nI n), .int bar])), (c5, .inl (cI, 5, .inl K)), (c6, .inl (cI, 5, .inl F)), (os, .inr (6, [.ref s1, .ref s2, .ref s3, .int (nI q)])), (s1, .inl (cI, 6, .inl (ro sh))), (s2, .inl (cI, 6, .inl (ro sr))), (s3, .inl (cZ, 6, .inl tb)), (oo, .inl (cI, 13, .inl g))]) rfl dX3_isPossible_20 (fun H locs h => ?_)
  refine lv_iconst (v := 1) hx hb dX3_isPossible_21 (by decide) ?_
  refine lv_istore_n (lv' := [(3, .int 1), (0, .ref h0), (1, .int (nI rr)), (2, .int (nI v))]) hx hb dX3_isPossible_22 rfl hl (by decide) rfl (fun ls hl => ?_)
  have L23 : ∀ (fu : Nat) (k : Nat) (hv1 : Int32) (tv1 : Int32) (tk1 : Nat → Int32), (12 - k) < fu → (hk : k ≤ 12) → ∀ (H : Heap) (locs : List Loc) (ls : Array Slot), HS D A s H locs [(h0, .inr (3, [.ref oc, .ref on, .ref os, .ref ot, .ref od, .ref oo, .ref oy])), (ot, .inr (5, [.ref oc, .ref t2, .ref t3, .ref t4, .int hv1, .int tv1])), (t2, .inl (cI, 5, .inl (hit n K F bar (upd w rr (nI v)) ρ k).1)), (t3, .inl (cI, 5, .inl tk1)), (t4, .inl (cI, 5, .inl (ro (hit n K F bar (upd w rr (nI v)) ρ k).2))), (on, .inr (5, [.ref oc, .ref n2, .ref n3, .ref n4, .int hr, .int to])), (n2, .inl (cI, 5, .inl w)), (n3, .inl (cI, 5, .inl tk)), (n4, .inl (cI, 5, .inl (ro ρ))), (oc, .inr (1, [.ref c5, .ref c6, .int (nI n), .int bar])), (c5, .inl (cI, 5, .inl K)), (c6, .inl (cI, 5, .inl F)), (os, .inr (6, [.ref s1, .ref s2, .ref s3, .int (nI q)])), (s1, .inl (cI, 6, .inl (ro sh))), (s2, .inl (cI, 6, .inl (ro sr))), (s3, .inl (cZ, 6, .inl tb)), (oo, .inl (cI, 13, .inl (hfl (htk n K F bar (upd w rr (nI v)) ρ) g k)))] → lv_has ls 4 [(0, .ref h0), (1, .int (nI rr)), (2, .int (nI v)), (3, .int (nI (k + 1)))] → W p l e (rmO 4 88 0 0) s m args below meth c H locs 0 0 Q (F0 m 23 ls []) := by
    intro fu
    induction fu with
    | zero => intro k hv1 tv1 tk1 hfu; exact absurd hfu (Nat.not_lt_zero _)
    | succ fu ih23 =>
      intro k hv1 tv1 tk1 hfu hk H locs ls h hl
      refine lv_iload_n hx hb dX3_isPossible_23 rfl (lv_at hl 3 rfl) ?_
      refine lv_bipush (v := 12) hx hb dX3_isPossible_24 (by decide) ?_
      refine lv_icmp_gt (tgt := 56) hx hb dX3_isPossible_26 (by decide) (fun c_26 => ?_) (fun c_26 => ?_)
      · skip
        have c_26 := (jlt (a := 12) (b := (k + 1)) (by omega) (by omega)).mp c_26
        obtain rfl : 12 = k := by omega
        refine lv_aload_n hx hb dX3_isPossible_56 rfl (lv_at hl 0 rfl) ?_
        refine r_get C h fk3 0 2 rfl (by decide) mf_RX3_33 rfl dX3_isPossible_57 ?_
        refine lv_aload_n hx hb dX3_isPossible_60 rfl (lv_at hl 0 rfl) ?_
        refine r_get C h fk3 0 5 rfl (by decide) mf_RX3_18 rfl dX3_isPossible_61 ?_
        refine k_Vi (rest := []) (as := [.ref oo]) (wc := [(os, .inr (6, [.ref s1, .ref s2, .ref s3, .int (nI q)])), (s1, .inl (cI, 6, .inl (ro sh))), (s2, .inl (cI, 6, .inl (ro sr))), (s3, .inl (cZ, 6, .inl tb)), (oo, .inl (cI, 13, .inl (hfl (htk n K F bar (upd w rr (nI v)) ρ) g 12)))]) (wr := [(h0, .inr (3, [.ref oc, .ref on, .ref os, .ref ot, .ref od, .ref oo, .ref oy])), (ot, .inr (5, [.ref oc, .ref t2, .ref t3, .ref t4, .int hv1, .int tv1])), (t2, .inl (cI, 5, .inl (hit n K F bar (upd w rr (nI v)) ρ 12).1)), (t3, .inl (cI, 5, .inl tk1)), (t4, .inl (cI, 5, .inl (ro (hit n K F bar (upd w rr (nI v)) ρ 12).2))), (on, .inr (5, [.ref oc, .ref n2, .ref n3, .ref n4, .int hr, .int to])), (n2, .inl (cI, 5, .inl w)), (n3, .inl (cI, 5, .inl tk)), (n4, .inl (cI, 5, .inl (ro ρ))), (oc, .inr (1, [.ref c5, .ref c6, .int (nI n), .int bar])), (c5, .inl (cI, 5, .inl K)), (c6, .inl (cI, 5, .inl F))]) (isC := [12, 13, 14, 15, 16]) (isR := [0, 1, 2, 3, 4, 5, 6, 7, 8, 9, 10, 11]) (w2 := fun (_ : Unit) => [(h0, .inr (3, [.ref oc, .ref on, .ref os, .ref ot, .ref od, .ref oo, .ref oy])), (ot, .inr (5, [.ref oc, .ref t2, .ref t3, .ref t4, .int hv1, .int tv1])), (t2, .inl (cI, 5, .inl (hit n K F bar (upd w rr (nI v)) ρ 12).1)), (t3, .inl (cI, 5, .inl tk1)), (t4, .inl (cI, 5, .inl (ro (hit n K F bar (upd w rr (nI v)) ρ 12).2))), (on, .inr (5, [.ref oc, .ref n2, .ref n3, .ref n4, .int hr, .int to])), (n2, .inl (cI, 5, .inl w)), (n3, .inl (cI, 5, .inl tk)), (n4, .inl (cI, 5, .inl (ro ρ))), (oc, .inr (1, [.ref c5, .ref c6, .int (nI n), .int bar])), (c5, .inl (cI, 5, .inl K)), (c6, .inl (cI, 5, .inl F)), (os, .inr (6, [.ref s1, .ref s2, .ref s3, .int (nI q)])), (s1, .inl (cI, 6, .inl (ro sh))), (s2, .inl (cI, 6, .inl (ro sr))), (s3, .inl (cZ, 6, .inl tb)), (oo, .inl (cI, 13, .inl (hfl (htk n K F bar (upd w rr (nI v)) ρ) g 12)))]) C h (c_X6_agreeWith l D cI cZ kS vS os oo s1 s2 s3 q sh sr tb (hfl (htk n K F bar (upd w rr (nI v)) ρ) g 12) hq6 hsh) wv_X6_agreeWith rfl ⟨rfl, rfl, rfl, rfl, by decide⟩ fk6 12 rfl ml_RX3_100 [0, 1, 2, 3, 4, 5, 6, 7, 8, 9, 10, 11, 12, 13, 14, 15, 16] rfl (fun _ => rfl) ⟨Nat.le_of_ble_eq_true rfl, Nat.le_of_ble_eq_true rfl⟩ ⟨Nat.le_of_ble_eq_true rfl, Nat.le_of_ble_eq_true rfl⟩ (Nat.le_of_ble_eq_true rfl) hl rfl dX3_isPossible_64 (fun r u H locs hq h => ?_)
        have h : HS D A s H locs [(h0, .inr (3, [.ref oc, .ref on, .ref os, .ref ot, .ref od, .ref oo, .ref oy])), (ot, .inr (5, [.ref oc, .ref t2, .ref t3, .ref t4, .int hv1, .int tv1])), (t2, .inl (cI, 5, .inl (hit n K F bar (upd w rr (nI v)) ρ 12).1)), (t3, .inl (cI, 5, .inl tk1)), (t4, .inl (cI, 5, .inl (ro (hit n K F bar (upd w rr (nI v)) ρ 12).2))), (on, .inr (5, [.ref oc, .ref n2, .ref n3, .ref n4, .int hr, .int to])), (n2, .inl (cI, 5, .inl w)), (n3, .inl (cI, 5, .inl tk)), (n4, .inl (cI, 5, .inl (ro ρ))), (oc, .inr (1, [.ref c5, .ref c6, .int (nI n), .int bar])), (c5, .inl (cI, 5, .inl K)), (c6, .inl (cI, 5, .inl F)), (os, .inr (6, [.ref s1, .ref s2, .ref s3, .int (nI q)])), (s1, .inl (cI, 6, .inl (ro sh))), (s2, .inl (cI, 6, .inl (ro sr))), (s3, .inl (cZ, 6, .inl tb)), (oo, .inl (cI, 13, .inl (hfl (htk n K F bar (upd w rr (nI v)) ρ) g 12)))] := h
        have hq : r = bI (hag (hfl (htk n K F bar (upd w rr (nI v)) ρ) g 12) sh sr tb q) := hq
        have hq := hq.symm
        subst hq
        exact hret (r := bI (hag (hfl (htk n K F bar (upd w rr (nI v)) ρ) g 12) sh sr tb q)) (⟨hv1, tv1, (hit n K F bar (upd w rr (nI v)) ρ 12).1, tk1, ro (hit n K F bar (upd w rr (nI v)) ρ 12).2⟩) dX3_isPossible_67 h (bI_nar _) (by rw [hag_fl hsh]; rfl)
      · skip
        have c_26 : ¬ 12 < (k + 1) := fun z => c_26 ((jlt (a := 12) (b := (k + 1)) (by omega) (by omega)).mpr z)
        have hlt : k < 12 := by omega
        have hpk := hpm.hit (K := K) (F := F) (bar := bar) (w := upd w rr (nI v)) hn2 k
        refine lv_aload_n hx hb dX3_isPossible_29 rfl (lv_at hl 0 rfl) ?_
        refine r_get C h fk3 0 3 rfl (by decide) mf_RX3_42 rfl dX3_isPossible_30 ?_
        refine k_Vi (rest := []) (as := []) (wc := [(ot, .inr (5, [.ref oc, .ref t2, .ref t3, .ref t4, .int hv1, .int tv1])), (oc, .inr (1, [.ref c5, .ref c6, .int (nI n), .int bar])), (t2, .inl (cI, 5, .inl (hit n K F bar (upd w rr (nI v)) ρ k).1)), (t3, .inl (cI, 5, .inl tk1)), (t4, .inl (cI, 5, .inl (ro (hit n K F bar (upd w rr (nI v)) ρ k).2))), (c5, .inl (cI, 5, .inl K)), (c6, .inl (cI, 5, .inl F))]) (wr := [(h0, .inr (3, [.ref oc, .ref on, .ref os, .ref ot, .ref od, .ref oo, .ref oy])), (on, .inr (5, [.ref oc, .ref n2, .ref n3, .ref n4, .int hr, .int to])), (n2, .inl (cI, 5, .inl w)), (n3, .inl (cI, 5, .inl tk)), (n4, .inl (cI, 5, .inl (ro ρ))), (os, .inr (6, [.ref s1, .ref s2, .ref s3, .int (nI q)])), (s1, .inl (cI, 6, .inl (ro sh))), (s2, .inl (cI, 6, .inl (ro sr))), (s3, .inl (cZ, 6, .inl tb)), (oo, .inl (cI, 13, .inl (hfl (htk n K F bar (upd w rr (nI v)) ρ) g k)))]) (isC := [1, 9, 2, 3, 4, 10, 11]) (isR := [0, 5, 6, 7, 8, 12, 13, 14, 15, 16]) (w2 := fun (_ : Unit) => [(h0, .inr (3, [.ref oc, .ref on, .ref os, .ref ot, .ref od, .ref oo, .ref oy])), (ot, .inr (5, [.ref oc, .ref t2, .ref t3, .ref t4, .int (hv1 + 1), .int (hoo n K F bar (hit n K F bar (upd w rr (nI v)) ρ k).1 (hit n K F bar (upd w rr (nI v)) ρ k).2)])), (t2, .inl (cI, 5, .inl (hww n K F bar (hit n K F bar (upd w rr (nI v)) ρ k).1 (hit n K F bar (upd w rr (nI v)) ρ k).2))), (t3, .inl (cI, 5, .inl (htt n K F bar (hit n K F bar (upd w rr (nI v)) ρ k).1 (hit n K F bar (upd w rr (nI v)) ρ k).2 tk1))), (t4, .inl (cI, 5, .inl (ro (hrr n K F bar (hit n K F bar (upd w rr (nI v)) ρ k).1 (hit n K F bar (upd w rr (nI v)) ρ k).2)))), (on, .inr (5, [.ref oc, .ref n2, .ref n3, .ref n4, .int hr, .int to])), (n2, .inl (cI, 5, .inl w)), (n3, .inl (cI, 5, .inl tk)), (n4, .inl (cI, 5, .inl (ro ρ))), (oc, .inr (1, [.ref c5, .ref c6, .int (nI n), .int bar])), (c5, .inl (cI, 5, .inl K)), (c6, .inl (cI, 5, .inl F)), (os, .inr (6, [.ref s1, .ref s2, .ref s3, .int (nI q)])), (s1, .inl (cI, 6, .inl (ro sh))), (s2, .inl (cI, 6, .inl (ro sr))), (s3, .inl (cZ, 6, .inl tb)), (oo, .inl (cI, 13, .inl (hfl (htk n K F bar (upd w rr (nI v)) ρ) g k)))]) C h (c_X5_passHour l D cI cZ kS vS ot oc t2 t3 t4 c5 c6 n bar hv1 tv1 (hit n K F bar (upd w rr (nI v)) ρ k).1 tk1 (hit n K F bar (upd w rr (nI v)) ρ k).2 K F hn2 hn5 hpk.1) wv_X5_passHour rfl ⟨rfl, rfl, rfl, rfl, by decide⟩ fk5 1 rfl ml_RX3_49 [0, 10, 12, 13, 14, 1, 2, 3, 4, 11, 15, 16, 5, 6, 7, 8, 9] rfl (fun _ => rfl) ⟨Nat.le_of_ble_eq_true rfl, Nat.le_of_ble_eq_true rfl⟩ ⟨Nat.le_of_ble_eq_true rfl, Nat.le_of_ble_eq_true rfl⟩ (Nat.le_of_ble_eq_true rfl) hl rfl dX3_isPossible_33 (fun r u H locs hq h => ?_)
        have h : HS D A s H locs [(h0, .inr (3, [.ref oc, .ref on, .ref os, .ref ot, .ref od, .ref oo, .ref oy])), (ot, .inr (5, [.ref oc, .ref t2, .ref t3, .ref t4, .int (hv1 + 1), .int (hoo n K F bar (hit n K F bar (upd w rr (nI v)) ρ k).1 (hit n K F bar (upd w rr (nI v)) ρ k).2)])), (t2, .inl (cI, 5, .inl (hww n K F bar (hit n K F bar (upd w rr (nI v)) ρ k).1 (hit n K F bar (upd w rr (nI v)) ρ k).2))), (t3, .inl (cI, 5, .inl (htt n K F bar (hit n K F bar (upd w rr (nI v)) ρ k).1 (hit n K F bar (upd w rr (nI v)) ρ k).2 tk1))), (t4, .inl (cI, 5, .inl (ro (hrr n K F bar (hit n K F bar (upd w rr (nI v)) ρ k).1 (hit n K F bar (upd w rr (nI v)) ρ k).2)))), (on, .inr (5, [.ref oc, .ref n2, .ref n3, .ref n4, .int hr, .int to])), (n2, .inl (cI, 5, .inl w)), (n3, .inl (cI, 5, .inl tk)), (n4, .inl (cI, 5, .inl (ro ρ))), (oc, .inr (1, [.ref c5, .ref c6, .int (nI n), .int bar])), (c5, .inl (cI, 5, .inl K)), (c6, .inl (cI, 5, .inl F)), (os, .inr (6, [.ref s1, .ref s2, .ref s3, .int (nI q)])), (s1, .inl (cI, 6, .inl (ro sh))), (s2, .inl (cI, 6, .inl (ro sr))), (s3, .inl (cZ, 6, .inl tb)), (oo, .inl (cI, 13, .inl (hfl (htk n K F bar (upd w rr (nI v)) ρ) g k)))] := h
        have hq : r = hmm n K F bar (hit n K F bar (upd w rr (nI v)) ρ k).1 (hit n K F bar (upd w rr (nI v)) ρ k).2 := hq
        have hq := hq.symm
        subst hq
        refine lv_pop hx hb dX3_isPossible_36 rfl ?_
        refine lv_aload_n hx hb dX3_isPossible_37 rfl (lv_at hl 0 rfl) ?_
        refine r_get C h fk3 0 5 rfl (by decide) mf_RX3_18 rfl dX3_isPossible_38 ?_
        refine lv_iload_n hx hb dX3_isPossible_41 rfl (lv_at hl 3 rfl) ?_
        refine lv_aload_n hx hb dX3_isPossible_42 rfl (lv_at hl 0 rfl) ?_
        refine r_get C h fk3 0 3 rfl (by decide) mf_RX3_42 rfl dX3_isPossible_43 ?_
        refine r_getN C h fk5 1 5 18 rfl (by decide) rfl rfl dX3_isPossible_46 ?_
        refine r_top (y := (htk n K F bar (upd w rr (nI v)) ρ) (k + 1)) (rfl) ?_
        refine r_st C h 16 rfl (k + 1) (rfl) (by omega) (by decide) (g := upd (hfl (htk n K F bar (upd w rr (nI v)) ρ) g k) (k + 1) ((htk n K F bar (upd w rr (nI v)) ρ) (k + 1))) (fun _ _ => rfl) (ws' := [(h0, .inr (3, [.ref oc, .ref on, .ref os, .ref ot, .ref od, .ref oo, .ref oy])), (ot, .inr (5, [.ref oc, .ref t2, .ref t3, .ref t4, .int (hv1 + 1), .int (hoo n K F bar (hit n K F bar (upd w rr (nI v)) ρ k).1 (hit n K F bar (upd w rr (nI v)) ρ k).2)])), (t2, .inl (cI, 5, .inl (hww n K F bar (hit n K F bar (upd w rr (nI v)) ρ k).1 (hit n K F bar (upd w rr (nI v)) ρ k).2))), (t3, .inl (cI, 5, .inl (htt n K F bar (hit n K F bar (upd w rr (nI v)) ρ k).1 (hit n K F bar (upd w rr (nI v)) ρ k).2 tk1))), (t4, .inl (cI, 5, .inl (ro (hrr n K F bar (hit n K F bar (upd w rr (nI v)) ρ k).1 (hit n K F bar (upd w rr (nI v)) ρ k).2)))), (on, .inr (5, [.ref oc, .ref n2, .ref n3, .ref n4, .int hr, .int to])), (n2, .inl (cI, 5, .inl w)), (n3, .inl (cI, 5, .inl tk)), (n4, .inl (cI, 5, .inl (ro ρ))), (oc, .inr (1, [.ref c5, .ref c6, .int (nI n), .int bar])), (c5, .inl (cI, 5, .inl K)), (c6, .inl (cI, 5, .inl F)), (os, .inr (6, [.ref s1, .ref s2, .ref s3, .int (nI q)])), (s1, .inl (cI, 6, .inl (ro sh))), (s2, .inl (cI, 6, .inl (ro sr))), (s3, .inl (cZ, 6, .inl tb)), (oo, .inl (cI, 13, .inl (upd (hfl (htk n K F bar (upd w rr (nI v)) ρ) g k) (k + 1) ((htk n K F bar (upd w rr (nI v)) ρ) (k + 1)))))]) rfl dX3_isPossible_49 (fun H locs h => ?_)
        refine lv_iinc (v := nI ((k + 1) + 1)) (lv' := [(3, .int (nI ((k + 1) + 1))), (0, .ref h0), (1, .int (nI rr)), (2, .int (nI v))]) hx hb dX3_isPossible_50 hl (k := 3) rfl (nI_1 (k + 1)) (by decide) rfl (fun ls hl => ?_)
        refine lv_goto (tgt := 23) hx hb dX3_isPossible_53 (by decide) ?_
        have h := h.arr 2 (g := (hit n K F bar (upd w rr (nI v)) ρ (k + 1)).1) rfl (fun j hj => rfl) rfl
        have h := h.arr 3 (g := (htt n K F bar (hit n K F bar (upd w rr (nI v)) ρ k).1 (hit n K F bar (upd w rr (nI v)) ρ k).2 tk1)) rfl (fun j hj => rfl) rfl
        have h := h.arr 4 (g := ro (hit n K F bar (upd w rr (nI v)) ρ (k + 1)).2) rfl (fun j hj => rfl) rfl
        have h := h.arr 16 (g := hfl (htk n K F bar (upd w rr (nI v)) ρ) g (k + 1)) rfl (fun j _ => hfl_s j) rfl
        exact ih23  (k + 1) (hv1 + 1) (hoo n K F bar (hit n K F bar (upd w rr (nI v)) ρ k).1 (hit n K F bar (upd w rr (nI v)) ρ k).2) (htt n K F bar (hit n K F bar (upd w rr (nI v)) ρ k).1 (hit n K F bar (upd w rr (nI v)) ρ k).2 tk1) (by omega) (by first | assumption | omega) _ _ _ h (lv_sub hl [1, 2, 3, 0] rfl)
  have h := h.arr 2 (g := (hit n K F bar (upd w rr (nI v)) ρ 0).1) rfl (fun j _ => rfl) rfl
  have h := h.arr 4 (g := ro (hit n K F bar (upd w rr (nI v)) ρ 0).2) rfl (fun j _ => rfl) rfl
  have h := h.arr 16 (g := hfl (htk n K F bar (upd w rr (nI v)) ρ) g 0) rfl (fun j _ => hfl_0 _ g j) rfl
  exact L23 ((12 - 0) + 1) 0 hr tv tk (by omega) (by first | assumption | omega) _ _ _ h (lv_sub hl [1, 2, 3, 0] rfl)

set_option maxHeartbeats 4000000 in
set_option maxRecDepth 100000 in
theorem c_X3_possibleWaters (l : Launch) (D : va_G) (cI cZ : ClassId) (kS vS : Nat) (h0 : Nat) (oc : Nat) (on : Nat) (os : Nat) (ot : Nat) (od : Nat) (oo : Nat) (oy : Nat) (t2 : Nat) (t3 : Nat) (t4 : Nat) (n2 : Nat) (n3 : Nat) (n4 : Nat) (c5 : Nat) (c6 : Nat) (n : Nat) (bar : Int32) (K : Nat → Int32) (F : Nat → Int32) (w : Nat → Int32) (ρ : Nat → Nat) (tk : Nat → Int32) (hr : Int32) (to : Int32) (hv : Int32) (tv : Int32) (tw : Nat → Int32) (tk2 : Nat → Int32) (tr : Nat → Int32) (s1 : Nat) (s2 : Nat) (s3 : Nat) (q : Nat) (sh : Nat → Nat) (sr : Nat → Nat) (tb : Nat → Int32) (g : Nat → Int32) (rr : Nat) (hn2 : 2 ≤ n) (hn5 : n ≤ 5) (hpm : PM n ρ) (hq6 : q ≤ 6) (hsh : ∀ i, i < q → 1 ≤ sh i ∧ sh i ≤ 12) (hrn : rr < n) : CI l yX3_possibleWaters cX3_possibleWaters 4 .int D cI cZ kS vS 5 111 0 0 [.ref h0, .int (nI rr)] [(h0, .inr (3, [.ref oc, .ref on, .ref os, .ref ot, .ref od, .ref oo, .ref oy])), (ot, .inr (5, [.ref oc, .ref t2, .ref t3, .ref t4, .int hv, .int tv])), (t2, .inl (cI, 5, .inl tw)), (t3, .inl (cI, 5, .inl tk2)), (t4, .inl (cI, 5, .inl tr)), (on, .inr (5, [.ref oc, .ref n2, .ref n3, .ref n4, .int hr, .int to])), (n2, .inl (cI, 5, .inl w)), (n3, .inl (cI, 5, .inl tk)), (n4, .inl (cI, 5, .inl (ro ρ))), (oc, .inr (1, [.ref c5, .ref c6, .int (nI n), .int bar])), (c5, .inl (cI, 5, .inl K)), (c6, .inl (cI, 5, .inl F)), (os, .inr (6, [.ref s1, .ref s2, .ref s3, .int (nI q)])), (s1, .inl (cI, 6, .inl (ro sh))), (s2, .inl (cI, 6, .inl (ro sr))), (s3, .inl (cZ, 6, .inl tb)), (oo, .inl (cI, 13, .inl g))] (fun (r : Int32) (u : Int32 × Int32 × (Nat → Int32) × (Nat → Int32) × (Nat → Int32) × (Nat → Int32)) => r = hbt n K F bar w ρ sh sr tb q rr 10) (fun (u : Int32 × Int32 × (Nat → Int32) × (Nat → Int32) × (Nat → Int32) × (Nat → Int32)) => [(h0, .inr (3, [.ref oc, .ref on, .ref os, .ref ot, .ref od, .ref oo, .ref oy])), (ot, .inr (5, [.ref oc, .ref t2, .ref t3, .ref t4, .int u.1, .int u.2.1])), (t2, .inl (cI, 5, .inl u.2.2.1)), (t3, .inl (cI, 5, .inl u.2.2.2.1)), (t4, .inl (cI, 5, .inl u.2.2.2.2.1)), (on, .inr (5, [.ref oc, .ref n2, .ref n3, .ref n4, .int hr, .int to])), (n2, .inl (cI, 5, .inl w)), (n3, .inl (cI, 5, .inl tk)), (n4, .inl (cI, 5, .inl (ro ρ))), (oc, .inr (1, [.ref c5, .ref c6, .int (nI n), .int bar])), (c5, .inl (cI, 5, .inl K)), (c6, .inl (cI, 5, .inl F)), (os, .inr (6, [.ref s1, .ref s2, .ref s3, .int (nI q)])), (s1, .inl (cI, 6, .inl (ro sh))), (s2, .inl (cI, 6, .inl (ro sr))), (s3, .inl (cZ, 6, .inl tb)), (oo, .inl (cI, 13, .inl u.2.2.2.2.2))]) := by
  refine CI_intro (by decide) (Nat.le_of_ble_eq_true rfl) ?_
  intro p e s m args below meth c A Q ls C h hret hl
  have C : CX p s m args c cX3_possibleWaters 4 RX3 D cI cZ kS vS A := C
  have hx := C.1.1
  have hb := C.1.2.1
  have hl : lv_has ls 4 [(0, .ref h0), (1, .int (nI rr))] := hl
  refine lv_iconst (v := 0) hx hb dX3_possibleWaters_0 (by decide) ?_
  refine lv_istore_n (lv' := [(2, .int 0), (0, .ref h0), (1, .int (nI rr))]) hx hb dX3_possibleWaters_1 rfl hl (by decide) rfl (fun ls hl => ?_)
  refine lv_iconst (v := 0) hx hb dX3_possibleWaters_2 (by decide) ?_
  refine lv_istore_n (lv' := [(3, .int 0), (2, .int 0), (0, .ref h0), (1, .int (nI rr))]) hx hb dX3_possibleWaters_3 rfl hl (by decide) rfl (fun ls hl => ?_)
  have L4 : ∀ (fu : Nat) (v : Nat) (hv1 : Int32) (tv1 : Int32) (tw1 : Nat → Int32) (tk1 : Nat → Int32) (tr1 : Nat → Int32) (g1 : Nat → Int32), (10 - v) < fu → (hv10 : v ≤ 10) → ∀ (H : Heap) (locs : List Loc) (ls : Array Slot), HS D A s H locs [(h0, .inr (3, [.ref oc, .ref on, .ref os, .ref ot, .ref od, .ref oo, .ref oy])), (ot, .inr (5, [.ref oc, .ref t2, .ref t3, .ref t4, .int hv1, .int tv1])), (t2, .inl (cI, 5, .inl tw1)), (t3, .inl (cI, 5, .inl tk1)), (t4, .inl (cI, 5, .inl tr1)), (on, .inr (5, [.ref oc, .ref n2, .ref n3, .ref n4, .int hr, .int to])), (n2, .inl (cI, 5, .inl w)), (n3, .inl (cI, 5, .inl tk)), (n4, .inl (cI, 5, .inl (ro ρ))), (oc, .inr (1, [.ref c5, .ref c6, .int (nI n), .int bar])), (c5, .inl (cI, 5, .inl K)), (c6, .inl (cI, 5, .inl F)), (os, .inr (6, [.ref s1, .ref s2, .ref s3, .int (nI q)])), (s1, .inl (cI, 6, .inl (ro sh))), (s2, .inl (cI, 6, .inl (ro sr))), (s3, .inl (cZ, 6, .inl tb)), (oo, .inl (cI, 13, .inl g1))] → lv_has ls 4 [(0, .ref h0), (1, .int (nI rr)), (2, .int (hbt n K F bar w ρ sh sr tb q rr v)), (3, .int (nI v))] → W p l e (rmO 5 111 0 0) s m args below meth c H locs 0 0 Q (F0 m 4 ls []) := by
    intro fu
    induction fu with
    | zero => intro v hv1 tv1 tw1 tk1 tr1 g1 hfu; exact absurd hfu (Nat.not_lt_zero _)
    | succ fu ih4 =>
      intro v hv1 tv1 tw1 tk1 tr1 g1 hfu hv10 H locs ls h hl
      refine lv_iload_n hx hb dX3_possibleWaters_4 rfl (lv_at hl 3 rfl) ?_
      refine lv_bipush (v := 9) hx hb dX3_possibleWaters_5 (by decide) ?_
      refine lv_icmp_gt (tgt := 31) hx hb dX3_possibleWaters_7 (by decide) (fun c_7 => ?_) (fun c_7 => ?_)
      · skip
        have c_7 := (jlt (a := 9) (b := v) (by omega) (by omega)).mp c_7
        obtain rfl : 10 = v := by omega
        refine lv_iload_n hx hb dX3_possibleWaters_31 rfl (lv_at hl 2 rfl) ?_
        exact hret (r := hbt n K F bar w ρ sh sr tb q rr 10) (⟨hv1, tv1, tw1, tk1, tr1, g1⟩) dX3_possibleWaters_32 h (rfl) (rfl)
      · skip
        have c_7 : ¬ 9 < v := fun z => c_7 ((jlt (a := 9) (b := v) (by omega) (by omega)).mpr z)
        have hv9 : v < 10 := by omega
        refine lv_aload_n hx hb dX3_possibleWaters_10 rfl (lv_at hl 0 rfl) ?_
        refine lv_iload_n hx hb dX3_possibleWaters_11 rfl (lv_at hl 1 rfl) ?_
        refine lv_iload_n hx hb dX3_possibleWaters_12 rfl (lv_at hl 3 rfl) ?_
        refine k_Vi (rest := []) (as := [.int (nI rr), .int (nI v)]) (wc := [(h0, .inr (3, [.ref oc, .ref on, .ref os, .ref ot, .ref od, .ref oo, .ref oy])), (ot, .inr (5, [.ref oc, .ref t2, .ref t3, .ref t4, .int hv1, .int tv1])), (t2, .inl (cI, 5, .inl tw1)), (t3, .inl (cI, 5, .inl tk1)), (t4, .inl (cI, 5, .inl tr1)), (on, .inr (5, [.ref oc, .ref n2, .ref n3, .ref n4, .int hr, .int to])), (n2, .inl (cI, 5, .inl w)), (n3, .inl (cI, 5, .inl tk)), (n4, .inl (cI, 5, .inl (ro ρ))), (oc, .inr (1, [.ref c5, .ref c6, .int (nI n), .int bar])), (c5, .inl (cI, 5, .inl K)), (c6, .inl (cI, 5, .inl F)), (os, .inr (6, [.ref s1, .ref s2, .ref s3, .int (nI q)])), (s1, .inl (cI, 6, .inl (ro sh))), (s2, .inl (cI, 6, .inl (ro sr))), (s3, .inl (cZ, 6, .inl tb)), (oo, .inl (cI, 13, .inl g1))]) (wr := []) (isC := [0, 1, 2, 3, 4, 5, 6, 7, 8, 9, 10, 11, 12, 13, 14, 15, 16]) (isR := []) (w2 := fun (u : Int32 × Int32 × (Nat → Int32) × (Nat → Int32) × (Nat → Int32)) => [(h0, .inr (3, [.ref oc, .ref on, .ref os, .ref ot, .ref od, .ref oo, .ref oy])), (ot, .inr (5, [.ref oc, .ref t2, .ref t3, .ref t4, .int u.1, .int u.2.1])), (t2, .inl (cI, 5, .inl u.2.2.1)), (t3, .inl (cI, 5, .inl u.2.2.2.1)), (t4, .inl (cI, 5, .inl u.2.2.2.2)), (on, .inr (5, [.ref oc, .ref n2, .ref n3, .ref n4, .int hr, .int to])), (n2, .inl (cI, 5, .inl w)), (n3, .inl (cI, 5, .inl tk)), (n4, .inl (cI, 5, .inl (ro ρ))), (oc, .inr (1, [.ref c5, .ref c6, .int (nI n), .int bar])), (c5, .inl (cI, 5, .inl K)), (c6, .inl (cI, 5, .inl F)), (os, .inr (6, [.ref s1, .ref s2, .ref s3, .int (nI q)])), (s1, .inl (cI, 6, .inl (ro sh))), (s2, .inl (cI, 6, .inl (ro sr))), (s3, .inl (cZ, 6, .inl tb)), (oo, .inl (cI, 13, .inl (hfl (htk n K F bar (upd w rr (nI v)) ρ) g1 12)))]) C h (c_X3_isPossible l D cI cZ kS vS h0 oc on os ot od oo oy t2 t3 t4 n2 n3 n4 c5 c6 n bar K F w ρ tk hr to hv1 tv1 tw1 tk1 tr1 s1 s2 s3 q sh sr tb g1 rr v hn2 hn5 hpm hq6 hsh hrn hv9) wv_X3_isPossible rfl ⟨rfl, rfl, rfl, rfl, by decide⟩ fk3 0 rfl ml_RX3_59 [0, 1, 2, 3, 4, 5, 6, 7, 8, 9, 10, 11, 12, 13, 14, 15, 16] rfl (fun _ => rfl) ⟨Nat.le_of_ble_eq_true rfl, Nat.le_of_ble_eq_true rfl⟩ ⟨Nat.le_of_ble_eq_true rfl, Nat.le_of_ble_eq_true rfl⟩ (Nat.le_of_ble_eq_true rfl) hl rfl dX3_possibleWaters_13 (fun r u H locs hq h => ?_)
        obtain ⟨uh13, ut13, uw13, uk13, ur13⟩ := u
        have h : HS D A s H locs [(h0, .inr (3, [.ref oc, .ref on, .ref os, .ref ot, .ref od, .ref oo, .ref oy])), (ot, .inr (5, [.ref oc, .ref t2, .ref t3, .ref t4, .int uh13, .int ut13])), (t2, .inl (cI, 5, .inl uw13)), (t3, .inl (cI, 5, .inl uk13)), (t4, .inl (cI, 5, .inl ur13)), (on, .inr (5, [.ref oc, .ref n2, .ref n3, .ref n4, .int hr, .int to])), (n2, .inl (cI, 5, .inl w)), (n3, .inl (cI, 5, .inl tk)), (n4, .inl (cI, 5, .inl (ro ρ))), (oc, .inr (1, [.ref c5, .ref c6, .int (nI n), .int bar])), (c5, .inl (cI, 5, .inl K)), (c6, .inl (cI, 5, .inl F)), (os, .inr (6, [.ref s1, .ref s2, .ref s3, .int (nI q)])), (s1, .inl (cI, 6, .inl (ro sh))), (s2, .inl (cI, 6, .inl (ro sr))), (s3, .inl (cZ, 6, .inl tb)), (oo, .inl (cI, 13, .inl (hfl (htk n K F bar (upd w rr (nI v)) ρ) g1 12)))] := h
        have hq : r = bI (hpo n K F bar w ρ sh sr tb q rr v) := hq
        have hq := hq.symm
        subst hq
        refine lv_if_eq (tgt := 25) hx hb dX3_possibleWaters_16 (by decide) (fun c_16 => ?_) (fun c_16 => ?_)
        · skip
          have eb : hbt n K F bar w ρ sh sr tb q rr (v + 1) = hbt n K F bar w ρ sh sr tb q rr v := if_neg (by rw [bI_0.mp c_16]; decide)
          have hl : lv_has ls 4 [(0, .ref h0), (1, .int (nI rr)), (2, .int (hbt n K F bar w ρ sh sr tb q rr (v + 1))), (3, .int (nI v))] := by rw [eb]; exact hl
          refine lv_iinc (v := nI (v + 1)) (lv' := [(3, .int (nI (v + 1))), (0, .ref h0), (1, .int (nI rr)), (2, .int (hbt n K F bar w ρ sh sr tb q rr (v + 1)))]) hx hb dX3_possibleWaters_25 hl (k := 3) rfl (nI_1 v) (by decide) rfl (fun ls hl => ?_)
          refine lv_goto (tgt := 4) hx hb dX3_possibleWaters_28 (by decide) ?_
          have h := h.arr 16 (g := (hfl (htk n K F bar (upd w rr (nI v)) ρ) g1 12)) rfl (fun j hj => rfl) rfl
          exact ih4  (v + 1) uh13 ut13 uw13 uk13 ur13 (hfl (htk n K F bar (upd w rr (nI v)) ρ) g1 12) (by omega) (by first | assumption | omega) _ _ _ h (lv_sub hl [1, 2, 3, 0] rfl)
        · skip
          have eb : hbt n K F bar w ρ sh sr tb q rr (v + 1) = hbt n K F bar w ρ sh sr tb q rr v ||| (1 <<< (nI v &&& 31)) := if_pos (bI_n0.mp c_16)
          refine lv_iload_n hx hb dX3_possibleWaters_19 rfl (lv_at hl 2 rfl) ?_
          refine lv_iconst (v := 1) hx hb dX3_possibleWaters_20 (by decide) ?_
          refine lv_iload_n hx hb dX3_possibleWaters_21 rfl (lv_at hl 3 rfl) ?_
          refine lv_ishl hx hb dX3_possibleWaters_22 ?_
          refine lv_ior hx hb dX3_possibleWaters_23 ?_
          refine r_top (y := hbt n K F bar w ρ sh sr tb q rr (v + 1)) (eb.symm) ?_
          refine lv_istore_n (lv' := [(2, .int (hbt n K F bar w ρ sh sr tb q rr (v + 1))), (0, .ref h0), (1, .int (nI rr)), (3, .int (nI v))]) hx hb dX3_possibleWaters_24 rfl hl (by decide) rfl (fun ls hl => ?_)
          refine lv_iinc (v := nI (v + 1)) (lv' := [(3, .int (nI (v + 1))), (2, .int (hbt n K F bar w ρ sh sr tb q rr (v + 1))), (0, .ref h0), (1, .int (nI rr))]) hx hb dX3_possibleWaters_25 hl (k := 3) rfl (nI_1 v) (by decide) rfl (fun ls hl => ?_)
          refine lv_goto (tgt := 4) hx hb dX3_possibleWaters_28 (by decide) ?_
          have h := h.arr 16 (g := (hfl (htk n K F bar (upd w rr (nI v)) ρ) g1 12)) rfl (fun j hj => rfl) rfl
          exact ih4  (v + 1) uh13 ut13 uw13 uk13 ur13 (hfl (htk n K F bar (upd w rr (nI v)) ρ) g1 12) (by omega) (by first | assumption | omega) _ _ _ h (lv_sub hl [2, 3, 1, 0] rfl)
  exact L4 ((10 - 0) + 1) 0 hv tv tw tk2 tr g (by omega) (by first | assumption | omega) _ _ _ h (lv_sub hl [2, 3, 1, 0] rfl)

set_option maxHeartbeats 4000000 in
set_option maxRecDepth 100000 in
theorem c_J7_fill_53178 (l : Launch) (D : va_G) (cI cZ : ClassId) (kS vS : Nat) (ha : Nat) (g : Nat → Int32)  : CV l yJ7_fill_53178 cJ7_fill_53178 4 D cI cZ kS vS 0 0 0 0 [.ref ha, .int 0] [(ha, .inl (cI, 13, .inl g))] (fun (_ : Unit) => True) (fun (_ : Unit) => [(ha, .inl (cI, 13, .inl (ro (fun _ => 0))))]) := by
  refine CV_intro (by decide) (Nat.le_of_ble_eq_true rfl) ?_
  intro p e s m args below meth c A Q ls C hini h hret hl
  have C : CX p s m args c cJ7_fill_53178 4 RJ7 D cI cZ kS vS A := C
  have hx := C.1.1
  have hb := C.1.2.1
  have hl : lv_has ls 4 [(0, .ref ha), (1, .int 0)] := hl
  refine lv_iconst (v := 0) hx hb dJ7_fill_53178_0 (by decide) ?_
  refine lv_istore_n (lv' := [(2, .int 0), (0, .ref ha), (1, .int 0)]) hx hb dJ7_fill_53178_1 rfl hl (by decide) rfl (fun ls hl => ?_)
  refine lv_aload_n hx hb dJ7_fill_53178_2 rfl (lv_at hl 1 rfl) ?_
  refine r_alen C h 0 rfl dJ7_fill_53178_3 ?_
  refine lv_istore_n (lv' := [(3, .int (nI 13)), (2, .int 0), (0, .ref ha), (1, .int 0)]) hx hb dJ7_fill_53178_4 rfl hl (by decide) rfl (fun ls hl => ?_)
  have L5 : ∀ (fu : Nat) (i : Nat), (13 - i) < fu → (hi : i ≤ 13) → ∀ (H : Heap) (locs : List Loc) (ls : Array Slot), HS D A s H locs [(ha, .inl (cI, 13, .inl (ffl (fun _ => 0) g i)))] → lv_has ls 4 [(0, .ref ha), (1, .int 0), (2, .int (nI i)), (3, .int (nI 13))] → W p l e (rmO 0 0 0 0) s m args below meth c H locs 0 0 Q (F0 m 5 ls []) := by
    intro fu
    induction fu with
    | zero => intro i hfu; exact absurd hfu (Nat.not_lt_zero _)
    | succ fu ih5 =>
      intro i hfu hi H locs ls h hl
      refine lv_iload_n hx hb dJ7_fill_53178_5 rfl (lv_at hl 2 rfl) ?_
      refine lv_iload_n hx hb dJ7_fill_53178_6 rfl (lv_at hl 3 rfl) ?_
      refine lv_icmp_ge (tgt := 20) hx hb dJ7_fill_53178_7 (by decide) (fun c_7 => ?_) (fun c_7 => ?_)
      · skip
        have c_7 := (jle (a := 13) (b := i) (by omega) (by omega)).mp c_7
        obtain rfl : 13 = i := by omega
        have h := h.arr 0 (g := ro (fun _ => 0)) rfl (fun j hj => (ffl_in hj).trans rfl) rfl
        exact hret () dJ7_fill_53178_20 h (trivial)
      · skip
        have c_7 : ¬ 13 ≤ i := fun z => c_7 ((jle (a := 13) (b := i) (by omega) (by omega)).mpr z)
        have hlt : i < 13 := by omega
        refine lv_aload_n hx hb dJ7_fill_53178_10 rfl (lv_at hl 0 rfl) ?_
        refine lv_iload_n hx hb dJ7_fill_53178_11 rfl (lv_at hl 2 rfl) ?_
        refine lv_iload_n hx hb dJ7_fill_53178_12 rfl (lv_at hl 1 rfl) ?_
        refine r_st C h 0 rfl i (rfl) (by omega) (by decide) (g := upd (ffl (fun _ => 0) g i) i 0) (fun _ _ => rfl) (ws' := [(ha, .inl (cI, 13, .inl (upd (ffl (fun _ => 0) g i) i 0)))]) rfl dJ7_fill_53178_13 (fun H locs h => ?_)
        refine lv_iinc (v := nI (i + 1)) (lv' := [(2, .int (nI (i + 1))), (0, .ref ha), (1, .int 0), (3, .int (nI 13))]) hx hb dJ7_fill_53178_14 hl (k := 2) rfl (nI_1 i) (by decide) rfl (fun ls hl => ?_)
        refine lv_goto (tgt := 5) hx hb dJ7_fill_53178_17 (by decide) ?_
        have h := h.arr 0 (g := ffl (fun _ => 0) g (i + 1)) rfl (fun j _ => ffl_s (fun _ => 0) g i j) rfl
        exact ih5  (i + 1) (by omega) (by first | assumption | omega) _ _ _ h (lv_sub hl [1, 2, 0, 3] rfl)
  have h := h.arr 0 (g := ffl (fun _ => 0) g 0) rfl (fun j _ => ffl_0 _ g j) rfl
  exact L5 ((13 - 0) + 1) 0 (by omega) (by first | assumption | omega) _ _ _ h (lv_sub hl [2, 3, 1, 0] rfl)

set_option maxHeartbeats 4000000 in
set_option maxRecDepth 100000 in
theorem c_X3_addTakes (l : Launch) (D : va_G) (cI cZ : ClassId) (kS vS : Nat) (h0 : Nat) (oc : Nat) (on : Nat) (os : Nat) (ot : Nat) (od : Nat) (oo : Nat) (oy : Nat) (T : Nat → Int32) (g : Nat → Nat) (rr : Nat) (hg : ∀ h, g h ≤ 10) : CV l yX3_addTakes cX3_addTakes 3 D cI cZ kS vS 0 0 0 0 [.ref h0, .int (nI rr)] [(h0, .inr (3, [.ref oc, .ref on, .ref os, .ref ot, .ref od, .ref oo, .ref oy])), (oo, .inl (cI, 13, .inl T)), (oy, .inl (cI, 13, .inl (ro g)))] (fun (_ : Unit) => True) (fun (_ : Unit) => [(h0, .inr (3, [.ref oc, .ref on, .ref os, .ref ot, .ref od, .ref oo, .ref oy])), (oo, .inl (cI, 13, .inl T)), (oy, .inl (cI, 13, .inl (ro (hyr T rr g 12))))]) := by
  refine CV_intro (by decide) (Nat.le_of_ble_eq_true rfl) ?_
  intro p e s m args below meth c A Q ls C hini h hret hl
  have C : CX p s m args c cX3_addTakes 3 RX3 D cI cZ kS vS A := C
  have hx := C.1.1
  have hb := C.1.2.1
  have hl : lv_has ls 3 [(0, .ref h0), (1, .int (nI rr))] := hl
  refine lv_iconst (v := 1) hx hb dX3_addTakes_0 (by decide) ?_
  refine lv_istore_n (lv' := [(2, .int 1), (0, .ref h0), (1, .int (nI rr))]) hx hb dX3_addTakes_1 rfl hl (by decide) rfl (fun ls hl => ?_)
  have L2 : ∀ (fu : Nat) (k : Nat), (12 - k) < fu → (hk0 : k ≤ 12) → ∀ (H : Heap) (locs : List Loc) (ls : Array Slot), HS D A s H locs [(h0, .inr (3, [.ref oc, .ref on, .ref os, .ref ot, .ref od, .ref oo, .ref oy])), (oo, .inl (cI, 13, .inl T)), (oy, .inl (cI, 13, .inl (ro (hyr T rr g k))))] → lv_has ls 3 [(0, .ref h0), (1, .int (nI rr)), (2, .int (nI (k + 1)))] → W p l e (rmO 0 0 0 0) s m args below meth c H locs 0 0 Q (F0 m 2 ls []) := by
    intro fu
    induction fu with
    | zero => intro k hfu; exact absurd hfu (Nat.not_lt_zero _)
    | succ fu ih2 =>
      intro k hfu hk0 H locs ls h hl
      refine lv_iload_n hx hb dX3_addTakes_2 rfl (lv_at hl 2 rfl) ?_
      refine lv_bipush (v := 12) hx hb dX3_addTakes_3 (by decide) ?_
      refine lv_icmp_gt (tgt := 34) hx hb dX3_addTakes_5 (by decide) (fun c_5 => ?_) (fun c_5 => ?_)
      · skip
        have c_5 := (jlt (a := 12) (b := (k + 1)) (by omega) (by omega)).mp c_5
        obtain rfl : 12 = k := by omega
        exact hret () dX3_addTakes_34 h (trivial)
      · skip
        have c_5 : ¬ 12 < (k + 1) := fun z => c_5 ((jlt (a := 12) (b := (k + 1)) (by omega) (by omega)).mpr z)
        have hlt : k < 12 := by omega
        have hgk := hg (k + 1)
        refine lv_aload_n hx hb dX3_addTakes_8 rfl (lv_at hl 0 rfl) ?_
        refine r_get C h fk3 0 5 rfl (by decide) mf_RX3_18 rfl dX3_addTakes_9 ?_
        refine lv_iload_n hx hb dX3_addTakes_12 rfl (lv_at hl 2 rfl) ?_
        refine r_ld C h 1 rfl (k + 1) (rfl) (by omega) (by decide) (x := T (k + 1)) (rfl) dX3_addTakes_13 ?_
        refine lv_iload_n hx hb dX3_addTakes_14 rfl (lv_at hl 1 rfl) ?_
        refine lv_icmp_ne (tgt := 28) hx hb dX3_addTakes_15 (by decide) (fun c_15 => ?_) (fun c_15 => ?_)
        · skip
          have hst : ∀ j, j < 13 → ro (hyr T rr g k) j = ro (hyr T rr g (k + 1)) j := fun j _ => congrArg nI (hyr_f c_15 j)
          refine lv_iinc (v := nI ((k + 1) + 1)) (lv' := [(2, .int (nI ((k + 1) + 1))), (0, .ref h0), (1, .int (nI rr))]) hx hb dX3_addTakes_28 hl (k := 2) rfl (nI_1 (k + 1)) (by decide) rfl (fun ls hl => ?_)
          refine lv_goto (tgt := 2) hx hb dX3_addTakes_31 (by decide) ?_
          have h := h.arr 2 (g := ro (hyr T rr g (k + 1))) rfl (hst) rfl
          exact ih2  (k + 1) (by omega) (by first | assumption | omega) _ _ _ h (lv_sub hl [1, 2, 0] rfl)
        · skip
          have hst : ∀ j, j < 13 → ro (un (hyr T rr g k) (k + 1) (g (k + 1) + 1)) j = ro (hyr T rr g (k + 1)) j := fun j _ => congrArg nI (hyr_t c_15 j)
          refine lv_aload_n hx hb dX3_addTakes_18 rfl (lv_at hl 0 rfl) ?_
          refine r_get C h fk3 0 6 rfl (by decide) mf_RX3_22 rfl dX3_addTakes_19 ?_
          refine lv_iload_n hx hb dX3_addTakes_22 rfl (lv_at hl 2 rfl) ?_
          refine lv_dup2_11 hx hb dX3_addTakes_23 rfl rfl ?_
          refine r_ld C h 2 rfl (k + 1) (rfl) (by omega) (by decide) (x := nI ((hyr T rr g k) (k + 1))) (rfl) dX3_addTakes_24 ?_
          refine r_top (y := nI (g (k + 1))) (congrArg nI (hyr_at T g k)) ?_
          refine lv_iconst (v := 1) hx hb dX3_addTakes_25 (by decide) ?_
          refine lv_iadd hx hb dX3_addTakes_26 ?_
          refine r_top (y := nI ((g (k + 1)) + 1)) (nI_add (g (k + 1)) 1) ?_
          refine r_st C h 2 rfl (k + 1) (rfl) (by omega) (by decide) (g := ro (un (hyr T rr g k) (k + 1) ((g (k + 1)) + 1))) (fun j _ => ro_un j) (ws' := [(h0, .inr (3, [.ref oc, .ref on, .ref os, .ref ot, .ref od, .ref oo, .ref oy])), (oo, .inl (cI, 13, .inl T)), (oy, .inl (cI, 13, .inl (ro (un (hyr T rr g k) (k + 1) ((g (k + 1)) + 1)))))]) rfl dX3_addTakes_27 (fun H locs h => ?_)
          refine lv_iinc (v := nI ((k + 1) + 1)) (lv' := [(2, .int (nI ((k + 1) + 1))), (0, .ref h0), (1, .int (nI rr))]) hx hb dX3_addTakes_28 hl (k := 2) rfl (nI_1 (k + 1)) (by decide) rfl (fun ls hl => ?_)
          refine lv_goto (tgt := 2) hx hb dX3_addTakes_31 (by decide) ?_
          have h := h.arr 2 (g := ro (hyr T rr g (k + 1))) rfl (hst) rfl
          exact ih2  (k + 1) (by omega) (by first | assumption | omega) _ _ _ h (lv_sub hl [1, 2, 0] rfl)
  have h := h.arr 2 (g := ro (hyr T rr g 0)) rfl (fun j _ => congrArg nI (hyr_0 T rr g j)) rfl
  exact L2 ((12 - 0) + 1) 0 (by omega) (by first | assumption | omega) _ _ _ h (lv_sub hl [1, 2, 0] rfl)

set_option maxHeartbeats 4000000 in
set_option maxRecDepth 100000 in
theorem c_X3_hourThatParts (l : Launch) (D : va_G) (cI cZ : ClassId) (kS vS : Nat) (h0 : Nat) (oc : Nat) (on : Nat) (os : Nat) (ot : Nat) (od : Nat) (oo : Nat) (oy : Nat) (g : Nat → Nat) (pp : Nat) (hg : ∀ h, g h ≤ pp) (hp : pp ≤ 10) : CI l yX3_hourThatParts cX3_hourThatParts 6 .int D cI cZ kS vS 1 13 0 0 [.ref h0, .int (nI pp)] [(h0, .inr (3, [.ref oc, .ref on, .ref os, .ref ot, .ref od, .ref oo, .ref oy])), (oy, .inl (cI, 13, .inl (ro g)))] (fun (r : Int32) (_ : Unit) => r = (hbs pp g (pp + 1) 12).1) (fun (_ : Unit) => [(h0, .inr (3, [.ref oc, .ref on, .ref os, .ref ot, .ref od, .ref oo, .ref oy])), (oy, .inl (cI, 13, .inl (ro g)))]) := by
  refine CI_intro (by decide) (Nat.le_of_ble_eq_true rfl) ?_
  intro p e s m args below meth c A Q ls C h hret hl
  have C : CX p s m args c cX3_hourThatParts 6 RX3 D cI cZ kS vS A := C
  have hx := C.1.1
  have hb := C.1.2.1
  have hl : lv_has ls 6 [(0, .ref h0), (1, .int (nI pp))] := hl
  refine lv_iconst (v := (-1)) hx hb dX3_hourThatParts_0 (by decide) ?_
  refine lv_istore_n (lv' := [(2, .int (-1)), (0, .ref h0), (1, .int (nI pp))]) hx hb dX3_hourThatParts_1 rfl hl (by decide) rfl (fun ls hl => ?_)
  refine lv_iload_n hx hb dX3_hourThatParts_2 rfl (lv_at hl 2 rfl) ?_
  refine lv_iconst (v := 1) hx hb dX3_hourThatParts_3 (by decide) ?_
  refine lv_iadd hx hb dX3_hourThatParts_4 ?_
  refine r_top (y := nI (pp + 1)) (nI_add pp 1) ?_
  refine lv_istore_n (lv' := [(3, .int (nI (pp + 1))), (2, .int (-1)), (0, .ref h0), (1, .int (nI pp))]) hx hb dX3_hourThatParts_5 rfl hl (by decide) rfl (fun ls hl => ?_)
  refine lv_iconst (v := 1) hx hb dX3_hourThatParts_6 (by decide) ?_
  refine lv_istore (lv' := [(4, .int 1), (3, .int (nI (pp + 1))), (2, .int (-1)), (0, .ref h0), (1, .int (nI pp))]) hx hb dX3_hourThatParts_7 hl (by decide) rfl (fun ls hl => ?_)
  have L9 : ∀ (fu : Nat) (k : Nat), (12 - k) < fu → (hk0 : k ≤ 12) → ∀ (H : Heap) (locs : List Loc) (ls : Array Slot), HS D A s H locs [(h0, .inr (3, [.ref oc, .ref on, .ref os, .ref ot, .ref od, .ref oo, .ref oy])), (oy, .inl (cI, 13, .inl (ro g)))] → lv_has ls 6 [(0, .ref h0), (1, .int (nI pp)), (2, .int (hbs pp g (pp + 1) k).1), (3, .int (nI (hbs pp g (pp + 1) k).2)), (4, .int (nI (k + 1)))] → W p l e (rmO 1 13 0 0) s m args below meth c H locs 0 0 Q (F0 m 9 ls []) := by
    intro fu
    induction fu with
    | zero => intro k hfu; exact absurd hfu (Nat.not_lt_zero _)
    | succ fu ih9 =>
      intro k hfu hk0 H locs ls h hl
      refine lv_iload hx hb dX3_hourThatParts_9 (lv_at hl 4 rfl) ?_
      refine lv_bipush (v := 12) hx hb dX3_hourThatParts_11 (by decide) ?_
      refine lv_icmp_gt (tgt := 55) hx hb dX3_hourThatParts_13 (by decide) (fun c_13 => ?_) (fun c_13 => ?_)
      · skip
        have c_13 := (jlt (a := 12) (b := (k + 1)) (by omega) (by omega)).mp c_13
        obtain rfl : 12 = k := by omega
        refine lv_iload_n hx hb dX3_hourThatParts_55 rfl (lv_at hl 2 rfl) ?_
        exact hret (r := (hbs pp g (pp + 1) 12).1) () dX3_hourThatParts_56 h (rfl) (rfl)
      · skip
        have c_13 : ¬ 12 < (k + 1) := fun z => c_13 ((jlt (a := 12) (b := (k + 1)) (by omega) (by omega)).mpr z)
        have hlt : k < 12 := by omega
        have hgk := hg (k + 1)
        have hb1 := hbs_le (st := pp + 1) hg k
        have hb2 := hlf_le hgk
        refine lv_aload_n hx hb dX3_hourThatParts_16 rfl (lv_at hl 0 rfl) ?_
        refine r_get C h fk3 0 6 rfl (by decide) mf_RX3_22 rfl dX3_hourThatParts_17 ?_
        refine lv_iload hx hb dX3_hourThatParts_20 (lv_at hl 4 rfl) ?_
        refine r_ld C h 1 rfl (k + 1) (rfl) (by omega) (by decide) (x := nI (g (k + 1))) (rfl) dX3_hourThatParts_22 ?_
        refine lv_iload_n hx hb dX3_hourThatParts_23 rfl (lv_at hl 1 rfl) ?_
        refine lv_aload_n hx hb dX3_hourThatParts_24 rfl (lv_at hl 0 rfl) ?_
        refine r_get C h fk3 0 6 rfl (by decide) mf_RX3_22 rfl dX3_hourThatParts_25 ?_
        refine lv_iload hx hb dX3_hourThatParts_28 (lv_at hl 4 rfl) ?_
        refine r_ld C h 1 rfl (k + 1) (rfl) (by omega) (by decide) (x := nI (g (k + 1))) (rfl) dX3_hourThatParts_30 ?_
        refine lv_isub hx hb dX3_hourThatParts_31 ?_
        refine r_top (y := nI (pp - (g (k + 1)))) (pk_sub (a := pp) (b := (g (k + 1))) (by omega)) ?_
        refine r_max C ml_RX3_92 hl ⟨Nat.le_of_ble_eq_true rfl, Nat.le_of_ble_eq_true rfl⟩ ⟨Nat.le_of_ble_eq_true rfl, Nat.le_of_ble_eq_true rfl⟩ dX3_hourThatParts_32 ?_
        refine r_top (y := nI (hlf pp g (k + 1))) (hlf_e hgk hp) ?_
        refine lv_istore (lv' := [(5, .int (nI (hlf pp g (k + 1)))), (0, .ref h0), (1, .int (nI pp)), (2, .int (hbs pp g (pp + 1) k).1), (3, .int (nI (hbs pp g (pp + 1) k).2)), (4, .int (nI (k + 1)))]) hx hb dX3_hourThatParts_35 hl (by decide) rfl (fun ls hl => ?_)
        refine lv_iload hx hb dX3_hourThatParts_37 (lv_at hl 0 rfl) ?_
        refine lv_iload_n hx hb dX3_hourThatParts_39 rfl (lv_at hl 4 rfl) ?_
        refine lv_icmp_ge (tgt := 49) hx hb dX3_hourThatParts_40 (by decide) (fun c_40 => ?_) (fun c_40 => ?_)
        · skip
          have c_40 := (jle (a := (hbs pp g (pp + 1) k).2) (b := (hlf pp g (k + 1))) (by omega) (by omega)).mp c_40
          have eh : hbs pp g (pp + 1) (k + 1) = hbs pp g (pp + 1) k := if_neg (by omega)
          refine lv_iinc (v := nI ((k + 1) + 1)) (lv' := [(4, .int (nI ((k + 1) + 1))), (5, .int (nI (hlf pp g (k + 1)))), (0, .ref h0), (1, .int (nI pp)), (2, .int (hbs pp g (pp + 1) k).1), (3, .int (nI (hbs pp g (pp + 1) k).2))]) hx hb dX3_hourThatParts_49 hl (k := 5) rfl (nI_1 (k + 1)) (by decide) rfl (fun ls hl => ?_)
          refine lv_goto (tgt := 9) hx hb dX3_hourThatParts_52 (by decide) ?_
          have hl : lv_has ls 6 [(4, .int (nI ((k + 1) + 1))), (5, .int (nI (hlf pp g (k + 1)))), (0, .ref h0), (1, .int (nI pp)), (2, .int (hbs pp g (pp + 1) (k + 1)).1), (3, .int (nI (hbs pp g (pp + 1) (k + 1)).2))] := by rw [eh]; exact hl
          exact ih9  (k + 1) (by omega) (by first | assumption | omega) _ _ _ h (lv_sub hl [2, 3, 4, 5, 0] rfl)
        · skip
          have c_40 : ¬ (hbs pp g (pp + 1) k).2 ≤ (hlf pp g (k + 1)) := fun z => c_40 ((jle (a := (hbs pp g (pp + 1) k).2) (b := (hlf pp g (k + 1))) (by omega) (by omega)).mpr z)
          have eh : hbs pp g (pp + 1) (k + 1) = (nI (k + 1), hlf pp g (k + 1)) := if_pos (by omega)
          refine lv_iload hx hb dX3_hourThatParts_43 (lv_at hl 0 rfl) ?_
          refine lv_istore_n (lv' := [(3, .int (nI (hlf pp g (k + 1)))), (5, .int (nI (hlf pp g (k + 1)))), (0, .ref h0), (1, .int (nI pp)), (2, .int (hbs pp g (pp + 1) k).1), (4, .int (nI (k + 1)))]) hx hb dX3_hourThatParts_45 rfl hl (by decide) rfl (fun ls hl => ?_)
          refine lv_iload hx hb dX3_hourThatParts_46 (lv_at hl 5 rfl) ?_
          refine lv_istore_n (lv' := [(2, .int (nI (k + 1))), (3, .int (nI (hlf pp g (k + 1)))), (5, .int (nI (hlf pp g (k + 1)))), (0, .ref h0), (1, .int (nI pp)), (4, .int (nI (k + 1)))]) hx hb dX3_hourThatParts_48 rfl hl (by decide) rfl (fun ls hl => ?_)
          refine lv_iinc (v := nI ((k + 1) + 1)) (lv' := [(4, .int (nI ((k + 1) + 1))), (2, .int (nI (k + 1))), (3, .int (nI (hlf pp g (k + 1)))), (5, .int (nI (hlf pp g (k + 1)))), (0, .ref h0), (1, .int (nI pp))]) hx hb dX3_hourThatParts_49 hl (k := 5) rfl (nI_1 (k + 1)) (by decide) rfl (fun ls hl => ?_)
          refine lv_goto (tgt := 9) hx hb dX3_hourThatParts_52 (by decide) ?_
          have hl : lv_has ls 6 [(4, .int (nI ((k + 1) + 1))), (2, .int (hbs pp g (pp + 1) (k + 1)).1), (3, .int (nI (hbs pp g (pp + 1) (k + 1)).2)), (5, .int (nI (hlf pp g (k + 1)))), (0, .ref h0), (1, .int (nI pp))] := by rw [eh]; exact hl
          exact ih9  (k + 1) (by omega) (by first | assumption | omega) _ _ _ h (lv_sub hl [4, 5, 1, 2, 0] rfl)
  exact L9 ((12 - 0) + 1) 0 (by omega) (by first | assumption | omega) _ _ _ h (lv_sub hl [3, 4, 2, 1, 0] rfl)

set_option maxHeartbeats 4000000 in
set_option maxRecDepth 100000 in
theorem c_X3_hourToLook (l : Launch) (D : va_G) (cI cZ : ClassId) (kS vS : Nat) (h0 : Nat) (oc : Nat) (on : Nat) (os : Nat) (ot : Nat) (od : Nat) (oo : Nat) (oy : Nat) (t2 : Nat) (t3 : Nat) (t4 : Nat) (n2 : Nat) (n3 : Nat) (n4 : Nat) (c5 : Nat) (c6 : Nat) (n : Nat) (bar : Int32) (K : Nat → Int32) (F : Nat → Int32) (w : Nat → Int32) (ρ : Nat → Nat) (tk : Nat → Int32) (hr : Int32) (to : Int32) (hv : Int32) (tv : Int32) (tw : Nat → Int32) (tk2 : Nat → Int32) (tr : Nat → Int32) (s1 : Nat) (s2 : Nat) (s3 : Nat) (q : Nat) (sh : Nat → Nat) (sr : Nat → Nat) (tb : Nat → Int32) (g : Nat → Int32) (y0 : Nat → Int32) (rr : Nat) (hn2 : 2 ≤ n) (hn5 : n ≤ 5) (hpm : PM n ρ) (hq6 : q ≤ 6) (hsh : ∀ i, i < q → 1 ≤ sh i ∧ sh i ≤ 12) (hrn : rr < n) : CI l yX3_hourToLook cX3_hourToLook 4 .int D cI cZ kS vS 5 111 0 0 [.ref h0, .int (nI rr)] [(h0, .inr (3, [.ref oc, .ref on, .ref os, .ref ot, .ref od, .ref oo, .ref oy])), (ot, .inr (5, [.ref oc, .ref t2, .ref t3, .ref t4, .int hv, .int tv])), (t2, .inl (cI, 5, .inl tw)), (t3, .inl (cI, 5, .inl tk2)), (t4, .inl (cI, 5, .inl tr)), (on, .inr (5, [.ref oc, .ref n2, .ref n3, .ref n4, .int hr, .int to])), (n2, .inl (cI, 5, .inl w)), (n3, .inl (cI, 5, .inl tk)), (n4, .inl (cI, 5, .inl (ro ρ))), (oc, .inr (1, [.ref c5, .ref c6, .int (nI n), .int bar])), (c5, .inl (cI, 5, .inl K)), (c6, .inl (cI, 5, .inl F)), (os, .inr (6, [.ref s1, .ref s2, .ref s3, .int (nI q)])), (s1, .inl (cI, 6, .inl (ro sh))), (s2, .inl (cI, 6, .inl (ro sr))), (s3, .inl (cZ, 6, .inl tb)), (oo, .inl (cI, 13, .inl g)), (oy, .inl (cI, 13, .inl y0))] (fun (r : Int32) (u : Int32 × Int32 × (Nat → Int32) × (Nat → Int32) × (Nat → Int32) × (Nat → Int32) × (Nat → Int32)) => r = if hct n K F bar w ρ sh sr tb q rr 10 = 0 then -1 else (hbs (hct n K F bar w ρ sh sr tb q rr 10) (hys n K F bar w ρ sh sr tb q rr 10) (hct n K F bar w ρ sh sr tb q rr 10 + 1) 12).1) (fun (u : Int32 × Int32 × (Nat → Int32) × (Nat → Int32) × (Nat → Int32) × (Nat → Int32) × (Nat → Int32)) => [(h0, .inr (3, [.ref oc, .ref on, .ref os, .ref ot, .ref od, .ref oo, .ref oy])), (ot, .inr (5, [.ref oc, .ref t2, .ref t3, .ref t4, .int u.1, .int u.2.1])), (t2, .inl (cI, 5, .inl u.2.2.1)), (t3, .inl (cI, 5, .inl u.2.2.2.1)), (t4, .inl (cI, 5, .inl u.2.2.2.2.1)), (on, .inr (5, [.ref oc, .ref n2, .ref n3, .ref n4, .int hr, .int to])), (n2, .inl (cI, 5, .inl w)), (n3, .inl (cI, 5, .inl tk)), (n4, .inl (cI, 5, .inl (ro ρ))), (oc, .inr (1, [.ref c5, .ref c6, .int (nI n), .int bar])), (c5, .inl (cI, 5, .inl K)), (c6, .inl (cI, 5, .inl F)), (os, .inr (6, [.ref s1, .ref s2, .ref s3, .int (nI q)])), (s1, .inl (cI, 6, .inl (ro sh))), (s2, .inl (cI, 6, .inl (ro sr))), (s3, .inl (cZ, 6, .inl tb)), (oo, .inl (cI, 13, .inl u.2.2.2.2.2.1)), (oy, .inl (cI, 13, .inl u.2.2.2.2.2.2))]) := by
  refine CI_intro (by decide) (Nat.le_of_ble_eq_true rfl) ?_
  intro p e s m args below meth c A Q ls C h hret hl
  have C : CX p s m args c cX3_hourToLook 4 RX3 D cI cZ kS vS A := C
  have hx := C.1.1
  have hb := C.1.2.1
  have hl : lv_has ls 4 [(0, .ref h0), (1, .int (nI rr))] := hl
  refine lv_iconst (v := 0) hx hb dX3_hourToLook_0 (by decide) ?_
  refine lv_istore_n (lv' := [(2, .int 0), (0, .ref h0), (1, .int (nI rr))]) hx hb dX3_hourToLook_1 rfl hl (by decide) rfl (fun ls hl => ?_)
  refine lv_aload_n hx hb dX3_hourToLook_2 rfl (lv_at hl 1 rfl) ?_
  refine r_get C h fk3 0 6 rfl (by decide) mf_RX3_22 rfl dX3_hourToLook_3 ?_
  refine lv_iconst (v := 0) hx hb dX3_hourToLook_6 (by decide) ?_
  refine k_Sv (rest := []) (as := [.ref oy, .int 0]) (wc := [(oy, .inl (cI, 13, .inl y0))]) (wr := [(h0, .inr (3, [.ref oc, .ref on, .ref os, .ref ot, .ref od, .ref oo, .ref oy])), (ot, .inr (5, [.ref oc, .ref t2, .ref t3, .ref t4, .int hv, .int tv])), (t2, .inl (cI, 5, .inl tw)), (t3, .inl (cI, 5, .inl tk2)), (t4, .inl (cI, 5, .inl tr)), (on, .inr (5, [.ref oc, .ref n2, .ref n3, .ref n4, .int hr, .int to])), (n2, .inl (cI, 5, .inl w)), (n3, .inl (cI, 5, .inl tk)), (n4, .inl (cI, 5, .inl (ro ρ))), (oc, .inr (1, [.ref c5, .ref c6, .int (nI n), .int bar])), (c5, .inl (cI, 5, .inl K)), (c6, .inl (cI, 5, .inl F)), (os, .inr (6, [.ref s1, .ref s2, .ref s3, .int (nI q)])), (s1, .inl (cI, 6, .inl (ro sh))), (s2, .inl (cI, 6, .inl (ro sr))), (s3, .inl (cZ, 6, .inl tb)), (oo, .inl (cI, 13, .inl g))]) (isC := [17]) (isR := [0, 1, 2, 3, 4, 5, 6, 7, 8, 9, 10, 11, 12, 13, 14, 15, 16]) (w2 := fun (_ : Unit) => [(h0, .inr (3, [.ref oc, .ref on, .ref os, .ref ot, .ref od, .ref oo, .ref oy])), (ot, .inr (5, [.ref oc, .ref t2, .ref t3, .ref t4, .int hv, .int tv])), (t2, .inl (cI, 5, .inl tw)), (t3, .inl (cI, 5, .inl tk2)), (t4, .inl (cI, 5, .inl tr)), (on, .inr (5, [.ref oc, .ref n2, .ref n3, .ref n4, .int hr, .int to])), (n2, .inl (cI, 5, .inl w)), (n3, .inl (cI, 5, .inl tk)), (n4, .inl (cI, 5, .inl (ro ρ))), (oc, .inr (1, [.ref c5, .ref c6, .int (nI n), .int bar])), (c5, .inl (cI, 5, .inl K)), (c6, .inl (cI, 5, .inl F)), (os, .inr (6, [.ref s1, .ref s2, .ref s3, .int (nI q)])), (s1, .inl (cI, 6, .inl (ro sh))), (s2, .inl (cI, 6, .inl (ro sr))), (s3, .inl (cZ, 6, .inl tb)), (oo, .inl (cI, 13, .inl g)), (oy, .inl (cI, 13, .inl (ro (fun _ => 0))))]) C h (c_J7_fill_53178 l D cI cZ kS vS oy y0 ) wv_J7_fill_53178 rfl ⟨rfl, rfl, rfl, rfl, by decide⟩ ml_RX3_63 [0, 1, 2, 3, 4, 5, 6, 7, 8, 9, 10, 11, 12, 13, 14, 15, 16, 17] rfl (fun _ => rfl) ⟨Nat.le_of_ble_eq_true rfl, Nat.le_of_ble_eq_true rfl⟩ ⟨Nat.le_of_ble_eq_true rfl, Nat.le_of_ble_eq_true rfl⟩ (Nat.le_of_ble_eq_true rfl) hl rfl dX3_hourToLook_7 (fun u H locs hq h => ?_)
  have h : HS D A s H locs [(h0, .inr (3, [.ref oc, .ref on, .ref os, .ref ot, .ref od, .ref oo, .ref oy])), (ot, .inr (5, [.ref oc, .ref t2, .ref t3, .ref t4, .int hv, .int tv])), (t2, .inl (cI, 5, .inl tw)), (t3, .inl (cI, 5, .inl tk2)), (t4, .inl (cI, 5, .inl tr)), (on, .inr (5, [.ref oc, .ref n2, .ref n3, .ref n4, .int hr, .int to])), (n2, .inl (cI, 5, .inl w)), (n3, .inl (cI, 5, .inl tk)), (n4, .inl (cI, 5, .inl (ro ρ))), (oc, .inr (1, [.ref c5, .ref c6, .int (nI n), .int bar])), (c5, .inl (cI, 5, .inl K)), (c6, .inl (cI, 5, .inl F)), (os, .inr (6, [.ref s1, .ref s2, .ref s3, .int (nI q)])), (s1, .inl (cI, 6, .inl (ro sh))), (s2, .inl (cI, 6, .inl (ro sr))), (s3, .inl (cZ, 6, .inl tb)), (oo, .inl (cI, 13, .inl g)), (oy, .inl (cI, 13, .inl (ro (fun _ => 0))))] := h
  have hq : True := hq
  refine lv_iconst (v := 0) hx hb dX3_hourToLook_10 (by decide) ?_
  refine lv_istore_n (lv' := [(3, .int 0), (2, .int 0), (0, .ref h0), (1, .int (nI rr))]) hx hb dX3_hourToLook_11 rfl hl (by decide) rfl (fun ls hl => ?_)
  have L12 : ∀ (fu : Nat) (v : Nat) (hv1 : Int32) (tv1 : Int32) (tw1 : Nat → Int32) (tk1 : Nat → Int32) (tr1 : Nat → Int32) (g1 : Nat → Int32), (10 - v) < fu → (hv10 : v ≤ 10) → ∀ (H : Heap) (locs : List Loc) (ls : Array Slot), HS D A s H locs [(h0, .inr (3, [.ref oc, .ref on, .ref os, .ref ot, .ref od, .ref oo, .ref oy])), (ot, .inr (5, [.ref oc, .ref t2, .ref t3, .ref t4, .int hv1, .int tv1])), (t2, .inl (cI, 5, .inl tw1)), (t3, .inl (cI, 5, .inl tk1)), (t4, .inl (cI, 5, .inl tr1)), (on, .inr (5, [.ref oc, .ref n2, .ref n3, .ref n4, .int hr, .int to])), (n2, .inl (cI, 5, .inl w)), (n3, .inl (cI, 5, .inl tk)), (n4, .inl (cI, 5, .inl (ro ρ))), (oc, .inr (1, [.ref c5, .ref c6, .int (nI n), .int bar])), (c5, .inl (cI, 5, .inl K)), (c6, .inl (cI, 5, .inl F)), (os, .inr (6, [.ref s1, .ref s2, .ref s3, .int (nI q)])), (s1, .inl (cI, 6, .inl (ro sh))), (s2, .inl (cI, 6, .inl (ro sr))), (s3, .inl (cZ, 6, .inl tb)), (oo, .inl (cI, 13, .inl g1)), (oy, .inl (cI, 13, .inl (ro (hys n K F bar w ρ sh sr tb q rr v))))] → lv_has ls 4 [(0, .ref h0), (1, .int (nI rr)), (2, .int (nI (hct n K F bar w ρ sh sr tb q rr v))), (3, .int (nI v))] → W p l e (rmO 5 111 0 0) s m args below meth c H locs 0 0 Q (F0 m 12 ls []) := by
    intro fu
    induction fu with
    | zero => intro v hv1 tv1 tw1 tk1 tr1 g1 hfu; exact absurd hfu (Nat.not_lt_zero _)
    | succ fu ih12 =>
      intro v hv1 tv1 tw1 tk1 tr1 g1 hfu hv10 H locs ls h hl
      refine lv_iload_n hx hb dX3_hourToLook_12 rfl (lv_at hl 3 rfl) ?_
      refine lv_bipush (v := 9) hx hb dX3_hourToLook_13 (by decide) ?_
      refine lv_icmp_gt (tgt := 41) hx hb dX3_hourToLook_15 (by decide) (fun c_15 => ?_) (fun c_15 => ?_)
      · skip
        have c_15 := (jlt (a := 9) (b := v) (by omega) (by omega)).mp c_15
        obtain rfl : 10 = v := by omega
        have hct10 := hct_le (n := n) (K := K) (F := F) (bar := bar) (w := w) (ρ := ρ) (sh := sh) (sr := sr) (tb := tb) (q := q) (rr := rr) 10
        refine lv_iload_n hx hb dX3_hourToLook_41 rfl (lv_at hl 2 rfl) ?_
        refine lv_if_le (tgt := 53) hx hb dX3_hourToLook_42 (by decide) (fun c_42 => ?_) (fun c_42 => ?_)
        · skip
          have c_42 := (jle (a := (hct n K F bar w ρ sh sr tb q rr 10)) (b := 0) (by omega) (by omega)).mp c_42
          refine lv_iconst (v := (-1)) hx hb dX3_hourToLook_53 (by decide) ?_
          exact hret (r := (-1)) (⟨hv1, tv1, tw1, tk1, tr1, g1, ro (hys n K F bar w ρ sh sr tb q rr 10)⟩) dX3_hourToLook_54 h (rfl) (by first | rw [if_pos (by omega)] | rw [if_neg (by omega)])
        · skip
          have c_42 : ¬ (hct n K F bar w ρ sh sr tb q rr 10) ≤ 0 := fun z => c_42 ((jle (a := (hct n K F bar w ρ sh sr tb q rr 10)) (b := 0) (by omega) (by omega)).mpr z)
          refine lv_aload_n hx hb dX3_hourToLook_45 rfl (lv_at hl 0 rfl) ?_
          refine lv_iload_n hx hb dX3_hourToLook_46 rfl (lv_at hl 2 rfl) ?_
          refine k_Vi (rest := []) (as := [.int (nI (hct n K F bar w ρ sh sr tb q rr 10))]) (wc := [(h0, .inr (3, [.ref oc, .ref on, .ref os, .ref ot, .ref od, .ref oo, .ref oy])), (oy, .inl (cI, 13, .inl (ro (hys n K F bar w ρ sh sr tb q rr 10))))]) (wr := [(ot, .inr (5, [.ref oc, .ref t2, .ref t3, .ref t4, .int hv1, .int tv1])), (t2, .inl (cI, 5, .inl tw1)), (t3, .inl (cI, 5, .inl tk1)), (t4, .inl (cI, 5, .inl tr1)), (on, .inr (5, [.ref oc, .ref n2, .ref n3, .ref n4, .int hr, .int to])), (n2, .inl (cI, 5, .inl w)), (n3, .inl (cI, 5, .inl tk)), (n4, .inl (cI, 5, .inl (ro ρ))), (oc, .inr (1, [.ref c5, .ref c6, .int (nI n), .int bar])), (c5, .inl (cI, 5, .inl K)), (c6, .inl (cI, 5, .inl F)), (os, .inr (6, [.ref s1, .ref s2, .ref s3, .int (nI q)])), (s1, .inl (cI, 6, .inl (ro sh))), (s2, .inl (cI, 6, .inl (ro sr))), (s3, .inl (cZ, 6, .inl tb)), (oo, .inl (cI, 13, .inl g1))]) (isC := [0, 17]) (isR := [1, 2, 3, 4, 5, 6, 7, 8, 9, 10, 11, 12, 13, 14, 15, 16]) (w2 := fun (_ : Unit) => [(h0, .inr (3, [.ref oc, .ref on, .ref os, .ref ot, .ref od, .ref oo, .ref oy])), (ot, .inr (5, [.ref oc, .ref t2, .ref t3, .ref t4, .int hv1, .int tv1])), (t2, .inl (cI, 5, .inl tw1)), (t3, .inl (cI, 5, .inl tk1)), (t4, .inl (cI, 5, .inl tr1)), (on, .inr (5, [.ref oc, .ref n2, .ref n3, .ref n4, .int hr, .int to])), (n2, .inl (cI, 5, .inl w)), (n3, .inl (cI, 5, .inl tk)), (n4, .inl (cI, 5, .inl (ro ρ))), (oc, .inr (1, [.ref c5, .ref c6, .int (nI n), .int bar])), (c5, .inl (cI, 5, .inl K)), (c6, .inl (cI, 5, .inl F)), (os, .inr (6, [.ref s1, .ref s2, .ref s3, .int (nI q)])), (s1, .inl (cI, 6, .inl (ro sh))), (s2, .inl (cI, 6, .inl (ro sr))), (s3, .inl (cZ, 6, .inl tb)), (oo, .inl (cI, 13, .inl g1)), (oy, .inl (cI, 13, .inl (ro (hys n K F bar w ρ sh sr tb q rr 10))))]) C h (c_X3_hourThatParts l D cI cZ kS vS h0 oc on os ot od oo oy (hys n K F bar w ρ sh sr tb q rr 10) (hct n K F bar w ρ sh sr tb q rr 10) (hys_le 10) hct10) wv_X3_hourThatParts rfl ⟨rfl, rfl, rfl, rfl, by decide⟩ fk3 0 rfl ml_RX3_73 [16, 0, 1, 2, 3, 4, 5, 6, 7, 8, 9, 10, 11, 12, 13, 14, 15, 17] rfl (fun _ => rfl) ⟨Nat.le_of_ble_eq_true rfl, Nat.le_of_ble_eq_true rfl⟩ ⟨Nat.le_of_ble_eq_true rfl, Nat.le_of_ble_eq_true rfl⟩ (Nat.le_of_ble_eq_true rfl) hl rfl dX3_hourToLook_47 (fun r u H locs hq h => ?_)
          have h : HS D A s H locs [(h0, .inr (3, [.ref oc, .ref on, .ref os, .ref ot, .ref od, .ref oo, .ref oy])), (ot, .inr (5, [.ref oc, .ref t2, .ref t3, .ref t4, .int hv1, .int tv1])), (t2, .inl (cI, 5, .inl tw1)), (t3, .inl (cI, 5, .inl tk1)), (t4, .inl (cI, 5, .inl tr1)), (on, .inr (5, [.ref oc, .ref n2, .ref n3, .ref n4, .int hr, .int to])), (n2, .inl (cI, 5, .inl w)), (n3, .inl (cI, 5, .inl tk)), (n4, .inl (cI, 5, .inl (ro ρ))), (oc, .inr (1, [.ref c5, .ref c6, .int (nI n), .int bar])), (c5, .inl (cI, 5, .inl K)), (c6, .inl (cI, 5, .inl F)), (os, .inr (6, [.ref s1, .ref s2, .ref s3, .int (nI q)])), (s1, .inl (cI, 6, .inl (ro sh))), (s2, .inl (cI, 6, .inl (ro sr))), (s3, .inl (cZ, 6, .inl tb)), (oo, .inl (cI, 13, .inl g1)), (oy, .inl (cI, 13, .inl (ro (hys n K F bar w ρ sh sr tb q rr 10))))] := h
          have hq : r = (hbs (hct n K F bar w ρ sh sr tb q rr 10) (hys n K F bar w ρ sh sr tb q rr 10) ((hct n K F bar w ρ sh sr tb q rr 10) + 1) 12).1 := hq
          have hq := hq.symm
          subst hq
          refine lv_goto (tgt := 54) hx hb dX3_hourToLook_50 (by decide) ?_
          exact hret (r := (hbs (hct n K F bar w ρ sh sr tb q rr 10) (hys n K F bar w ρ sh sr tb q rr 10) ((hct n K F bar w ρ sh sr tb q rr 10) + 1) 12).1) (⟨hv1, tv1, tw1, tk1, tr1, g1, ro (hys n K F bar w ρ sh sr tb q rr 10)⟩) dX3_hourToLook_54 h (rfl) (by first | rw [if_pos (by omega)] | rw [if_neg (by omega)])
      · skip
        have c_15 : ¬ 9 < v := fun z => c_15 ((jlt (a := 9) (b := v) (by omega) (by omega)).mpr z)
        have hv9 : v < 10 := by omega
        have hctv := hct_le (n := n) (K := K) (F := F) (bar := bar) (w := w) (ρ := ρ) (sh := sh) (sr := sr) (tb := tb) (q := q) (rr := rr) v
        have hysv := hys_le (n := n) (K := K) (F := F) (bar := bar) (w := w) (ρ := ρ) (sh := sh) (sr := sr) (tb := tb) (q := q) (rr := rr) v
        refine lv_aload_n hx hb dX3_hourToLook_18 rfl (lv_at hl 0 rfl) ?_
        refine lv_iload_n hx hb dX3_hourToLook_19 rfl (lv_at hl 1 rfl) ?_
        refine lv_iload_n hx hb dX3_hourToLook_20 rfl (lv_at hl 3 rfl) ?_
        refine k_Vi (rest := []) (as := [.int (nI rr), .int (nI v)]) (wc := [(h0, .inr (3, [.ref oc, .ref on, .ref os, .ref ot, .ref od, .ref oo, .ref oy])), (ot, .inr (5, [.ref oc, .ref t2, .ref t3, .ref t4, .int hv1, .int tv1])), (t2, .inl (cI, 5, .inl tw1)), (t3, .inl (cI, 5, .inl tk1)), (t4, .inl (cI, 5, .inl tr1)), (on, .inr (5, [.ref oc, .ref n2, .ref n3, .ref n4, .int hr, .int to])), (n2, .inl (cI, 5, .inl w)), (n3, .inl (cI, 5, .inl tk)), (n4, .inl (cI, 5, .inl (ro ρ))), (oc, .inr (1, [.ref c5, .ref c6, .int (nI n), .int bar])), (c5, .inl (cI, 5, .inl K)), (c6, .inl (cI, 5, .inl F)), (os, .inr (6, [.ref s1, .ref s2, .ref s3, .int (nI q)])), (s1, .inl (cI, 6, .inl (ro sh))), (s2, .inl (cI, 6, .inl (ro sr))), (s3, .inl (cZ, 6, .inl tb)), (oo, .inl (cI, 13, .inl g1))]) (wr := [(oy, .inl (cI, 13, .inl (ro (hys n K F bar w ρ sh sr tb q rr v))))]) (isC := [0, 1, 2, 3, 4, 5, 6, 7, 8, 9, 10, 11, 12, 13, 14, 15, 16]) (isR := [17]) (w2 := fun (u : Int32 × Int32 × (Nat → Int32) × (Nat → Int32) × (Nat → Int32)) => [(h0, .inr (3, [.ref oc, .ref on, .ref os, .ref ot, .ref od, .ref oo, .ref oy])), (ot, .inr (5, [.ref oc, .ref t2, .ref t3, .ref t4, .int u.1, .int u.2.1])), (t2, .inl (cI, 5, .inl u.2.2.1)), (t3, .inl (cI, 5, .inl u.2.2.2.1)), (t4, .inl (cI, 5, .inl u.2.2.2.2)), (on, .inr (5, [.ref oc, .ref n2, .ref n3, .ref n4, .int hr, .int to])), (n2, .inl (cI, 5, .inl w)), (n3, .inl (cI, 5, .inl tk)), (n4, .inl (cI, 5, .inl (ro ρ))), (oc, .inr (1, [.ref c5, .ref c6, .int (nI n), .int bar])), (c5, .inl (cI, 5, .inl K)), (c6, .inl (cI, 5, .inl F)), (os, .inr (6, [.ref s1, .ref s2, .ref s3, .int (nI q)])), (s1, .inl (cI, 6, .inl (ro sh))), (s2, .inl (cI, 6, .inl (ro sr))), (s3, .inl (cZ, 6, .inl tb)), (oo, .inl (cI, 13, .inl (hfl (htk n K F bar (upd w rr (nI v)) ρ) g1 12))), (oy, .inl (cI, 13, .inl (ro (hys n K F bar w ρ sh sr tb q rr v))))]) C h (c_X3_isPossible l D cI cZ kS vS h0 oc on os ot od oo oy t2 t3 t4 n2 n3 n4 c5 c6 n bar K F w ρ tk hr to hv1 tv1 tw1 tk1 tr1 s1 s2 s3 q sh sr tb g1 rr v hn2 hn5 hpm hq6 hsh hrn hv9) wv_X3_isPossible rfl ⟨rfl, rfl, rfl, rfl, by decide⟩ fk3 0 rfl ml_RX3_59 [1, 2, 3, 4, 5, 6, 7, 8, 9, 10, 11, 12, 13, 14, 15, 16, 17, 0] rfl (fun _ => rfl) ⟨Nat.le_of_ble_eq_true rfl, Nat.le_of_ble_eq_true rfl⟩ ⟨Nat.le_of_ble_eq_true rfl, Nat.le_of_ble_eq_true rfl⟩ (Nat.le_of_ble_eq_true rfl) hl rfl dX3_hourToLook_21 (fun r u H locs hq h => ?_)
        obtain ⟨uh21, ut21, uw21, uk21, ur21⟩ := u
        have h : HS D A s H locs [(h0, .inr (3, [.ref oc, .ref on, .ref os, .ref ot, .ref od, .ref oo, .ref oy])), (ot, .inr (5, [.ref oc, .ref t2, .ref t3, .ref t4, .int uh21, .int ut21])), (t2, .inl (cI, 5, .inl uw21)), (t3, .inl (cI, 5, .inl uk21)), (t4, .inl (cI, 5, .inl ur21)), (on, .inr (5, [.ref oc, .ref n2, .ref n3, .ref n4, .int hr, .int to])), (n2, .inl (cI, 5, .inl w)), (n3, .inl (cI, 5, .inl tk)), (n4, .inl (cI, 5, .inl (ro ρ))), (oc, .inr (1, [.ref c5, .ref c6, .int (nI n), .int bar])), (c5, .inl (cI, 5, .inl K)), (c6, .inl (cI, 5, .inl F)), (os, .inr (6, [.ref s1, .ref s2, .ref s3, .int (nI q)])), (s1, .inl (cI, 6, .inl (ro sh))), (s2, .inl (cI, 6, .inl (ro sr))), (s3, .inl (cZ, 6, .inl tb)), (oo, .inl (cI, 13, .inl (hfl (htk n K F bar (upd w rr (nI v)) ρ) g1 12))), (oy, .inl (cI, 13, .inl (ro (hys n K F bar w ρ sh sr tb q rr v))))] := h
        have hq : r = bI (hpo n K F bar w ρ sh sr tb q rr v) := hq
        have hq := hq.symm
        subst hq
        refine lv_if_eq (tgt := 35) hx hb dX3_hourToLook_24 (by decide) (fun c_24 => ?_) (fun c_24 => ?_)
        · skip
          have eb : hct n K F bar w ρ sh sr tb q rr (v + 1) = hct n K F bar w ρ sh sr tb q rr v := if_neg (by rw [bI_0.mp c_24]; decide)
          have hst : ∀ j, j < 13 → ro (hys n K F bar w ρ sh sr tb q rr v) j = ro (hys n K F bar w ρ sh sr tb q rr (v + 1)) j := fun j _ => congrArg nI (congrFun (if_neg (by rw [bI_0.mp c_24]; decide)).symm j)
          have hl : lv_has ls 4 [(0, .ref h0), (1, .int (nI rr)), (2, .int (nI (hct n K F bar w ρ sh sr tb q rr (v + 1)))), (3, .int (nI v))] := by rw [eb]; exact hl
          refine lv_iinc (v := nI (v + 1)) (lv' := [(3, .int (nI (v + 1))), (0, .ref h0), (1, .int (nI rr)), (2, .int (nI (hct n K F bar w ρ sh sr tb q rr (v + 1))))]) hx hb dX3_hourToLook_35 hl (k := 3) rfl (nI_1 v) (by decide) rfl (fun ls hl => ?_)
          refine lv_goto (tgt := 12) hx hb dX3_hourToLook_38 (by decide) ?_
          have h := h.arr 16 (g := (hfl (htk n K F bar (upd w rr (nI v)) ρ) g1 12)) rfl (fun j hj => rfl) rfl
          have h := h.arr 17 (g := ro (hys n K F bar w ρ sh sr tb q rr (v + 1))) rfl (hst) rfl
          exact ih12  (v + 1) uh21 ut21 uw21 uk21 ur21 (hfl (htk n K F bar (upd w rr (nI v)) ρ) g1 12) (by omega) (by first | assumption | omega) _ _ _ h (lv_sub hl [1, 2, 3, 0] rfl)
        · skip
          have eb : hct n K F bar w ρ sh sr tb q rr (v + 1) = hct n K F bar w ρ sh sr tb q rr v + 1 := if_pos (bI_n0.mp c_24)
          have ey : hys n K F bar w ρ sh sr tb q rr (v + 1) = hyr (htk n K F bar (upd w rr (nI v)) ρ) rr (hys n K F bar w ρ sh sr tb q rr v) 12 := if_pos (bI_n0.mp c_24)
          refine lv_iinc (v := nI (hct n K F bar w ρ sh sr tb q rr (v + 1))) (lv' := [(2, .int (nI (hct n K F bar w ρ sh sr tb q rr (v + 1)))), (0, .ref h0), (1, .int (nI rr)), (3, .int (nI v))]) hx hb dX3_hourToLook_27 hl (k := 2) rfl ((nI_1 _).trans (congrArg nI eb.symm)) (by decide) rfl (fun ls hl => ?_)
          refine lv_aload_n hx hb dX3_hourToLook_30 rfl (lv_at hl 1 rfl) ?_
          refine lv_iload_n hx hb dX3_hourToLook_31 rfl (lv_at hl 2 rfl) ?_
          refine k_Vv (rest := []) (as := [.int (nI rr)]) (wc := [(h0, .inr (3, [.ref oc, .ref on, .ref os, .ref ot, .ref od, .ref oo, .ref oy])), (oo, .inl (cI, 13, .inl (hfl (htk n K F bar (upd w rr (nI v)) ρ) g1 12))), (oy, .inl (cI, 13, .inl (ro (hys n K F bar w ρ sh sr tb q rr v))))]) (wr := [(ot, .inr (5, [.ref oc, .ref t2, .ref t3, .ref t4, .int uh21, .int ut21])), (t2, .inl (cI, 5, .inl uw21)), (t3, .inl (cI, 5, .inl uk21)), (t4, .inl (cI, 5, .inl ur21)), (on, .inr (5, [.ref oc, .ref n2, .ref n3, .ref n4, .int hr, .int to])), (n2, .inl (cI, 5, .inl w)), (n3, .inl (cI, 5, .inl tk)), (n4, .inl (cI, 5, .inl (ro ρ))), (oc, .inr (1, [.ref c5, .ref c6, .int (nI n), .int bar])), (c5, .inl (cI, 5, .inl K)), (c6, .inl (cI, 5, .inl F)), (os, .inr (6, [.ref s1, .ref s2, .ref s3, .int (nI q)])), (s1, .inl (cI, 6, .inl (ro sh))), (s2, .inl (cI, 6, .inl (ro sr))), (s3, .inl (cZ, 6, .inl tb))]) (isC := [0, 16, 17]) (isR := [1, 2, 3, 4, 5, 6, 7, 8, 9, 10, 11, 12, 13, 14, 15]) (w2 := fun (_ : Unit) => [(h0, .inr (3, [.ref oc, .ref on, .ref os, .ref ot, .ref od, .ref oo, .ref oy])), (ot, .inr (5, [.ref oc, .ref t2, .ref t3, .ref t4, .int uh21, .int ut21])), (t2, .inl (cI, 5, .inl uw21)), (t3, .inl (cI, 5, .inl uk21)), (t4, .inl (cI, 5, .inl ur21)), (on, .inr (5, [.ref oc, .ref n2, .ref n3, .ref n4, .int hr, .int to])), (n2, .inl (cI, 5, .inl w)), (n3, .inl (cI, 5, .inl tk)), (n4, .inl (cI, 5, .inl (ro ρ))), (oc, .inr (1, [.ref c5, .ref c6, .int (nI n), .int bar])), (c5, .inl (cI, 5, .inl K)), (c6, .inl (cI, 5, .inl F)), (os, .inr (6, [.ref s1, .ref s2, .ref s3, .int (nI q)])), (s1, .inl (cI, 6, .inl (ro sh))), (s2, .inl (cI, 6, .inl (ro sr))), (s3, .inl (cZ, 6, .inl tb)), (oo, .inl (cI, 13, .inl (hfl (htk n K F bar (upd w rr (nI v)) ρ) g1 12))), (oy, .inl (cI, 13, .inl (ro (hyr (hfl (htk n K F bar (upd w rr (nI v)) ρ) g1 12) rr (hys n K F bar w ρ sh sr tb q rr v) 12))))]) C h (c_X3_addTakes l D cI cZ kS vS h0 oc on os ot od oo oy (hfl (htk n K F bar (upd w rr (nI v)) ρ) g1 12) (hys n K F bar w ρ sh sr tb q rr v) rr (fun h => Nat.le_trans (hysv h) (by omega))) wv_X3_addTakes rfl ⟨rfl, rfl, rfl, rfl, by decide⟩ fk3 0 rfl ml_RX3_69 [15, 0, 1, 2, 3, 4, 5, 6, 7, 8, 9, 10, 11, 12, 13, 14, 16, 17] rfl (fun _ => rfl) ⟨Nat.le_of_ble_eq_true rfl, Nat.le_of_ble_eq_true rfl⟩ ⟨Nat.le_of_ble_eq_true rfl, Nat.le_of_ble_eq_true rfl⟩ (Nat.le_of_ble_eq_true rfl) hl rfl dX3_hourToLook_32 (fun u H locs hq h => ?_)
          have h : HS D A s H locs [(h0, .inr (3, [.ref oc, .ref on, .ref os, .ref ot, .ref od, .ref oo, .ref oy])), (ot, .inr (5, [.ref oc, .ref t2, .ref t3, .ref t4, .int uh21, .int ut21])), (t2, .inl (cI, 5, .inl uw21)), (t3, .inl (cI, 5, .inl uk21)), (t4, .inl (cI, 5, .inl ur21)), (on, .inr (5, [.ref oc, .ref n2, .ref n3, .ref n4, .int hr, .int to])), (n2, .inl (cI, 5, .inl w)), (n3, .inl (cI, 5, .inl tk)), (n4, .inl (cI, 5, .inl (ro ρ))), (oc, .inr (1, [.ref c5, .ref c6, .int (nI n), .int bar])), (c5, .inl (cI, 5, .inl K)), (c6, .inl (cI, 5, .inl F)), (os, .inr (6, [.ref s1, .ref s2, .ref s3, .int (nI q)])), (s1, .inl (cI, 6, .inl (ro sh))), (s2, .inl (cI, 6, .inl (ro sr))), (s3, .inl (cZ, 6, .inl tb)), (oo, .inl (cI, 13, .inl (hfl (htk n K F bar (upd w rr (nI v)) ρ) g1 12))), (oy, .inl (cI, 13, .inl (ro (hyr (hfl (htk n K F bar (upd w rr (nI v)) ρ) g1 12) rr (hys n K F bar w ρ sh sr tb q rr v) 12))))] := h
          have hq : True := hq
          have hst : ∀ j, j < 13 → ro (hyr (hfl (htk n K F bar (upd w rr (nI v)) ρ) g1 12) rr (hys n K F bar w ρ sh sr tb q rr v) 12) j = ro (hys n K F bar w ρ sh sr tb q rr (v + 1)) j := fun j _ => by rw [ey]; exact congrArg nI (hyr_fl j)
          refine lv_iinc (v := nI (v + 1)) (lv' := [(3, .int (nI (v + 1))), (2, .int (nI (hct n K F bar w ρ sh sr tb q rr (v + 1)))), (0, .ref h0), (1, .int (nI rr))]) hx hb dX3_hourToLook_35 hl (k := 3) rfl (nI_1 v) (by decide) rfl (fun ls hl => ?_)
          refine lv_goto (tgt := 12) hx hb dX3_hourToLook_38 (by decide) ?_
          have h := h.arr 16 (g := (hfl (htk n K F bar (upd w rr (nI v)) ρ) g1 12)) rfl (fun j hj => rfl) rfl
          have h := h.arr 17 (g := ro (hys n K F bar w ρ sh sr tb q rr (v + 1))) rfl (hst) rfl
          exact ih12  (v + 1) uh21 ut21 uw21 uk21 ur21 (hfl (htk n K F bar (upd w rr (nI v)) ρ) g1 12) (by omega) (by first | assumption | omega) _ _ _ h (lv_sub hl [2, 3, 1, 0] rfl)
  have h := h.arr 17 (g := ro (hys n K F bar w ρ sh sr tb q rr 0)) rfl (fun j hj => rfl) rfl
  exact L12 ((10 - 0) + 1) 0 hv tv tw tk2 tr g (by omega) (by first | assumption | omega) _ _ _ h (lv_sub hl [2, 3, 1, 0] rfl)

set_option maxHeartbeats 4000000 in
set_option maxRecDepth 100000 in
theorem c_X2_next (l : Launch) (D : va_G) (cI cZ : ClassId) (kS vS : Nat) (h0 : Nat) (sd : Int32) (d : Nat) (hd : 0 < d ∧ d < 100) : CI l yX2_next cX2_next 2 .int D cI cZ kS vS 0 0 0 0 [.ref h0, .int (nI d)] [(h0, .inr (2, [.int sd]))] (fun (r : Int32) (_ : Unit) => r = nI (hdv sd d)) (fun (_ : Unit) => [(h0, .inr (2, [.int (hsd sd)]))]) := by
  refine CI_intro (by decide) (Nat.le_of_ble_eq_true rfl) ?_
  intro p e s m args below meth c A Q ls C h hret hl
  have C : CX p s m args c cX2_next 2 RX2 D cI cZ kS vS A := C
  have hx := C.1.1
  have hb := C.1.2.1
  have hl : lv_has ls 2 [(0, .ref h0), (1, .int (nI d))] := hl
  refine lv_aload_n hx hb dX2_next_0 rfl (lv_at hl 0 rfl) ?_
  refine lv_ldc2 (v := 1103515245) hx hb C.1.2.2.2.1 (C.1.2.2.2.2 _ mq_RX2_7) dX2_next_1 ?_
  refine lv_aload_n hx hb dX2_next_4 rfl (lv_at hl 0 rfl) ?_
  refine r_get C h fk2 0 0 rfl (by decide) mf_RX2_9 rfl dX2_next_5 ?_
  refine lv_i2l hx hb dX2_next_8 rfl ?_
  refine lv_lmul hx hb dX2_next_9 ?_
  refine lv_ldc2 (v := 12345) hx hb C.1.2.2.2.1 (C.1.2.2.2.2 _ mq_RX2_15) dX2_next_10 ?_
  refine lv_ladd hx hb dX2_next_13 ?_
  refine lv_ldc2 (v := 2147483647) hx hb C.1.2.2.2.1 (C.1.2.2.2.2 _ mq_RX2_17) dX2_next_14 ?_
  refine lv_land hx hb dX2_next_17 ?_
  refine lv_l2i hx hb dX2_next_18 rfl ?_
  refine r_top (y := hsd sd) (rfl) ?_
  refine r_put C h fk2 0 0 rfl (by decide) mf_RX2_9 rfl (rfl) rfl (Nat.le_of_ble_eq_true rfl) (ws' := [(h0, .inr (2, [.int (hsd sd)]))]) rfl dX2_next_19 (fun H locs h => ?_)
  refine lv_iload_n hx hb dX2_next_22 rfl (lv_at hl 1 rfl) ?_
  refine lv_if_le (tgt := 38) hx hb dX2_next_23 (by decide) (fun c_23 => ?_) (fun c_23 => ?_)
  · skip
    have c_23 := (jle (a := d) (b := 0) (by omega) (by omega)).mp c_23
    exact absurd c_23 (by omega)
  · skip
    have c_23 : ¬ d ≤ 0 := fun z => c_23 ((jle (a := d) (b := 0) (by omega) (by omega)).mpr z)
    refine lv_aload_n hx hb dX2_next_26 rfl (lv_at hl 0 rfl) ?_
    refine r_get C h fk2 0 0 rfl (by decide) mf_RX2_9 rfl dX2_next_27 ?_
    refine r_top (y := nI (hdt sd)) (hsd_nI sd) ?_
    refine lv_bipush (v := 16) hx hb dX2_next_30 (by decide) ?_
    refine lv_ishr hx hb dX2_next_32 ?_
    refine r_top (y := nI (hdt sd / 65536)) (pk_shrN (hdt_lt sd) _ 16 (by decide)) ?_
    refine lv_iload_n hx hb dX2_next_33 rfl (lv_at hl 1 rfl) ?_
    refine lv_irem hx hb dX2_next_34 (nI_ne0 hd.1 (by omega)) ?_
    refine r_top (y := nI (hdv sd d)) (pk_rem (hdq_lt sd) hd.1 (by omega)) ?_
    refine lv_goto (tgt := 39) hx hb dX2_next_35 (by decide) ?_
    exact hret (r := nI (hdv sd d)) () dX2_next_39 h (rfl) (rfl)

set_option maxHeartbeats 4000000 in
set_option maxRecDepth 100000 in
theorem c_X3_passSeasons (l : Launch) (D : va_G) (cI cZ : ClassId) (kS vS : Nat) (h0 : Nat) (oc : Nat) (on : Nat) (os : Nat) (ot : Nat) (od : Nat) (oo : Nat) (oy : Nat) (t2 : Nat) (t3 : Nat) (t4 : Nat) (n2 : Nat) (n3 : Nat) (n4 : Nat) (c5 : Nat) (c6 : Nat) (n : Nat) (bar : Int32) (K : Nat → Int32) (F : Nat → Int32) (w : Nat → Int32) (ρ : Nat → Nat) (tk : Nat → Int32) (hr : Int32) (to : Int32) (hv : Int32) (tv : Int32) (tw : Nat → Int32) (tk2 : Nat → Int32) (tr : Nat → Int32) (sd0 : Int32) (sd : Int32) (mm : Nat) (hn2 : 2 ≤ n) (hn5 : n ≤ 5) (hpm : PM n ρ) (hm : mm ≤ 60) : CI l yX3_passSeasons cX3_passSeasons 7 .int D cI cZ kS vS 4 88 0 0 [.ref h0, .int (nI mm), .int sd] [(h0, .inr (3, [.ref oc, .ref on, .ref os, .ref ot, .ref od, .ref oo, .ref oy])), (ot, .inr (5, [.ref oc, .ref t2, .ref t3, .ref t4, .int hv, .int tv])), (t2, .inl (cI, 5, .inl tw)), (t3, .inl (cI, 5, .inl tk2)), (t4, .inl (cI, 5, .inl tr)), (on, .inr (5, [.ref oc, .ref n2, .ref n3, .ref n4, .int hr, .int to])), (n2, .inl (cI, 5, .inl w)), (n3, .inl (cI, 5, .inl tk)), (n4, .inl (cI, 5, .inl (ro ρ))), (oc, .inr (1, [.ref c5, .ref c6, .int (nI n), .int bar])), (c5, .inl (cI, 5, .inl K)), (c6, .inl (cI, 5, .inl F)), (od, .inr (2, [.int sd0]))] (fun (r : Int32) (u : Int32 × Int32 × (Nat → Int32)) => r = (hse n K F bar w ρ sd mm).2.2) (fun (u : Int32 × Int32 × (Nat → Int32)) => [(h0, .inr (3, [.ref oc, .ref on, .ref os, .ref ot, .ref od, .ref oo, .ref oy])), (ot, .inr (5, [.ref oc, .ref t2, .ref t3, .ref t4, .int u.1, .int u.2.1])), (t2, .inl (cI, 5, .inl (hse n K F bar w ρ sd mm).1.1)), (t3, .inl (cI, 5, .inl u.2.2)), (t4, .inl (cI, 5, .inl (ro (hse n K F bar w ρ sd mm).1.2))), (on, .inr (5, [.ref oc, .ref n2, .ref n3, .ref n4, .int hr, .int to])), (n2, .inl (cI, 5, .inl w)), (n3, .inl (cI, 5, .inl tk)), (n4, .inl (cI, 5, .inl (ro ρ))), (oc, .inr (1, [.ref c5, .ref c6, .int (nI n), .int bar])), (c5, .inl (cI, 5, .inl K)), (c6, .inl (cI, 5, .inl F)), (od, .inr (2, [.int (hse n K F bar w ρ sd mm).2.1]))]) := by
  refine CI_intro (by decide) (Nat.le_of_ble_eq_true rfl) ?_
  intro p e s m args below meth c A Q ls C h hret hl
  have C : CX p s m args c cX3_passSeasons 7 RX3 D cI cZ kS vS A := C
  have hx := C.1.1
  have hb := C.1.2.1
  have hl : lv_has ls 7 [(0, .ref h0), (1, .int (nI mm)), (2, .int sd)] := hl
  refine lv_aload_n hx hb dX3_passSeasons_0 rfl (lv_at hl 0 rfl) ?_
  refine r_get C h fk3 0 3 rfl (by decide) mf_RX3_42 rfl dX3_passSeasons_1 ?_
  refine lv_aload_n hx hb dX3_passSeasons_4 rfl (lv_at hl 0 rfl) ?_
  refine r_get C h fk3 0 1 rfl (by decide) mf_RX3_29 rfl dX3_passSeasons_5 ?_
  refine k_Vv (rest := []) (as := [.ref on]) (wc := [(ot, .inr (5, [.ref oc, .ref t2, .ref t3, .ref t4, .int hv, .int tv])), (t2, .inl (cI, 5, .inl tw)), (t3, .inl (cI, 5, .inl tk2)), (t4, .inl (cI, 5, .inl tr)), (on, .inr (5, [.ref oc, .ref n2, .ref n3, .ref n4, .int hr, .int to])), (n2, .inl (cI, 5, .inl w)), (n3, .inl (cI, 5, .inl tk)), (n4, .inl (cI, 5, .inl (ro ρ)))]) (wr := [(h0, .inr (3, [.ref oc, .ref on, .ref os, .ref ot, .ref od, .ref oo, .ref oy])), (oc, .inr (1, [.ref c5, .ref c6, .int (nI n), .int bar])), (c5, .inl (cI, 5, .inl K)), (c6, .inl (cI, 5, .inl F)), (od, .inr (2, [.int sd0]))]) (isC := [1, 2, 3, 4, 5, 6, 7, 8]) (isR := [0, 9, 10, 11, 12]) (w2 := fun (_ : Unit) => [(h0, .inr (3, [.ref oc, .ref on, .ref os, .ref ot, .ref od, .ref oo, .ref oy])), (ot, .inr (5, [.ref oc, .ref t2, .ref t3, .ref t4, .int hr, .int tv])), (t2, .inl (cI, 5, .inl w)), (t3, .inl (cI, 5, .inl tk)), (t4, .inl (cI, 5, .inl (ro ρ))), (on, .inr (5, [.ref oc, .ref n2, .ref n3, .ref n4, .int hr, .int to])), (n2, .inl (cI, 5, .inl w)), (n3, .inl (cI, 5, .inl tk)), (n4, .inl (cI, 5, .inl (ro ρ))), (oc, .inr (1, [.ref c5, .ref c6, .int (nI n), .int bar])), (c5, .inl (cI, 5, .inl K)), (c6, .inl (cI, 5, .inl F)), (od, .inr (2, [.int sd0]))]) C h (c_X5_copyFrom l D cI cZ kS vS ot oc t2 t3 t4 on oc n2 n3 n4 hv tv hr to tw tk2 tr w tk (ro ρ) ) wv_X5_copyFrom rfl ⟨rfl, rfl, rfl, rfl, by decide⟩ fk5 1 rfl ml_RX3_45 [0, 5, 6, 7, 8, 9, 10, 11, 12, 1, 2, 3, 4] rfl (fun _ => rfl) ⟨Nat.le_of_ble_eq_true rfl, Nat.le_of_ble_eq_true rfl⟩ ⟨Nat.le_of_ble_eq_true rfl, Nat.le_of_ble_eq_true rfl⟩ (Nat.le_of_ble_eq_true rfl) hl rfl dX3_passSeasons_8 (fun u H locs hq h => ?_)
  have h : HS D A s H locs [(h0, .inr (3, [.ref oc, .ref on, .ref os, .ref ot, .ref od, .ref oo, .ref oy])), (ot, .inr (5, [.ref oc, .ref t2, .ref t3, .ref t4, .int hr, .int tv])), (t2, .inl (cI, 5, .inl w)), (t3, .inl (cI, 5, .inl tk)), (t4, .inl (cI, 5, .inl (ro ρ))), (on, .inr (5, [.ref oc, .ref n2, .ref n3, .ref n4, .int hr, .int to])), (n2, .inl (cI, 5, .inl w)), (n3, .inl (cI, 5, .inl tk)), (n4, .inl (cI, 5, .inl (ro ρ))), (oc, .inr (1, [.ref c5, .ref c6, .int (nI n), .int bar])), (c5, .inl (cI, 5, .inl K)), (c6, .inl (cI, 5, .inl F)), (od, .inr (2, [.int sd0]))] := h
  have hq : True := hq
  refine lv_aload_n hx hb dX3_passSeasons_11 rfl (lv_at hl 0 rfl) ?_
  refine r_get C h fk3 0 4 rfl (by decide) mf_RX3_12 rfl dX3_passSeasons_12 ?_
  refine lv_iload_n hx hb dX3_passSeasons_15 rfl (lv_at hl 2 rfl) ?_
  refine r_putN C h fk2 12 0 20 rfl (by decide) rfl rfl (rfl) rfl (Nat.le_of_ble_eq_true rfl) (ws' := [(h0, .inr (3, [.ref oc, .ref on, .ref os, .ref ot, .ref od, .ref oo, .ref oy])), (ot, .inr (5, [.ref oc, .ref t2, .ref t3, .ref t4, .int hr, .int tv])), (t2, .inl (cI, 5, .inl w)), (t3, .inl (cI, 5, .inl tk)), (t4, .inl (cI, 5, .inl (ro ρ))), (on, .inr (5, [.ref oc, .ref n2, .ref n3, .ref n4, .int hr, .int to])), (n2, .inl (cI, 5, .inl w)), (n3, .inl (cI, 5, .inl tk)), (n4, .inl (cI, 5, .inl (ro ρ))), (oc, .inr (1, [.ref c5, .ref c6, .int (nI n), .int bar])), (c5, .inl (cI, 5, .inl K)), (c6, .inl (cI, 5, .inl F)), (od, .inr (2, [.int sd]))]) rfl dX3_passSeasons_16 (fun H locs h => ?_)
  refine lv_iconst (v := 0) hx hb dX3_passSeasons_19 (by decide) ?_
  refine lv_istore_n (lv' := [(3, .int 0), (0, .ref h0), (1, .int (nI mm)), (2, .int sd)]) hx hb dX3_passSeasons_20 rfl hl (by decide) rfl (fun ls hl => ?_)
  refine lv_iconst (v := 1) hx hb dX3_passSeasons_21 (by decide) ?_
  refine lv_istore (lv' := [(4, .int 1), (3, .int 0), (0, .ref h0), (1, .int (nI mm)), (2, .int sd)]) hx hb dX3_passSeasons_22 hl (by decide) rfl (fun ls hl => ?_)
  have L24 : ∀ (fu : Nat) (k : Nat) (hv1 : Int32) (tv1 : Int32) (tk1 : Nat → Int32), (mm - k) < fu → (hk : k ≤ mm) → ∀ (H : Heap) (locs : List Loc) (ls : Array Slot), HS D A s H locs [(h0, .inr (3, [.ref oc, .ref on, .ref os, .ref ot, .ref od, .ref oo, .ref oy])), (ot, .inr (5, [.ref oc, .ref t2, .ref t3, .ref t4, .int hv1, .int tv1])), (t2, .inl (cI, 5, .inl (hse n K F bar w ρ sd k).1.1)), (t3, .inl (cI, 5, .inl tk1)), (t4, .inl (cI, 5, .inl (ro (hse n K F bar w ρ sd k).1.2))), (on, .inr (5, [.ref oc, .ref n2, .ref n3, .ref n4, .int hr, .int to])), (n2, .inl (cI, 5, .inl w)), (n3, .inl (cI, 5, .inl tk)), (n4, .inl (cI, 5, .inl (ro ρ))), (oc, .inr (1, [.ref c5, .ref c6, .int (nI n), .int bar])), (c5, .inl (cI, 5, .inl K)), (c6, .inl (cI, 5, .inl F)), (od, .inr (2, [.int (hse n K F bar w ρ sd k).2.1]))] → lv_has ls 7 [(0, .ref h0), (1, .int (nI mm)), (2, .int sd), (3, .int (hse n K F bar w ρ sd k).2.2), (4, .int (nI (k + 1)))] → W p l e (rmO 4 88 0 0) s m args below meth c H locs 0 0 Q (F0 m 24 ls []) := by
    intro fu
    induction fu with
    | zero => intro k hv1 tv1 tk1 hfu; exact absurd hfu (Nat.not_lt_zero _)
    | succ fu ih24 =>
      intro k hv1 tv1 tk1 hfu hk H locs ls h hl
      refine lv_iload hx hb dX3_passSeasons_24 (lv_at hl 4 rfl) ?_
      refine lv_iload_n hx hb dX3_passSeasons_26 rfl (lv_at hl 1 rfl) ?_
      refine lv_icmp_gt (tgt := 84) hx hb dX3_passSeasons_27 (by decide) (fun c_27 => ?_) (fun c_27 => ?_)
      · skip
        have c_27 := (jlt (a := mm) (b := (k + 1)) (by omega) (by omega)).mp c_27
        obtain rfl : mm = k := by omega
        refine lv_iload_n hx hb dX3_passSeasons_84 rfl (lv_at hl 3 rfl) ?_
        exact hret (r := (hse n K F bar w ρ sd mm).2.2) (⟨hv1, tv1, tk1⟩) dX3_passSeasons_85 h (rfl) (rfl)
      · skip
        have c_27 : ¬ mm < (k + 1) := fun z => c_27 ((jlt (a := mm) (b := (k + 1)) (by omega) (by omega)).mpr z)
        have hlt : k < mm := by omega
        have hpk := hpm.hse (K := K) (F := F) (bar := bar) (w := w) hn2 sd k
        have hrv := hdv_lt (hsd (hse n K F bar w ρ sd k).2.1) (d := n) (by omega)
        refine lv_aload_n hx hb dX3_passSeasons_30 rfl (lv_at hl 0 rfl) ?_
        refine r_get C h fk3 0 4 rfl (by decide) mf_RX3_12 rfl dX3_passSeasons_31 ?_
        refine lv_iconst (v := 4) hx hb dX3_passSeasons_34 (by decide) ?_
        refine k_Vi (rest := []) (as := [.int 4]) (wc := [(od, .inr (2, [.int (hse n K F bar w ρ sd k).2.1]))]) (wr := [(h0, .inr (3, [.ref oc, .ref on, .ref os, .ref ot, .ref od, .ref oo, .ref oy])), (ot, .inr (5, [.ref oc, .ref t2, .ref t3, .ref t4, .int hv1, .int tv1])), (t2, .inl (cI, 5, .inl (hse n K F bar w ρ sd k).1.1)), (t3, .inl (cI, 5, .inl tk1)), (t4, .inl (cI, 5, .inl (ro (hse n K F bar w ρ sd k).1.2))), (on, .inr (5, [.ref oc, .ref n2, .ref n3, .ref n4, .int hr, .int to])), (n2, .inl (cI, 5, .inl w)), (n3, .inl (cI, 5, .inl tk)), (n4, .inl (cI, 5, .inl (ro ρ))), (oc, .inr (1, [.ref c5, .ref c6, .int (nI n), .int bar])), (c5, .inl (cI, 5, .inl K)), (c6, .inl (cI, 5, .inl F))]) (isC := [12]) (isR := [0, 1, 2, 3, 4, 5, 6, 7, 8, 9, 10, 11]) (w2 := fun (_ : Unit) => [(h0, .inr (3, [.ref oc, .ref on, .ref os, .ref ot, .ref od, .ref oo, .ref oy])), (ot, .inr (5, [.ref oc, .ref t2, .ref t3, .ref t4, .int hv1, .int tv1])), (t2, .inl (cI, 5, .inl (hse n K F bar w ρ sd k).1.1)), (t3, .inl (cI, 5, .inl tk1)), (t4, .inl (cI, 5, .inl (ro (hse n K F bar w ρ sd k).1.2))), (on, .inr (5, [.ref oc, .ref n2, .ref n3, .ref n4, .int hr, .int to])), (n2, .inl (cI, 5, .inl w)), (n3, .inl (cI, 5, .inl tk)), (n4, .inl (cI, 5, .inl (ro ρ))), (oc, .inr (1, [.ref c5, .ref c6, .int (nI n), .int bar])), (c5, .inl (cI, 5, .inl K)), (c6, .inl (cI, 5, .inl F)), (od, .inr (2, [.int (hsd (hse n K F bar w ρ sd k).2.1)]))]) C h (c_X2_next l D cI cZ kS vS od (hse n K F bar w ρ sd k).2.1 4 (by omega)) wv_X2_next rfl ⟨rfl, rfl, rfl, rfl, by decide⟩ fk2 12 rfl ml_RX3_80 [0, 1, 2, 3, 4, 5, 6, 7, 8, 9, 10, 11, 12] rfl (fun _ => rfl) ⟨Nat.le_of_ble_eq_true rfl, Nat.le_of_ble_eq_true rfl⟩ ⟨Nat.le_of_ble_eq_true rfl, Nat.le_of_ble_eq_true rfl⟩ (Nat.le_of_ble_eq_true rfl) hl rfl dX3_passSeasons_35 (fun r u H locs hq h => ?_)
        have h : HS D A s H locs [(h0, .inr (3, [.ref oc, .ref on, .ref os, .ref ot, .ref od, .ref oo, .ref oy])), (ot, .inr (5, [.ref oc, .ref t2, .ref t3, .ref t4, .int hv1, .int tv1])), (t2, .inl (cI, 5, .inl (hse n K F bar w ρ sd k).1.1)), (t3, .inl (cI, 5, .inl tk1)), (t4, .inl (cI, 5, .inl (ro (hse n K F bar w ρ sd k).1.2))), (on, .inr (5, [.ref oc, .ref n2, .ref n3, .ref n4, .int hr, .int to])), (n2, .inl (cI, 5, .inl w)), (n3, .inl (cI, 5, .inl tk)), (n4, .inl (cI, 5, .inl (ro ρ))), (oc, .inr (1, [.ref c5, .ref c6, .int (nI n), .int bar])), (c5, .inl (cI, 5, .inl K)), (c6, .inl (cI, 5, .inl F)), (od, .inr (2, [.int (hsd (hse n K F bar w ρ sd k).2.1)]))] := h
        have hq : r = nI (hdv (hse n K F bar w ρ sd k).2.1 4) := hq
        have hq := hq.symm
        subst hq
        refine lv_istore (lv' := [(5, .int (nI (hdv (hse n K F bar w ρ sd k).2.1 4))), (0, .ref h0), (1, .int (nI mm)), (2, .int sd), (3, .int (hse n K F bar w ρ sd k).2.2), (4, .int (nI (k + 1)))]) hx hb dX3_passSeasons_38 hl (by decide) rfl (fun ls hl => ?_)
        refine lv_aload_n hx hb dX3_passSeasons_40 rfl (lv_at hl 1 rfl) ?_
        refine r_get C h fk3 0 4 rfl (by decide) mf_RX3_12 rfl dX3_passSeasons_41 ?_
        refine lv_aload_n hx hb dX3_passSeasons_44 rfl (lv_at hl 1 rfl) ?_
        refine r_get C h fk3 0 0 rfl (by decide) mf_RX3_25 rfl dX3_passSeasons_45 ?_
        refine r_getN C h fk1 9 2 9 rfl (by decide) rfl rfl dX3_passSeasons_48 ?_
        refine k_Vi (rest := []) (as := [.int (nI n)]) (wc := [(od, .inr (2, [.int (hsd (hse n K F bar w ρ sd k).2.1)]))]) (wr := [(h0, .inr (3, [.ref oc, .ref on, .ref os, .ref ot, .ref od, .ref oo, .ref oy])), (ot, .inr (5, [.ref oc, .ref t2, .ref t3, .ref t4, .int hv1, .int tv1])), (t2, .inl (cI, 5, .inl (hse n K F bar w ρ sd k).1.1)), (t3, .inl (cI, 5, .inl tk1)), (t4, .inl (cI, 5, .inl (ro (hse n K F bar w ρ sd k).1.2))), (on, .inr (5, [.ref oc, .ref n2, .ref n3, .ref n4, .int hr, .int to])), (n2, .inl (cI, 5, .inl w)), (n3, .inl (cI, 5, .inl tk)), (n4, .inl (cI, 5, .inl (ro ρ))), (oc, .inr (1, [.ref c5, .ref c6, .int (nI n), .int bar])), (c5, .inl (cI, 5, .inl K)), (c6, .inl (cI, 5, .inl F))]) (isC := [12]) (isR := [0, 1, 2, 3, 4, 5, 6, 7, 8, 9, 10, 11]) (w2 := fun (_ : Unit) => [(h0, .inr (3, [.ref oc, .ref on, .ref os, .ref ot, .ref od, .ref oo, .ref oy])), (ot, .inr (5, [.ref oc, .ref t2, .ref t3, .ref t4, .int hv1, .int tv1])), (t2, .inl (cI, 5, .inl (hse n K F bar w ρ sd k).1.1)), (t3, .inl (cI, 5, .inl tk1)), (t4, .inl (cI, 5, .inl (ro (hse n K F bar w ρ sd k).1.2))), (on, .inr (5, [.ref oc, .ref n2, .ref n3, .ref n4, .int hr, .int to])), (n2, .inl (cI, 5, .inl w)), (n3, .inl (cI, 5, .inl tk)), (n4, .inl (cI, 5, .inl (ro ρ))), (oc, .inr (1, [.ref c5, .ref c6, .int (nI n), .int bar])), (c5, .inl (cI, 5, .inl K)), (c6, .inl (cI, 5, .inl F)), (od, .inr (2, [.int (hsd (hsd (hse n K F bar w ρ sd k).2.1))]))]) C h (c_X2_next l D cI cZ kS vS od (hsd (hse n K F bar w ρ sd k).2.1) n (by omega)) wv_X2_next rfl ⟨rfl, rfl, rfl, rfl, by decide⟩ fk2 12 rfl ml_RX3_80 [0, 1, 2, 3, 4, 5, 6, 7, 8, 9, 10, 11, 12] rfl (fun _ => rfl) ⟨Nat.le_of_ble_eq_true rfl, Nat.le_of_ble_eq_true rfl⟩ ⟨Nat.le_of_ble_eq_true rfl, Nat.le_of_ble_eq_true rfl⟩ (Nat.le_of_ble_eq_true rfl) hl rfl dX3_passSeasons_51 (fun r u H locs hq h => ?_)
        have h : HS D A s H locs [(h0, .inr (3, [.ref oc, .ref on, .ref os, .ref ot, .ref od, .ref oo, .ref oy])), (ot, .inr (5, [.ref oc, .ref t2, .ref t3, .ref t4, .int hv1, .int tv1])), (t2, .inl (cI, 5, .inl (hse n K F bar w ρ sd k).1.1)), (t3, .inl (cI, 5, .inl tk1)), (t4, .inl (cI, 5, .inl (ro (hse n K F bar w ρ sd k).1.2))), (on, .inr (5, [.ref oc, .ref n2, .ref n3, .ref n4, .int hr, .int to])), (n2, .inl (cI, 5, .inl w)), (n3, .inl (cI, 5, .inl tk)), (n4, .inl (cI, 5, .inl (ro ρ))), (oc, .inr (1, [.ref c5, .ref c6, .int (nI n), .int bar])), (c5, .inl (cI, 5, .inl K)), (c6, .inl (cI, 5, .inl F)), (od, .inr (2, [.int (hsd (hsd (hse n K F bar w ρ sd k).2.1))]))] := h
        have hq : r = nI (hdv (hsd (hse n K F bar w ρ sd k).2.1) n) := hq
        have hq := hq.symm
        subst hq
        refine lv_istore (lv' := [(6, .int (nI (hdv (hsd (hse n K F bar w ρ sd k).2.1) n))), (5, .int (nI (hdv (hse n K F bar w ρ sd k).2.1 4))), (0, .ref h0), (1, .int (nI mm)), (2, .int sd), (3, .int (hse n K F bar w ρ sd k).2.2), (4, .int (nI (k + 1)))]) hx hb dX3_passSeasons_54 hl (by decide) rfl (fun ls hl => ?_)
        refine lv_aload_n hx hb dX3_passSeasons_56 rfl (lv_at hl 2 rfl) ?_
        refine r_get C h fk3 0 3 rfl (by decide) mf_RX3_42 rfl dX3_passSeasons_57 ?_
        refine lv_iload hx hb dX3_passSeasons_60 (lv_at hl 0 rfl) ?_
        refine lv_iload hx hb dX3_passSeasons_62 (lv_at hl 1 rfl) ?_
        refine k_Vi (rest := []) (as := [.int (nI (hdv (hsd (hse n K F bar w ρ sd k).2.1) n)), .int (nI (hdv (hse n K F bar w ρ sd k).2.1 4))]) (wc := [(ot, .inr (5, [.ref oc, .ref t2, .ref t3, .ref t4, .int hv1, .int tv1])), (t2, .inl (cI, 5, .inl (hse n K F bar w ρ sd k).1.1))]) (wr := [(h0, .inr (3, [.ref oc, .ref on, .ref os, .ref ot, .ref od, .ref oo, .ref oy])), (t3, .inl (cI, 5, .inl tk1)), (t4, .inl (cI, 5, .inl (ro (hse n K F bar w ρ sd k).1.2))), (on, .inr (5, [.ref oc, .ref n2, .ref n3, .ref n4, .int hr, .int to])), (n2, .inl (cI, 5, .inl w)), (n3, .inl (cI, 5, .inl tk)), (n4, .inl (cI, 5, .inl (ro ρ))), (oc, .inr (1, [.ref c5, .ref c6, .int (nI n), .int bar])), (c5, .inl (cI, 5, .inl K)), (c6, .inl (cI, 5, .inl F)), (od, .inr (2, [.int (hsd (hsd (hse n K F bar w ρ sd k).2.1))]))]) (isC := [1, 2]) (isR := [0, 3, 4, 5, 6, 7, 8, 9, 10, 11, 12]) (w2 := fun (_ : Unit) => [(h0, .inr (3, [.ref oc, .ref on, .ref os, .ref ot, .ref od, .ref oo, .ref oy])), (ot, .inr (5, [.ref oc, .ref t2, .ref t3, .ref t4, .int hv1, .int tv1])), (t2, .inl (cI, 5, .inl (upd (hse n K F bar w ρ sd k).1.1 (hdv (hsd (hse n K F bar w ρ sd k).2.1) n) (hcap ((hse n K F bar w ρ sd k).1.1 (hdv (hsd (hse n K F bar w ρ sd k).2.1) n) + (nI (hdv (hse n K F bar w ρ sd k).2.1 4))))))), (t3, .inl (cI, 5, .inl tk1)), (t4, .inl (cI, 5, .inl (ro (hse n K F bar w ρ sd k).1.2))), (on, .inr (5, [.ref oc, .ref n2, .ref n3, .ref n4, .int hr, .int to])), (n2, .inl (cI, 5, .inl w)), (n3, .inl (cI, 5, .inl tk)), (n4, .inl (cI, 5, .inl (ro ρ))), (oc, .inr (1, [.ref c5, .ref c6, .int (nI n), .int bar])), (c5, .inl (cI, 5, .inl K)), (c6, .inl (cI, 5, .inl F)), (od, .inr (2, [.int (hsd (hsd (hse n K F bar w ρ sd k).2.1))]))]) C h (c_X5_addWater l D cI cZ kS vS ot oc t2 t3 t4 hv1 tv1 (hse n K F bar w ρ sd k).1.1 (hdv (hsd (hse n K F bar w ρ sd k).2.1) n) (nI (hdv (hse n K F bar w ρ sd k).2.1 4)) (by omega)) wv_X5_addWater rfl ⟨rfl, rfl, rfl, rfl, by decide⟩ fk5 1 rfl ml_RX3_88 [0, 11, 12, 1, 2, 3, 4, 5, 6, 7, 8, 9, 10] rfl (fun _ => rfl) ⟨Nat.le_of_ble_eq_true rfl, Nat.le_of_ble_eq_true rfl⟩ ⟨Nat.le_of_ble_eq_true rfl, Nat.le_of_ble_eq_true rfl⟩ (Nat.le_of_ble_eq_true rfl) hl rfl dX3_passSeasons_64 (fun r u H locs hq h => ?_)
        have h : HS D A s H locs [(h0, .inr (3, [.ref oc, .ref on, .ref os, .ref ot, .ref od, .ref oo, .ref oy])), (ot, .inr (5, [.ref oc, .ref t2, .ref t3, .ref t4, .int hv1, .int tv1])), (t2, .inl (cI, 5, .inl (upd (hse n K F bar w ρ sd k).1.1 (hdv (hsd (hse n K F bar w ρ sd k).2.1) n) (hcap ((hse n K F bar w ρ sd k).1.1 (hdv (hsd (hse n K F bar w ρ sd k).2.1) n) + (nI (hdv (hse n K F bar w ρ sd k).2.1 4))))))), (t3, .inl (cI, 5, .inl tk1)), (t4, .inl (cI, 5, .inl (ro (hse n K F bar w ρ sd k).1.2))), (on, .inr (5, [.ref oc, .ref n2, .ref n3, .ref n4, .int hr, .int to])), (n2, .inl (cI, 5, .inl w)), (n3, .inl (cI, 5, .inl tk)), (n4, .inl (cI, 5, .inl (ro ρ))), (oc, .inr (1, [.ref c5, .ref c6, .int (nI n), .int bar])), (c5, .inl (cI, 5, .inl K)), (c6, .inl (cI, 5, .inl F)), (od, .inr (2, [.int (hsd (hsd (hse n K F bar w ρ sd k).2.1))]))] := h
        have hq : r = hcap ((hse n K F bar w ρ sd k).1.1 (hdv (hsd (hse n K F bar w ρ sd k).2.1) n) + (nI (hdv (hse n K F bar w ρ sd k).2.1 4))) := hq
        have hq := hq.symm
        subst hq
        refine lv_pop hx hb dX3_passSeasons_67 rfl ?_
        refine lv_iload_n hx hb dX3_passSeasons_68 rfl (lv_at hl 5 rfl) ?_
        refine lv_aload_n hx hb dX3_passSeasons_69 rfl (lv_at hl 2 rfl) ?_
        refine r_get C h fk3 0 3 rfl (by decide) mf_RX3_42 rfl dX3_passSeasons_70 ?_
        refine k_Vi (rest := [.int (hse n K F bar w ρ sd k).2.2]) (as := []) (wc := [(ot, .inr (5, [.ref oc, .ref t2, .ref t3, .ref t4, .int hv1, .int tv1])), (oc, .inr (1, [.ref c5, .ref c6, .int (nI n), .int bar])), (t2, .inl (cI, 5, .inl (upd (hse n K F bar w ρ sd k).1.1 (hdv (hsd (hse n K F bar w ρ sd k).2.1) n) (hcap ((hse n K F bar w ρ sd k).1.1 (hdv (hsd (hse n K F bar w ρ sd k).2.1) n) + (nI (hdv (hse n K F bar w ρ sd k).2.1 4))))))), (t3, .inl (cI, 5, .inl tk1)), (t4, .inl (cI, 5, .inl (ro (hse n K F bar w ρ sd k).1.2))), (c5, .inl (cI, 5, .inl K)), (c6, .inl (cI, 5, .inl F))]) (wr := [(h0, .inr (3, [.ref oc, .ref on, .ref os, .ref ot, .ref od, .ref oo, .ref oy])), (on, .inr (5, [.ref oc, .ref n2, .ref n3, .ref n4, .int hr, .int to])), (n2, .inl (cI, 5, .inl w)), (n3, .inl (cI, 5, .inl tk)), (n4, .inl (cI, 5, .inl (ro ρ))), (od, .inr (2, [.int (hsd (hsd (hse n K F bar w ρ sd k).2.1))]))]) (isC := [1, 9, 2, 3, 4, 10, 11]) (isR := [0, 5, 6, 7, 8, 12]) (w2 := fun (_ : Unit) => [(h0, .inr (3, [.ref oc, .ref on, .ref os, .ref ot, .ref od, .ref oo, .ref oy])), (ot, .inr (5, [.ref oc, .ref t2, .ref t3, .ref t4, .int (hv1 + 1), .int (hoo n K F bar (upd (hse n K F bar w ρ sd k).1.1 (hdv (hsd (hse n K F bar w ρ sd k).2.1) n) (hcap ((hse n K F bar w ρ sd k).1.1 (hdv (hsd (hse n K F bar w ρ sd k).2.1) n) + (nI (hdv (hse n K F bar w ρ sd k).2.1 4))))) (hse n K F bar w ρ sd k).1.2)])), (t2, .inl (cI, 5, .inl (hww n K F bar (upd (hse n K F bar w ρ sd k).1.1 (hdv (hsd (hse n K F bar w ρ sd k).2.1) n) (hcap ((hse n K F bar w ρ sd k).1.1 (hdv (hsd (hse n K F bar w ρ sd k).2.1) n) + (nI (hdv (hse n K F bar w ρ sd k).2.1 4))))) (hse n K F bar w ρ sd k).1.2))), (t3, .inl (cI, 5, .inl (htt n K F bar (upd (hse n K F bar w ρ sd k).1.1 (hdv (hsd (hse n K F bar w ρ sd k).2.1) n) (hcap ((hse n K F bar w ρ sd k).1.1 (hdv (hsd (hse n K F bar w ρ sd k).2.1) n) + (nI (hdv (hse n K F bar w ρ sd k).2.1 4))))) (hse n K F bar w ρ sd k).1.2 tk1))), (t4, .inl (cI, 5, .inl (ro (hrr n K F bar (upd (hse n K F bar w ρ sd k).1.1 (hdv (hsd (hse n K F bar w ρ sd k).2.1) n) (hcap ((hse n K F bar w ρ sd k).1.1 (hdv (hsd (hse n K F bar w ρ sd k).2.1) n) + (nI (hdv (hse n K F bar w ρ sd k).2.1 4))))) (hse n K F bar w ρ sd k).1.2)))), (on, .inr (5, [.ref oc, .ref n2, .ref n3, .ref n4, .int hr, .int to])), (n2, .inl (cI, 5, .inl w)), (n3, .inl (cI, 5, .inl tk)), (n4, .inl (cI, 5, .inl (ro ρ))), (oc, .inr (1, [.ref c5, .ref c6, .int (nI n), .int bar])), (c5, .inl (cI, 5, .inl K)), (c6, .inl (cI, 5, .inl F)), (od, .inr (2, [.int (hsd (hsd (hse n K F bar w ρ sd k).2.1))]))]) C h (c_X5_passHour l D cI cZ kS vS ot oc t2 t3 t4 c5 c6 n bar hv1 tv1 (upd (hse n K F bar w ρ sd k).1.1 (hdv (hsd (hse n K F bar w ρ sd k).2.1) n) (hcap ((hse n K F bar w ρ sd k).1.1 (hdv (hsd (hse n K F bar w ρ sd k).2.1) n) + (nI (hdv (hse n K F bar w ρ sd k).2.1 4))))) tk1 (hse n K F bar w ρ sd k).1.2 K F hn2 hn5 hpk.1) wv_X5_passHour rfl ⟨rfl, rfl, rfl, rfl, by decide⟩ fk5 1 rfl ml_RX3_49 [0, 6, 8, 9, 10, 1, 2, 3, 4, 7, 11, 12, 5] rfl (fun _ => rfl) ⟨Nat.le_of_ble_eq_true rfl, Nat.le_of_ble_eq_true rfl⟩ ⟨Nat.le_of_ble_eq_true rfl, Nat.le_of_ble_eq_true rfl⟩ (Nat.le_of_ble_eq_true rfl) hl rfl dX3_passSeasons_73 (fun r u H locs hq h => ?_)
        have h : HS D A s H locs [(h0, .inr (3, [.ref oc, .ref on, .ref os, .ref ot, .ref od, .ref oo, .ref oy])), (ot, .inr (5, [.ref oc, .ref t2, .ref t3, .ref t4, .int (hv1 + 1), .int (hoo n K F bar (upd (hse n K F bar w ρ sd k).1.1 (hdv (hsd (hse n K F bar w ρ sd k).2.1) n) (hcap ((hse n K F bar w ρ sd k).1.1 (hdv (hsd (hse n K F bar w ρ sd k).2.1) n) + (nI (hdv (hse n K F bar w ρ sd k).2.1 4))))) (hse n K F bar w ρ sd k).1.2)])), (t2, .inl (cI, 5, .inl (hww n K F bar (upd (hse n K F bar w ρ sd k).1.1 (hdv (hsd (hse n K F bar w ρ sd k).2.1) n) (hcap ((hse n K F bar w ρ sd k).1.1 (hdv (hsd (hse n K F bar w ρ sd k).2.1) n) + (nI (hdv (hse n K F bar w ρ sd k).2.1 4))))) (hse n K F bar w ρ sd k).1.2))), (t3, .inl (cI, 5, .inl (htt n K F bar (upd (hse n K F bar w ρ sd k).1.1 (hdv (hsd (hse n K F bar w ρ sd k).2.1) n) (hcap ((hse n K F bar w ρ sd k).1.1 (hdv (hsd (hse n K F bar w ρ sd k).2.1) n) + (nI (hdv (hse n K F bar w ρ sd k).2.1 4))))) (hse n K F bar w ρ sd k).1.2 tk1))), (t4, .inl (cI, 5, .inl (ro (hrr n K F bar (upd (hse n K F bar w ρ sd k).1.1 (hdv (hsd (hse n K F bar w ρ sd k).2.1) n) (hcap ((hse n K F bar w ρ sd k).1.1 (hdv (hsd (hse n K F bar w ρ sd k).2.1) n) + (nI (hdv (hse n K F bar w ρ sd k).2.1 4))))) (hse n K F bar w ρ sd k).1.2)))), (on, .inr (5, [.ref oc, .ref n2, .ref n3, .ref n4, .int hr, .int to])), (n2, .inl (cI, 5, .inl w)), (n3, .inl (cI, 5, .inl tk)), (n4, .inl (cI, 5, .inl (ro ρ))), (oc, .inr (1, [.ref c5, .ref c6, .int (nI n), .int bar])), (c5, .inl (cI, 5, .inl K)), (c6, .inl (cI, 5, .inl F)), (od, .inr (2, [.int (hsd (hsd (hse n K F bar w ρ sd k).2.1))]))] := h
        have hq : r = hmm n K F bar (upd (hse n K F bar w ρ sd k).1.1 (hdv (hsd (hse n K F bar w ρ sd k).2.1) n) (hcap ((hse n K F bar w ρ sd k).1.1 (hdv (hsd (hse n K F bar w ρ sd k).2.1) n) + (nI (hdv (hse n K F bar w ρ sd k).2.1 4))))) (hse n K F bar w ρ sd k).1.2 := hq
        have hq := hq.symm
        subst hq
        refine lv_iadd hx hb dX3_passSeasons_76 ?_
        refine r_top (y := (hse n K F bar w ρ sd (k + 1)).2.2) (rfl) ?_
        refine lv_istore_n (lv' := [(3, .int (hse n K F bar w ρ sd (k + 1)).2.2), (6, .int (nI (hdv (hsd (hse n K F bar w ρ sd k).2.1) n))), (5, .int (nI (hdv (hse n K F bar w ρ sd k).2.1 4))), (0, .ref h0), (1, .int (nI mm)), (2, .int sd), (4, .int (nI (k + 1)))]) hx hb dX3_passSeasons_77 rfl hl (by decide) rfl (fun ls hl => ?_)
        refine lv_iinc (v := nI ((k + 1) + 1)) (lv' := [(4, .int (nI ((k + 1) + 1))), (3, .int (hse n K F bar w ρ sd (k + 1)).2.2), (6, .int (nI (hdv (hsd (hse n K F bar w ρ sd k).2.1) n))), (5, .int (nI (hdv (hse n K F bar w ρ sd k).2.1 4))), (0, .ref h0), (1, .int (nI mm)), (2, .int sd)]) hx hb dX3_passSeasons_78 hl (k := 6) rfl (nI_1 (k + 1)) (by decide) rfl (fun ls hl => ?_)
        refine lv_goto (tgt := 24) hx hb dX3_passSeasons_81 (by decide) ?_
        have h := h.arr 2 (g := (hse n K F bar w ρ sd (k + 1)).1.1) rfl (fun j hj => rfl) rfl
        have h := h.arr 3 (g := (htt n K F bar (upd (hse n K F bar w ρ sd k).1.1 (hdv (hsd (hse n K F bar w ρ sd k).2.1) n) (hcap ((hse n K F bar w ρ sd k).1.1 (hdv (hsd (hse n K F bar w ρ sd k).2.1) n) + (nI (hdv (hse n K F bar w ρ sd k).2.1 4))))) (hse n K F bar w ρ sd k).1.2 tk1)) rfl (fun j hj => rfl) rfl
        have h := h.arr 4 (g := ro (hse n K F bar w ρ sd (k + 1)).1.2) rfl (fun j hj => rfl) rfl
        exact ih24  (k + 1) (hv1 + 1) (hoo n K F bar (upd (hse n K F bar w ρ sd k).1.1 (hdv (hsd (hse n K F bar w ρ sd k).2.1) n) (hcap ((hse n K F bar w ρ sd k).1.1 (hdv (hsd (hse n K F bar w ρ sd k).2.1) n) + (nI (hdv (hse n K F bar w ρ sd k).2.1 4))))) (hse n K F bar w ρ sd k).1.2) (htt n K F bar (upd (hse n K F bar w ρ sd k).1.1 (hdv (hsd (hse n K F bar w ρ sd k).2.1) n) (hcap ((hse n K F bar w ρ sd k).1.1 (hdv (hsd (hse n K F bar w ρ sd k).2.1) n) + (nI (hdv (hse n K F bar w ρ sd k).2.1 4))))) (hse n K F bar w ρ sd k).1.2 tk1) (by omega) (by first | assumption | omega) _ _ _ h (lv_sub hl [4, 5, 6, 1, 0] rfl)
  have h := h.arr 2 (g := (hse n K F bar w ρ sd 0).1.1) rfl (fun j hj => rfl) rfl
  have h := h.arr 4 (g := ro (hse n K F bar w ρ sd 0).1.2) rfl (fun j hj => rfl) rfl
  exact L24 ((mm - 0) + 1) 0 hr tv tk (by omega) (by first | assumption | omega) _ _ _ h (lv_sub hl [2, 3, 4, 1, 0] rfl)

