set_option maxHeartbeats 4000000 in
set_option maxRecDepth 100000 in
theorem c_X0_swap (l : Launch) (D : va_G) (cI cZ : ClassId) (kS vS : Nat) (h0 : Nat) (oc : Nat) (on : Nat) (ot : Nat) (b3 : Nat) (b4 : Nat) (le : Int32) (o : Nat → Nat) (a : Nat) (b : Nat) (ha5 : a < 5) (hb5 : b < 5) : CV l yX0_swap cX0_swap 4 D cI cZ kS vS 0 0 0 0 [.ref h0, .int (nI a), .int (nI b)] [(h0, .inr (0, [.ref oc, .ref on, .ref ot, .ref b3, .ref b4, .int le])), (b3, .inl (cI, 5, .inl (ro o)))] (fun (_ : Unit) => True) (fun (_ : Unit) => [(h0, .inr (0, [.ref oc, .ref on, .ref ot, .ref b3, .ref b4, .int le])), (b3, .inl (cI, 5, .inl (ro (nsw o a b))))]) := by
  refine CV_intro (by decide) (Nat.le_of_ble_eq_true rfl) ?_
  intro p e s m args below meth c A Q ls C hini h hret hl
  have C : CX p s m args c cX0_swap 4 RX0 D cI cZ kS vS A := C
  have hx := C.1.1
  have hb := C.1.2.1
  have hl : lv_has ls 4 [(0, .ref h0), (1, .int (nI a)), (2, .int (nI b))] := hl
  refine lv_aload_n hx hb dX0_swap_0 rfl (lv_at hl 0 rfl) ?_
  refine r_get C h fk0 0 3 rfl (by decide) mf_RX0_9 rfl dX0_swap_1 ?_
  refine lv_iload_n hx hb dX0_swap_4 rfl (lv_at hl 1 rfl) ?_
  refine r_ld C h 1 rfl a (rfl) (by omega) (by decide) (x := nI (o a)) (rfl) dX0_swap_5 ?_
  refine lv_istore_n (lv' := [(3, .int (nI (o a))), (0, .ref h0), (1, .int (nI a)), (2, .int (nI b))]) hx hb dX0_swap_6 rfl hl (by decide) rfl (fun ls hl => ?_)
  refine lv_aload_n hx hb dX0_swap_7 rfl (lv_at hl 1 rfl) ?_
  refine r_get C h fk0 0 3 rfl (by decide) mf_RX0_9 rfl dX0_swap_8 ?_
  refine lv_iload_n hx hb dX0_swap_11 rfl (lv_at hl 2 rfl) ?_
  refine lv_aload_n hx hb dX0_swap_12 rfl (lv_at hl 1 rfl) ?_
  refine r_get C h fk0 0 3 rfl (by decide) mf_RX0_9 rfl dX0_swap_13 ?_
  refine lv_iload_n hx hb dX0_swap_16 rfl (lv_at hl 3 rfl) ?_
  refine r_ld C h 1 rfl b (rfl) (by omega) (by decide) (x := nI (o b)) (rfl) dX0_swap_17 ?_
  refine r_st C h 1 rfl a (rfl) (by omega) (by decide) (g := ro (un o a (o b))) (fun j _ => ro_un j) (ws' := [(h0, .inr (0, [.ref oc, .ref on, .ref ot, .ref b3, .ref b4, .int le])), (b3, .inl (cI, 5, .inl (ro (un o a (o b)))))]) rfl dX0_swap_18 (fun H locs h => ?_)
  refine lv_aload_n hx hb dX0_swap_19 rfl (lv_at hl 1 rfl) ?_
  refine r_get C h fk0 0 3 rfl (by decide) mf_RX0_9 rfl dX0_swap_20 ?_
  refine lv_iload_n hx hb dX0_swap_23 rfl (lv_at hl 3 rfl) ?_
  refine lv_iload_n hx hb dX0_swap_24 rfl (lv_at hl 0 rfl) ?_
  refine r_st C h 1 rfl b (rfl) (by omega) (by decide) (g := ro (un (un o a (o b)) b (o a))) (fun j _ => ro_un j) (ws' := [(h0, .inr (0, [.ref oc, .ref on, .ref ot, .ref b3, .ref b4, .int le])), (b3, .inl (cI, 5, .inl (ro (un (un o a (o b)) b (o a)))))]) rfl dX0_swap_25 (fun H locs h => ?_)
  have h := h.arr 1 (g := ro (nsw o a b)) rfl (fun j hj => rfl) rfl
  exact hret () dX0_swap_26 h (trivial)

set_option maxHeartbeats 4000000 in
set_option maxRecDepth 100000 in
theorem c_X0_keepAsFound (l : Launch) (D : va_G) (cI cZ : ClassId) (kS vS : Nat) (h0 : Nat) (oc : Nat) (on : Nat) (ot : Nat) (b3 : Nat) (b4 : Nat) (le : Int32) (x : Int32) (o : Nat → Int32) (f : Nat → Int32)  : CV l yX0_keepAsFound cX0_keepAsFound 2 D cI cZ kS vS 1 18 0 0 [.ref h0, .int x] [(h0, .inr (0, [.ref oc, .ref on, .ref ot, .ref b3, .ref b4, .int le])), (b3, .inl (cI, 5, .inl o)), (b4, .inl (cI, 5, .inl f))] (fun (_ : Unit) => True) (fun (_ : Unit) => [(h0, .inr (0, [.ref oc, .ref on, .ref ot, .ref b3, .ref b4, .int x])), (b3, .inl (cI, 5, .inl o)), (b4, .inl (cI, 5, .inl o))]) := by
  refine CV_intro (by decide) (Nat.le_of_ble_eq_true rfl) ?_
  intro p e s m args below meth c A Q ls C hini h hret hl
  have C : CX p s m args c cX0_keepAsFound 2 RX0 D cI cZ kS vS A := C
  have hx := C.1.1
  have hb := C.1.2.1
  have hl : lv_has ls 2 [(0, .ref h0), (1, .int x)] := hl
  refine lv_aload_n hx hb dX0_keepAsFound_0 rfl (lv_at hl 0 rfl) ?_
  refine lv_iload_n hx hb dX0_keepAsFound_1 rfl (lv_at hl 1 rfl) ?_
  refine r_put C h fk0 0 5 rfl (by decide) mf_RX0_52 rfl (rfl) rfl (Nat.le_of_ble_eq_true rfl) (ws' := [(h0, .inr (0, [.ref oc, .ref on, .ref ot, .ref b3, .ref b4, .int x])), (b3, .inl (cI, 5, .inl o)), (b4, .inl (cI, 5, .inl f))]) rfl dX0_keepAsFound_2 (fun H locs h => ?_)
  refine lv_aload_n hx hb dX0_keepAsFound_5 rfl (lv_at hl 0 rfl) ?_
  refine r_get C h fk0 0 3 rfl (by decide) mf_RX0_9 rfl dX0_keepAsFound_6 ?_
  refine lv_iconst (v := 0) hx hb dX0_keepAsFound_9 (by decide) ?_
  refine lv_aload_n hx hb dX0_keepAsFound_10 rfl (lv_at hl 0 rfl) ?_
  refine r_get C h fk0 0 4 rfl (by decide) mf_RX0_15 rfl dX0_keepAsFound_11 ?_
  refine lv_iconst (v := 0) hx hb dX0_keepAsFound_14 (by decide) ?_
  refine lv_iconst (v := 5) hx hb dX0_keepAsFound_15 (by decide) ?_
  refine r_copy C h ml_RX0_55 1 2 rfl rfl 5 rfl rfl rfl (by decide) (by decide) (by decide) (f' := o) (fun j hj => cpy_all hj) (ws' := [(h0, .inr (0, [.ref oc, .ref on, .ref ot, .ref b3, .ref b4, .int x])), (b3, .inl (cI, 5, .inl o)), (b4, .inl (cI, 5, .inl o))]) rfl hl ⟨Nat.le_of_ble_eq_true rfl, Nat.le_of_ble_eq_true rfl⟩ dX0_keepAsFound_16 (fun H locs h => ?_)
  exact hret () dX0_keepAsFound_19 h (trivial)

set_option maxHeartbeats 4000000 in
set_option maxRecDepth 100000 in
theorem c_X0_waterBehindOrder (l : Launch) (D : va_G) (cI cZ : ClassId) (kS vS : Nat) (h0 : Nat) (oc : Nat) (on : Nat) (ot : Nat) (b3 : Nat) (b4 : Nat) (t2 : Nat) (t3 : Nat) (t4 : Nat) (n2 : Nat) (n3 : Nat) (n4 : Nat) (c5 : Nat) (c6 : Nat) (n : Nat) (bar : Int32) (K : Nat → Int32) (F : Nat → Int32) (w : Nat → Int32) (ρ : Nat → Nat) (tk : Nat → Int32) (hr : Int32) (to : Int32) (hv : Int32) (tv : Int32) (tw : Nat → Int32) (tk2 : Nat → Int32) (tr : Nat → Int32) (le : Int32) (o : Nat → Nat) (hn2 : 2 ≤ n) (hn5 : n ≤ 5) (hpo : PM n o) : CI l yX0_waterBehindOrder cX0_waterBehindOrder 2 .int D cI cZ kS vS 4 88 0 0 [.ref h0] [(h0, .inr (0, [.ref oc, .ref on, .ref ot, .ref b3, .ref b4, .int le])), (ot, .inr (5, [.ref oc, .ref t2, .ref t3, .ref t4, .int hv, .int tv])), (t2, .inl (cI, 5, .inl tw)), (t3, .inl (cI, 5, .inl tk2)), (t4, .inl (cI, 5, .inl tr)), (on, .inr (5, [.ref oc, .ref n2, .ref n3, .ref n4, .int hr, .int to])), (n2, .inl (cI, 5, .inl w)), (n3, .inl (cI, 5, .inl tk)), (n4, .inl (cI, 5, .inl (ro ρ))), (oc, .inr (1, [.ref c5, .ref c6, .int (nI n), .int bar])), (c5, .inl (cI, 5, .inl K)), (c6, .inl (cI, 5, .inl F)), (b3, .inl (cI, 5, .inl (ro o)))] (fun (r : Int32) (u : Int32 × Int32 × (Nat → Int32) × (Nat → Int32) × (Nat → Int32)) => r = hsm n K F bar w o 10) (fun (u : Int32 × Int32 × (Nat → Int32) × (Nat → Int32) × (Nat → Int32)) => [(h0, .inr (0, [.ref oc, .ref on, .ref ot, .ref b3, .ref b4, .int le])), (ot, .inr (5, [.ref oc, .ref t2, .ref t3, .ref t4, .int u.1, .int u.2.1])), (t2, .inl (cI, 5, .inl u.2.2.1)), (t3, .inl (cI, 5, .inl u.2.2.2.1)), (t4, .inl (cI, 5, .inl u.2.2.2.2)), (on, .inr (5, [.ref oc, .ref n2, .ref n3, .ref n4, .int hr, .int to])), (n2, .inl (cI, 5, .inl w)), (n3, .inl (cI, 5, .inl tk)), (n4, .inl (cI, 5, .inl (ro ρ))), (oc, .inr (1, [.ref c5, .ref c6, .int (nI n), .int bar])), (c5, .inl (cI, 5, .inl K)), (c6, .inl (cI, 5, .inl F)), (b3, .inl (cI, 5, .inl (ro o)))]) := by
  refine CI_intro (by decide) (Nat.le_of_ble_eq_true rfl) ?_
  intro p e s m args below meth c A Q ls C h hret hl
  have C : CX p s m args c cX0_waterBehindOrder 2 RX0 D cI cZ kS vS A := C
  have hx := C.1.1
  have hb := C.1.2.1
  have hl : lv_has ls 2 [(0, .ref h0)] := hl
  refine lv_aload_n hx hb dX0_waterBehindOrder_0 rfl (lv_at hl 0 rfl) ?_
  refine r_get C h fk0 0 2 rfl (by decide) mf_RX0_31 rfl dX0_waterBehindOrder_1 ?_
  refine lv_aload_n hx hb dX0_waterBehindOrder_4 rfl (lv_at hl 0 rfl) ?_
  refine r_get C h fk0 0 1 rfl (by decide) mf_RX0_22 rfl dX0_waterBehindOrder_5 ?_
  refine k_Vv (rest := []) (as := [.ref on]) (wc := [(ot, .inr (5, [.ref oc, .ref t2, .ref t3, .ref t4, .int hv, .int tv])), (t2, .inl (cI, 5, .inl tw)), (t3, .inl (cI, 5, .inl tk2)), (t4, .inl (cI, 5, .inl tr)), (on, .inr (5, [.ref oc, .ref n2, .ref n3, .ref n4, .int hr, .int to])), (n2, .inl (cI, 5, .inl w)), (n3, .inl (cI, 5, .inl tk)), (n4, .inl (cI, 5, .inl (ro ρ)))]) (wr := [(h0, .inr (0, [.ref oc, .ref on, .ref ot, .ref b3, .ref b4, .int le])), (oc, .inr (1, [.ref c5, .ref c6, .int (nI n), .int bar])), (c5, .inl (cI, 5, .inl K)), (c6, .inl (cI, 5, .inl F)), (b3, .inl (cI, 5, .inl (ro o)))]) (isC := [1, 2, 3, 4, 5, 6, 7, 8]) (isR := [0, 9, 10, 11, 12]) (w2 := fun (_ : Unit) => [(h0, .inr (0, [.ref oc, .ref on, .ref ot, .ref b3, .ref b4, .int le])), (ot, .inr (5, [.ref oc, .ref t2, .ref t3, .ref t4, .int hr, .int tv])), (t2, .inl (cI, 5, .inl w)), (t3, .inl (cI, 5, .inl tk)), (t4, .inl (cI, 5, .inl (ro ρ))), (on, .inr (5, [.ref oc, .ref n2, .ref n3, .ref n4, .int hr, .int to])), (n2, .inl (cI, 5, .inl w)), (n3, .inl (cI, 5, .inl tk)), (n4, .inl (cI, 5, .inl (ro ρ))), (oc, .inr (1, [.ref c5, .ref c6, .int (nI n), .int bar])), (c5, .inl (cI, 5, .inl K)), (c6, .inl (cI, 5, .inl F)), (b3, .inl (cI, 5, .inl (ro o)))]) C h (c_X5_copyFrom l D cI cZ kS vS ot oc t2 t3 t4 on oc n2 n3 n4 hv tv hr to tw tk2 tr w tk (ro ρ) ) wv_X5_copyFrom rfl ⟨rfl, rfl, rfl, rfl, by decide⟩ fk5 1 rfl ml_RX0_61 [0, 5, 6, 7, 8, 9, 10, 11, 12, 1, 2, 3, 4] rfl (fun _ => rfl) ⟨Nat.le_of_ble_eq_true rfl, Nat.le_of_ble_eq_true rfl⟩ ⟨Nat.le_of_ble_eq_true rfl, Nat.le_of_ble_eq_true rfl⟩ (Nat.le_of_ble_eq_true rfl) hl rfl dX0_waterBehindOrder_8 (fun u H locs hq h => ?_)
  have h : HS D A s H locs [(h0, .inr (0, [.ref oc, .ref on, .ref ot, .ref b3, .ref b4, .int le])), (ot, .inr (5, [.ref oc, .ref t2, .ref t3, .ref t4, .int hr, .int tv])), (t2, .inl (cI, 5, .inl w)), (t3, .inl (cI, 5, .inl tk)), (t4, .inl (cI, 5, .inl (ro ρ))), (on, .inr (5, [.ref oc, .ref n2, .ref n3, .ref n4, .int hr, .int to])), (n2, .inl (cI, 5, .inl w)), (n3, .inl (cI, 5, .inl tk)), (n4, .inl (cI, 5, .inl (ro ρ))), (oc, .inr (1, [.ref c5, .ref c6, .int (nI n), .int bar])), (c5, .inl (cI, 5, .inl K)), (c6, .inl (cI, 5, .inl F)), (b3, .inl (cI, 5, .inl (ro o)))] := h
  have hq : True := hq
  refine lv_aload_n hx hb dX0_waterBehindOrder_11 rfl (lv_at hl 0 rfl) ?_
  refine r_get C h fk0 0 3 rfl (by decide) mf_RX0_9 rfl dX0_waterBehindOrder_12 ?_
  refine lv_iconst (v := 0) hx hb dX0_waterBehindOrder_15 (by decide) ?_
  refine lv_aload_n hx hb dX0_waterBehindOrder_16 rfl (lv_at hl 0 rfl) ?_
  refine r_get C h fk0 0 2 rfl (by decide) mf_RX0_31 rfl dX0_waterBehindOrder_17 ?_
  refine r_getN C h fk5 1 3 15 rfl (by decide) rfl rfl dX0_waterBehindOrder_20 ?_
  refine lv_iconst (v := 0) hx hb dX0_waterBehindOrder_23 (by decide) ?_
  refine lv_iconst (v := 5) hx hb dX0_waterBehindOrder_24 (by decide) ?_
  refine r_copy C h ml_RX0_55 12 4 rfl rfl 5 rfl rfl rfl (by decide) (by decide) (by decide) (f' := ro o) (fun j hj => cpy_all hj) (ws' := [(h0, .inr (0, [.ref oc, .ref on, .ref ot, .ref b3, .ref b4, .int le])), (ot, .inr (5, [.ref oc, .ref t2, .ref t3, .ref t4, .int hr, .int tv])), (t2, .inl (cI, 5, .inl w)), (t3, .inl (cI, 5, .inl tk)), (t4, .inl (cI, 5, .inl (ro o))), (on, .inr (5, [.ref oc, .ref n2, .ref n3, .ref n4, .int hr, .int to])), (n2, .inl (cI, 5, .inl w)), (n3, .inl (cI, 5, .inl tk)), (n4, .inl (cI, 5, .inl (ro ρ))), (oc, .inr (1, [.ref c5, .ref c6, .int (nI n), .int bar])), (c5, .inl (cI, 5, .inl K)), (c6, .inl (cI, 5, .inl F)), (b3, .inl (cI, 5, .inl (ro o)))]) rfl hl ⟨Nat.le_of_ble_eq_true rfl, Nat.le_of_ble_eq_true rfl⟩ dX0_waterBehindOrder_25 (fun H locs h => ?_)
  refine lv_iconst (v := 1) hx hb dX0_waterBehindOrder_28 (by decide) ?_
  refine lv_istore_n (lv' := [(1, .int 1), (0, .ref h0)]) hx hb dX0_waterBehindOrder_29 rfl hl (by decide) rfl (fun ls hl => ?_)
  have L30 : ∀ (fu : Nat) (k : Nat) (hv1 : Int32) (tv1 : Int32) (tk1 : Nat → Int32), (10 - k) < fu → (hk : k ≤ 10) → ∀ (H : Heap) (locs : List Loc) (ls : Array Slot), HS D A s H locs [(h0, .inr (0, [.ref oc, .ref on, .ref ot, .ref b3, .ref b4, .int le])), (ot, .inr (5, [.ref oc, .ref t2, .ref t3, .ref t4, .int hv1, .int tv1])), (t2, .inl (cI, 5, .inl (hit n K F bar w o k).1)), (t3, .inl (cI, 5, .inl tk1)), (t4, .inl (cI, 5, .inl (ro (hit n K F bar w o k).2))), (on, .inr (5, [.ref oc, .ref n2, .ref n3, .ref n4, .int hr, .int to])), (n2, .inl (cI, 5, .inl w)), (n3, .inl (cI, 5, .inl tk)), (n4, .inl (cI, 5, .inl (ro ρ))), (oc, .inr (1, [.ref c5, .ref c6, .int (nI n), .int bar])), (c5, .inl (cI, 5, .inl K)), (c6, .inl (cI, 5, .inl F)), (b3, .inl (cI, 5, .inl (ro o)))] → lv_has ls 2 [(0, .ref h0), (1, .int (nI (k + 1)))] → W p l e (rmO 4 88 0 0) s m args below meth c H locs 0 0 Q (F0 m 30 ls []) := by
    intro fu
    induction fu with
    | zero => intro k hv1 tv1 tk1 hfu; exact absurd hfu (Nat.not_lt_zero _)
    | succ fu ih30 =>
      intro k hv1 tv1 tk1 hfu hk H locs ls h hl
      refine lv_iload_n hx hb dX0_waterBehindOrder_30 rfl (lv_at hl 1 rfl) ?_
      refine lv_bipush (v := 10) hx hb dX0_waterBehindOrder_31 (by decide) ?_
      refine lv_icmp_gt (tgt := 50) hx hb dX0_waterBehindOrder_33 (by decide) (fun c_33 => ?_) (fun c_33 => ?_)
      · skip
        have c_33 := (jlt (a := 10) (b := (k + 1)) (by omega) (by omega)).mp c_33
        obtain rfl : 10 = k := by omega
        refine lv_aload_n hx hb dX0_waterBehindOrder_50 rfl (lv_at hl 0 rfl) ?_
        refine r_get C h fk0 0 2 rfl (by decide) mf_RX0_31 rfl dX0_waterBehindOrder_51 ?_
        refine k_Vi (rest := []) (as := []) (wc := [(ot, .inr (5, [.ref oc, .ref t2, .ref t3, .ref t4, .int hv1, .int tv1])), (oc, .inr (1, [.ref c5, .ref c6, .int (nI n), .int bar])), (t2, .inl (cI, 5, .inl (hit n K F bar w o 10).1))]) (wr := [(h0, .inr (0, [.ref oc, .ref on, .ref ot, .ref b3, .ref b4, .int le])), (t3, .inl (cI, 5, .inl tk1)), (t4, .inl (cI, 5, .inl (ro (hit n K F bar w o 10).2))), (on, .inr (5, [.ref oc, .ref n2, .ref n3, .ref n4, .int hr, .int to])), (n2, .inl (cI, 5, .inl w)), (n3, .inl (cI, 5, .inl tk)), (n4, .inl (cI, 5, .inl (ro ρ))), (c5, .inl (cI, 5, .inl K)), (c6, .inl (cI, 5, .inl F)), (b3, .inl (cI, 5, .inl (ro o)))]) (isC := [1, 9, 2]) (isR := [0, 3, 4, 5, 6, 7, 8, 10, 11, 12]) (w2 := fun (_ : Unit) => [(h0, .inr (0, [.ref oc, .ref on, .ref ot, .ref b3, .ref b4, .int le])), (ot, .inr (5, [.ref oc, .ref t2, .ref t3, .ref t4, .int hv1, .int tv1])), (t2, .inl (cI, 5, .inl (hit n K F bar w o 10).1)), (t3, .inl (cI, 5, .inl tk1)), (t4, .inl (cI, 5, .inl (ro (hit n K F bar w o 10).2))), (on, .inr (5, [.ref oc, .ref n2, .ref n3, .ref n4, .int hr, .int to])), (n2, .inl (cI, 5, .inl w)), (n3, .inl (cI, 5, .inl tk)), (n4, .inl (cI, 5, .inl (ro ρ))), (oc, .inr (1, [.ref c5, .ref c6, .int (nI n), .int bar])), (c5, .inl (cI, 5, .inl K)), (c6, .inl (cI, 5, .inl F)), (b3, .inl (cI, 5, .inl (ro o)))]) C h (c_X5_waterInAll l D cI cZ kS vS ot oc t2 t3 t4 c5 c6 n bar hv1 tv1 (hit n K F bar w o 10).1 hn5) wv_X5_waterInAll rfl ⟨rfl, rfl, rfl, rfl, by decide⟩ fk5 1 rfl ml_RX0_71 [0, 10, 12, 1, 2, 3, 4, 5, 6, 11, 7, 8, 9] rfl (fun _ => rfl) ⟨Nat.le_of_ble_eq_true rfl, Nat.le_of_ble_eq_true rfl⟩ ⟨Nat.le_of_ble_eq_true rfl, Nat.le_of_ble_eq_true rfl⟩ (Nat.le_of_ble_eq_true rfl) hl rfl dX0_waterBehindOrder_54 (fun r u H locs hq h => ?_)
        have h : HS D A s H locs [(h0, .inr (0, [.ref oc, .ref on, .ref ot, .ref b3, .ref b4, .int le])), (ot, .inr (5, [.ref oc, .ref t2, .ref t3, .ref t4, .int hv1, .int tv1])), (t2, .inl (cI, 5, .inl (hit n K F bar w o 10).1)), (t3, .inl (cI, 5, .inl tk1)), (t4, .inl (cI, 5, .inl (ro (hit n K F bar w o 10).2))), (on, .inr (5, [.ref oc, .ref n2, .ref n3, .ref n4, .int hr, .int to])), (n2, .inl (cI, 5, .inl w)), (n3, .inl (cI, 5, .inl tk)), (n4, .inl (cI, 5, .inl (ro ρ))), (oc, .inr (1, [.ref c5, .ref c6, .int (nI n), .int bar])), (c5, .inl (cI, 5, .inl K)), (c6, .inl (cI, 5, .inl F)), (b3, .inl (cI, 5, .inl (ro o)))] := h
        have hq : r = hsum (hit n K F bar w o 10).1 n := hq
        have hq := hq.symm
        subst hq
        exact hret (r := hsum (hit n K F bar w o 10).1 n) (⟨hv1, tv1, (hit n K F bar w o 10).1, tk1, ro (hit n K F bar w o 10).2⟩) dX0_waterBehindOrder_57 h (rfl) (rfl)
      · skip
        have c_33 : ¬ 10 < (k + 1) := fun z => c_33 ((jlt (a := 10) (b := (k + 1)) (by omega) (by omega)).mpr z)
        have hlt : k < 10 := by omega
        have hpk := hpo.hit (K := K) (F := F) (bar := bar) (w := w) hn2 k
        refine lv_aload_n hx hb dX0_waterBehindOrder_36 rfl (lv_at hl 0 rfl) ?_
        refine r_get C h fk0 0 2 rfl (by decide) mf_RX0_31 rfl dX0_waterBehindOrder_37 ?_
        refine k_Vi (rest := []) (as := []) (wc := [(ot, .inr (5, [.ref oc, .ref t2, .ref t3, .ref t4, .int hv1, .int tv1])), (oc, .inr (1, [.ref c5, .ref c6, .int (nI n), .int bar])), (t2, .inl (cI, 5, .inl (hit n K F bar w o k).1)), (t3, .inl (cI, 5, .inl tk1)), (t4, .inl (cI, 5, .inl (ro (hit n K F bar w o k).2))), (c5, .inl (cI, 5, .inl K)), (c6, .inl (cI, 5, .inl F))]) (wr := [(h0, .inr (0, [.ref oc, .ref on, .ref ot, .ref b3, .ref b4, .int le])), (on, .inr (5, [.ref oc, .ref n2, .ref n3, .ref n4, .int hr, .int to])), (n2, .inl (cI, 5, .inl w)), (n3, .inl (cI, 5, .inl tk)), (n4, .inl (cI, 5, .inl (ro ρ))), (b3, .inl (cI, 5, .inl (ro o)))]) (isC := [1, 9, 2, 3, 4, 10, 11]) (isR := [0, 5, 6, 7, 8, 12]) (w2 := fun (_ : Unit) => [(h0, .inr (0, [.ref oc, .ref on, .ref ot, .ref b3, .ref b4, .int le])), (ot, .inr (5, [.ref oc, .ref t2, .ref t3, .ref t4, .int (hv1 + 1), .int (hoo n K F bar (hit n K F bar w o k).1 (hit n K F bar w o k).2)])), (t2, .inl (cI, 5, .inl (hww n K F bar (hit n K F bar w o k).1 (hit n K F bar w o k).2))), (t3, .inl (cI, 5, .inl (htt n K F bar (hit n K F bar w o k).1 (hit n K F bar w o k).2 tk1))), (t4, .inl (cI, 5, .inl (ro (hrr n K F bar (hit n K F bar w o k).1 (hit n K F bar w o k).2)))), (on, .inr (5, [.ref oc, .ref n2, .ref n3, .ref n4, .int hr, .int to])), (n2, .inl (cI, 5, .inl w)), (n3, .inl (cI, 5, .inl tk)), (n4, .inl (cI, 5, .inl (ro ρ))), (oc, .inr (1, [.ref c5, .ref c6, .int (nI n), .int bar])), (c5, .inl (cI, 5, .inl K)), (c6, .inl (cI, 5, .inl F)), (b3, .inl (cI, 5, .inl (ro o)))]) C h (c_X5_passHour l D cI cZ kS vS ot oc t2 t3 t4 c5 c6 n bar hv1 tv1 (hit n K F bar w o k).1 tk1 (hit n K F bar w o k).2 K F hn2 hn5 hpk.1) wv_X5_passHour rfl ⟨rfl, rfl, rfl, rfl, by decide⟩ fk5 1 rfl ml_RX0_68 [0, 6, 8, 9, 10, 1, 2, 3, 4, 7, 11, 12, 5] rfl (fun _ => rfl) ⟨Nat.le_of_ble_eq_true rfl, Nat.le_of_ble_eq_true rfl⟩ ⟨Nat.le_of_ble_eq_true rfl, Nat.le_of_ble_eq_true rfl⟩ (Nat.le_of_ble_eq_true rfl) hl rfl dX0_waterBehindOrder_40 (fun r u H locs hq h => ?_)
        have h : HS D A s H locs [(h0, .inr (0, [.ref oc, .ref on, .ref ot, .ref b3, .ref b4, .int le])), (ot, .inr (5, [.ref oc, .ref t2, .ref t3, .ref t4, .int (hv1 + 1), .int (hoo n K F bar (hit n K F bar w o k).1 (hit n K F bar w o k).2)])), (t2, .inl (cI, 5, .inl (hww n K F bar (hit n K F bar w o k).1 (hit n K F bar w o k).2))), (t3, .inl (cI, 5, .inl (htt n K F bar (hit n K F bar w o k).1 (hit n K F bar w o k).2 tk1))), (t4, .inl (cI, 5, .inl (ro (hrr n K F bar (hit n K F bar w o k).1 (hit n K F bar w o k).2)))), (on, .inr (5, [.ref oc, .ref n2, .ref n3, .ref n4, .int hr, .int to])), (n2, .inl (cI, 5, .inl w)), (n3, .inl (cI, 5, .inl tk)), (n4, .inl (cI, 5, .inl (ro ρ))), (oc, .inr (1, [.ref c5, .ref c6, .int (nI n), .int bar])), (c5, .inl (cI, 5, .inl K)), (c6, .inl (cI, 5, .inl F)), (b3, .inl (cI, 5, .inl (ro o)))] := h
        have hq : r = hmm n K F bar (hit n K F bar w o k).1 (hit n K F bar w o k).2 := hq
        have hq := hq.symm
        subst hq
        refine lv_pop hx hb dX0_waterBehindOrder_43 rfl ?_
        refine lv_iinc (v := nI ((k + 1) + 1)) (lv' := [(1, .int (nI ((k + 1) + 1))), (0, .ref h0)]) hx hb dX0_waterBehindOrder_44 hl (k := 1) rfl (nI_1 (k + 1)) (by decide) rfl (fun ls hl => ?_)
        refine lv_goto (tgt := 30) hx hb dX0_waterBehindOrder_47 (by decide) ?_
        have h := h.arr 2 (g := (hit n K F bar w o (k + 1)).1) rfl (fun j hj => rfl) rfl
        have h := h.arr 3 (g := (htt n K F bar (hit n K F bar w o k).1 (hit n K F bar w o k).2 tk1)) rfl (fun j hj => rfl) rfl
        have h := h.arr 4 (g := ro (hit n K F bar w o (k + 1)).2) rfl (fun j hj => rfl) rfl
        exact ih30  (k + 1) (hv1 + 1) (hoo n K F bar (hit n K F bar w o k).1 (hit n K F bar w o k).2) (htt n K F bar (hit n K F bar w o k).1 (hit n K F bar w o k).2 tk1) (by omega) (by first | assumption | omega) _ _ _ h (lv_sub hl [1, 0] rfl)
  have h := h.arr 2 (g := (hit n K F bar w o 0).1) rfl (fun j hj => rfl) rfl
  have h := h.arr 4 (g := ro (hit n K F bar w o 0).2) rfl (fun j hj => rfl) rfl
  exact L30 ((10 - 0) + 1) 0 hr tv tk (by omega) (by first | assumption | omega) _ _ _ h (lv_sub hl [1, 0] rfl)

set_option maxHeartbeats 4000000 in
set_option maxRecDepth 100000 in
theorem c_X0_goToNextOrder (l : Launch) (D : va_G) (cI cZ : ClassId) (kS vS : Nat) (h0 : Nat) (oc : Nat) (on : Nat) (ot : Nat) (b3 : Nat) (b4 : Nat) (c5 : Nat) (c6 : Nat) (n : Nat) (bar : Int32) (le : Int32) (o : Nat → Nat) (hn2 : 2 ≤ n) (hn5 : n ≤ 5) (ho : ∀ j, j < n → o j < n) : CI l yX0_goToNextOrder cX0_goToNextOrder 6 .boolean D cI cZ kS vS 1 23 0 0 [.ref h0] [(h0, .inr (0, [.ref oc, .ref on, .ref ot, .ref b3, .ref b4, .int le])), (oc, .inr (1, [.ref c5, .ref c6, .int (nI n), .int bar])), (b3, .inl (cI, 5, .inl (ro o)))] (fun (r : Int32) (_ : Unit) => r = bI (nxt n o).1) (fun (_ : Unit) => [(h0, .inr (0, [.ref oc, .ref on, .ref ot, .ref b3, .ref b4, .int le])), (oc, .inr (1, [.ref c5, .ref c6, .int (nI n), .int bar])), (b3, .inl (cI, 5, .inl (ro (nxt n o).2)))]) := by
  refine CI_intro (by decide) (Nat.le_of_ble_eq_true rfl) ?_
  intro p e s m args below meth c A Q ls C h hret hl
  have C : CX p s m args c cX0_goToNextOrder 6 RX0 D cI cZ kS vS A := C
  have hx := C.1.1
  have hb := C.1.2.1
  have hl : lv_has ls 6 [(0, .ref h0)] := hl
  refine lv_aload_n hx hb dX0_goToNextOrder_0 rfl (lv_at hl 0 rfl) ?_
  refine r_get C h fk0 0 0 rfl (by decide) mf_RX0_18 rfl dX0_goToNextOrder_1 ?_
  refine r_getN C h fk1 1 2 7 rfl (by decide) rfl rfl dX0_goToNextOrder_4 ?_
  refine lv_iconst (v := 1) hx hb dX0_goToNextOrder_7 (by decide) ?_
  refine lv_isub hx hb dX0_goToNextOrder_8 ?_
  refine r_top (y := nI (n - 1)) (pk_sub (a := n) (b := 1) (by omega)) ?_
  refine lv_istore_n (lv' := [(1, .int (nI (n - 1))), (0, .ref h0)]) hx hb dX0_goToNextOrder_9 rfl hl (by decide) rfl (fun ls hl => ?_)
  refine lv_iload_n hx hb dX0_goToNextOrder_10 rfl (lv_at hl 0 rfl) ?_
  refine lv_iconst (v := 1) hx hb dX0_goToNextOrder_11 (by decide) ?_
  refine lv_isub hx hb dX0_goToNextOrder_12 ?_
  refine r_top (y := tmn (n - 1)) (rfl) ?_
  refine lv_istore_n (lv' := [(2, .int (tmn (n - 1))), (1, .int (nI (n - 1))), (0, .ref h0)]) hx hb dX0_goToNextOrder_13 rfl hl (by decide) rfl (fun ls hl => ?_)
  have L14 : ∀ (fu : Nat) (u : Nat), u < fu → (hu0 : u ≤ n - 1) → (hu1 : nxu o u = nxu o (n - 1)) → ∀ (H : Heap) (locs : List Loc) (ls : Array Slot), HS D A s H locs [(h0, .inr (0, [.ref oc, .ref on, .ref ot, .ref b3, .ref b4, .int le])), (oc, .inr (1, [.ref c5, .ref c6, .int (nI n), .int bar])), (b3, .inl (cI, 5, .inl (ro o)))] → lv_has ls 6 [(0, .ref h0), (1, .int (nI (n - 1))), (2, .int (tmn u))] → W p l e (rmO 1 23 0 0) s m args below meth c H locs 0 0 Q (F0 m 14 ls []) := by
    intro fu
    induction fu with
    | zero => intro u hfu; exact absurd hfu (Nat.not_lt_zero _)
    | succ fu ih14 =>
      intro u hfu hu0 hu1 H locs ls h hl
      refine lv_iload_n hx hb dX0_goToNextOrder_14 rfl (lv_at hl 2 rfl) ?_
      refine lv_if_lt (tgt := 41) hx hb dX0_goToNextOrder_15 (by decide) (fun c_15 => ?_) (fun c_15 => ?_)
      · skip
        have c_15 := (tmn_lt (by omega)).mp c_15
        subst c_15
        have e0 : nxu o (n - 1) = 0 := hu1.symm
        refine lv_iload_n hx hb dX0_goToNextOrder_41 rfl (lv_at hl 2 rfl) ?_
        refine lv_if_ge (tgt := 47) hx hb dX0_goToNextOrder_42 (by decide) (fun c_42 => ?_) (fun c_42 => ?_)
        · skip
          exact absurd c_42 (by decide)
        · skip
          refine lv_iconst (v := 0) hx hb dX0_goToNextOrder_45 (by decide) ?_
          have h := h.arr 2 (g := ro (nxt n o).2) rfl (fun j _ => by unfold nxt; rw [if_pos e0]) rfl
          exact hret (r := 0) () dX0_goToNextOrder_46 h (rfl) (by unfold nxt; rw [if_pos e0]; rfl)
      · skip
        have c_15 : ¬ u = 0 := fun z => c_15 ((tmn_lt (by omega)).mpr z)
        obtain ⟨k, rfl⟩ : ∃ k, u = k + 1 := ⟨u - 1, by omega⟩
        have hl : lv_has ls 6 [(0, .ref h0), (1, .int (nI (n - 1))), (2, .int (nI k))] := by rw [← tmn_s k]; exact hl
        have o0 := ho k (by omega)
        have o1 := ho (k + 1) (by omega)
        refine lv_aload_n hx hb dX0_goToNextOrder_18 rfl (lv_at hl 0 rfl) ?_
        refine r_get C h fk0 0 3 rfl (by decide) mf_RX0_9 rfl dX0_goToNextOrder_19 ?_
        refine lv_iload_n hx hb dX0_goToNextOrder_22 rfl (lv_at hl 2 rfl) ?_
        refine r_ld C h 2 rfl k (rfl) (by omega) (by decide) (x := nI (o k)) (rfl) dX0_goToNextOrder_23 ?_
        refine lv_aload_n hx hb dX0_goToNextOrder_24 rfl (lv_at hl 0 rfl) ?_
        refine r_get C h fk0 0 3 rfl (by decide) mf_RX0_9 rfl dX0_goToNextOrder_25 ?_
        refine lv_iload_n hx hb dX0_goToNextOrder_28 rfl (lv_at hl 2 rfl) ?_
        refine lv_iconst (v := 1) hx hb dX0_goToNextOrder_29 (by decide) ?_
        refine lv_iadd hx hb dX0_goToNextOrder_30 ?_
        refine r_top (y := nI (k + 1)) (nI_add k 1) ?_
        refine r_ld C h 2 rfl (k + 1) (rfl) (by omega) (by decide) (x := nI (o (k + 1))) (rfl) dX0_goToNextOrder_31 ?_
        refine lv_icmp_le (tgt := 41) hx hb dX0_goToNextOrder_32 (by decide) (fun c_32 => ?_) (fun c_32 => ?_)
        · skip
          have c_32 := (jle (a := (o k)) (b := (o (k + 1))) (by omega) (by omega)).mp c_32
          have eu : nxu o (n - 1) = k + 1 := hu1.symm.trans (if_neg (by omega))
          refine lv_iload_n hx hb dX0_goToNextOrder_41 rfl (lv_at hl 2 rfl) ?_
          refine lv_if_ge (tgt := 47) hx hb dX0_goToNextOrder_42 (by decide) (fun c_42 => ?_) (fun c_42 => ?_)
          · skip
            have c_42 := (jle (a := 0) (b := k) (by omega) (by omega)).mp c_42
            refine lv_iload_n hx hb dX0_goToNextOrder_47 rfl (lv_at hl 1 rfl) ?_
            refine lv_istore_n (lv' := [(3, .int (nI (n - 1))), (0, .ref h0), (1, .int (nI (n - 1))), (2, .int (nI k))]) hx hb dX0_goToNextOrder_48 rfl hl (by decide) rfl (fun ls hl => ?_)
            have L49 : ∀ (fu : Nat) (x : Nat), x < fu → (hx0 : x ≤ n - 1 ∧ k ≤ x) → (hx1 : nxn o k x = nxn o k (n - 1)) → ∀ (H : Heap) (locs : List Loc) (ls : Array Slot), HS D A s H locs [(h0, .inr (0, [.ref oc, .ref on, .ref ot, .ref b3, .ref b4, .int le])), (oc, .inr (1, [.ref c5, .ref c6, .int (nI n), .int bar])), (b3, .inl (cI, 5, .inl (ro o)))] → lv_has ls 6 [(0, .ref h0), (1, .int (nI (n - 1))), (2, .int (nI k)), (3, .int (nI x))] → W p l e (rmO 1 23 0 0) s m args below meth c H locs 0 0 Q (F0 m 49 ls []) := by
              intro fu
              induction fu with
              | zero => intro x hfu; exact absurd hfu (Nat.not_lt_zero _)
              | succ fu ih49 =>
                intro x hfu hx0 hx1 H locs ls h hl
                refine lv_iload_n hx hb dX0_goToNextOrder_49 rfl (lv_at hl 3 rfl) ?_
                refine lv_iload_n hx hb dX0_goToNextOrder_50 rfl (lv_at hl 2 rfl) ?_
                refine lv_icmp_le (tgt := 75) hx hb dX0_goToNextOrder_51 (by decide) (fun c_51 => ?_) (fun c_51 => ?_)
                · skip
                  have c_51 := (jle (a := x) (b := k) (by omega) (by omega)).mp c_51
                  have ex : nxn o k (n - 1) = x := hx1.symm.trans (nxn_e (by omega))
                  have en : nxt n o = (true, nrv 5 (nsw o k x) (k + 1) (n - 1)) := by unfold nxt; rw [eu, if_neg (Nat.succ_ne_zero k), show k + 1 - 1 = k from rfl, ex]
                  refine lv_aload_n hx hb dX0_goToNextOrder_75 rfl (lv_at hl 0 rfl) ?_
                  refine lv_iload_n hx hb dX0_goToNextOrder_76 rfl (lv_at hl 2 rfl) ?_
                  refine lv_iload_n hx hb dX0_goToNextOrder_77 rfl (lv_at hl 3 rfl) ?_
                  refine k_Vv (rest := []) (as := [.int (nI k), .int (nI x)]) (wc := [(h0, .inr (0, [.ref oc, .ref on, .ref ot, .ref b3, .ref b4, .int le])), (b3, .inl (cI, 5, .inl (ro o)))]) (wr := [(oc, .inr (1, [.ref c5, .ref c6, .int (nI n), .int bar]))]) (isC := [0, 2]) (isR := [1]) (w2 := fun (_ : Unit) => [(h0, .inr (0, [.ref oc, .ref on, .ref ot, .ref b3, .ref b4, .int le])), (oc, .inr (1, [.ref c5, .ref c6, .int (nI n), .int bar])), (b3, .inl (cI, 5, .inl (ro (nsw o k x))))]) C h (c_X0_swap l D cI cZ kS vS h0 oc on ot b3 b4 le o k x (by omega) (by omega)) wv_X0_swap rfl ⟨rfl, rfl, rfl, rfl, by decide⟩ fk0 0 rfl ml_RX0_74 [1, 0, 2] rfl (fun _ => rfl) ⟨Nat.le_of_ble_eq_true rfl, Nat.le_of_ble_eq_true rfl⟩ ⟨Nat.le_of_ble_eq_true rfl, Nat.le_of_ble_eq_true rfl⟩ (Nat.le_of_ble_eq_true rfl) hl rfl dX0_goToNextOrder_78 (fun u H locs hq h => ?_)
                  have h : HS D A s H locs [(h0, .inr (0, [.ref oc, .ref on, .ref ot, .ref b3, .ref b4, .int le])), (oc, .inr (1, [.ref c5, .ref c6, .int (nI n), .int bar])), (b3, .inl (cI, 5, .inl (ro (nsw o k x))))] := h
                  have hq : True := hq
                  refine lv_iload_n hx hb dX0_goToNextOrder_81 rfl (lv_at hl 2 rfl) ?_
                  refine lv_iconst (v := 1) hx hb dX0_goToNextOrder_82 (by decide) ?_
                  refine lv_iadd hx hb dX0_goToNextOrder_83 ?_
                  refine r_top (y := nI (k + 1)) (nI_add k 1) ?_
                  refine lv_istore (lv' := [(4, .int (nI (k + 1))), (0, .ref h0), (1, .int (nI (n - 1))), (2, .int (nI k)), (3, .int (nI x))]) hx hb dX0_goToNextOrder_84 hl (by decide) rfl (fun ls hl => ?_)
                  refine lv_iload_n hx hb dX0_goToNextOrder_86 rfl (lv_at hl 2 rfl) ?_
                  refine lv_istore (lv' := [(5, .int (nI (n - 1))), (4, .int (nI (k + 1))), (0, .ref h0), (1, .int (nI (n - 1))), (2, .int (nI k)), (3, .int (nI x))]) hx hb dX0_goToNextOrder_87 hl (by decide) rfl (fun ls hl => ?_)
                  have L89 : ∀ (fu : Nat) (f : Nat) (lo : Nat) (hi : Nat) (o1 : Nat → Nat), (n - lo) < fu → (hi0 : hi ≤ n - 1 ∧ lo ≤ n ∧ hi < lo + 2 * f) → (hv1 : nrv f o1 lo hi = nrv 5 (nsw o k x) (k + 1) (n - 1)) → ∀ (H : Heap) (locs : List Loc) (ls : Array Slot), HS D A s H locs [(h0, .inr (0, [.ref oc, .ref on, .ref ot, .ref b3, .ref b4, .int le])), (oc, .inr (1, [.ref c5, .ref c6, .int (nI n), .int bar])), (b3, .inl (cI, 5, .inl (ro o1)))] → lv_has ls 6 [(0, .ref h0), (4, .int (nI lo)), (5, .int (nI hi))] → W p l e (rmO 1 23 0 0) s m args below meth c H locs 0 0 Q (F0 m 89 ls []) := by
                    intro fu
                    induction fu with
                    | zero => intro f lo hi o1 hfu; exact absurd hfu (Nat.not_lt_zero _)
                    | succ fu ih89 =>
                      intro f lo hi o1 hfu hi0 hv1 H locs ls h hl
                      refine lv_iload hx hb dX0_goToNextOrder_89 (lv_at hl 1 rfl) ?_
                      refine lv_iload hx hb dX0_goToNextOrder_91 (lv_at hl 2 rfl) ?_
                      refine lv_icmp_ge (tgt := 113) hx hb dX0_goToNextOrder_93 (by decide) (fun c_93 => ?_) (fun c_93 => ?_)
                      · skip
                        have c_93 := (jle (a := hi) (b := lo) (by omega) (by omega)).mp c_93
                        have ev : o1 = nrv 5 (nsw o k x) (k + 1) (n - 1) := (nrv_e (by omega)).symm.trans hv1
                        refine lv_iconst (v := 1) hx hb dX0_goToNextOrder_113 (by decide) ?_
                        have h := h.arr 2 (g := ro (nxt n o).2) rfl (fun j _ => by rw [en, ev]) rfl
                        exact hret (r := 1) () dX0_goToNextOrder_114 h (rfl) (by rw [en]; rfl)
                      · skip
                        have c_93 : ¬ hi ≤ lo := fun z => c_93 ((jle (a := hi) (b := lo) (by omega) (by omega)).mpr z)
                        obtain ⟨f1, rfl⟩ : ∃ f1, f = f1 + 1 := ⟨f - 1, by omega⟩
                        have c_93 : lo < hi := by omega
                        have ev : nrv f1 (nsw o1 lo hi) (lo + 1) (hi - 1) = nrv 5 (nsw o k x) (k + 1) (n - 1) := (if_pos c_93).symm.trans hv1
                        refine lv_aload_n hx hb dX0_goToNextOrder_96 rfl (lv_at hl 0 rfl) ?_
                        refine lv_iload hx hb dX0_goToNextOrder_97 (lv_at hl 1 rfl) ?_
                        refine lv_iload hx hb dX0_goToNextOrder_99 (lv_at hl 2 rfl) ?_
                        refine k_Vv (rest := []) (as := [.int (nI lo), .int (nI hi)]) (wc := [(h0, .inr (0, [.ref oc, .ref on, .ref ot, .ref b3, .ref b4, .int le])), (b3, .inl (cI, 5, .inl (ro o1)))]) (wr := [(oc, .inr (1, [.ref c5, .ref c6, .int (nI n), .int bar]))]) (isC := [0, 2]) (isR := [1]) (w2 := fun (_ : Unit) => [(h0, .inr (0, [.ref oc, .ref on, .ref ot, .ref b3, .ref b4, .int le])), (oc, .inr (1, [.ref c5, .ref c6, .int (nI n), .int bar])), (b3, .inl (cI, 5, .inl (ro (nsw o1 lo hi))))]) C h (c_X0_swap l D cI cZ kS vS h0 oc on ot b3 b4 le o1 lo hi (by omega) (by omega)) wv_X0_swap rfl ⟨rfl, rfl, rfl, rfl, by decide⟩ fk0 0 rfl ml_RX0_74 [1, 0, 2] rfl (fun _ => rfl) ⟨Nat.le_of_ble_eq_true rfl, Nat.le_of_ble_eq_true rfl⟩ ⟨Nat.le_of_ble_eq_true rfl, Nat.le_of_ble_eq_true rfl⟩ (Nat.le_of_ble_eq_true rfl) hl rfl dX0_goToNextOrder_101 (fun u H locs hq h => ?_)
                        have h : HS D A s H locs [(h0, .inr (0, [.ref oc, .ref on, .ref ot, .ref b3, .ref b4, .int le])), (oc, .inr (1, [.ref c5, .ref c6, .int (nI n), .int bar])), (b3, .inl (cI, 5, .inl (ro (nsw o1 lo hi))))] := h
                        have hq : True := hq
                        refine lv_iinc (v := nI (lo + 1)) (lv' := [(4, .int (nI (lo + 1))), (0, .ref h0), (5, .int (nI hi))]) hx hb dX0_goToNextOrder_104 hl (k := 1) rfl (nI_1 lo) (by decide) rfl (fun ls hl => ?_)
                        refine lv_iinc (v := nI (hi - 1)) (lv' := [(5, .int (nI (hi - 1))), (4, .int (nI (lo + 1))), (0, .ref h0)]) hx hb dX0_goToNextOrder_107 hl (k := 2) rfl (nI_dec (by omega)) (by decide) rfl (fun ls hl => ?_)
                        refine lv_goto (tgt := 89) hx hb dX0_goToNextOrder_110 (by decide) ?_
                        exact ih89  f1 (lo + 1) (hi - 1) (nsw o1 lo hi) (by omega) (by omega) ev _ _ _ h (lv_sub hl [2, 1, 0] rfl)
                  exact L89 ((n - (k + 1)) + 1) 5 (k + 1) (n - 1) (nsw o k x) (by omega) (by omega) rfl _ _ _ h (lv_sub hl [2, 1, 0] rfl)
                · skip
                  have c_51 : ¬ x ≤ k := fun z => c_51 ((jle (a := x) (b := k) (by omega) (by omega)).mpr z)
                  have ox := ho x (by omega)
                  refine lv_aload_n hx hb dX0_goToNextOrder_54 rfl (lv_at hl 0 rfl) ?_
                  refine r_get C h fk0 0 3 rfl (by decide) mf_RX0_9 rfl dX0_goToNextOrder_55 ?_
                  refine lv_iload_n hx hb dX0_goToNextOrder_58 rfl (lv_at hl 3 rfl) ?_
                  refine r_ld C h 2 rfl x (rfl) (by omega) (by decide) (x := nI (o x)) (rfl) dX0_goToNextOrder_59 ?_
                  refine lv_aload_n hx hb dX0_goToNextOrder_60 rfl (lv_at hl 0 rfl) ?_
                  refine r_get C h fk0 0 3 rfl (by decide) mf_RX0_9 rfl dX0_goToNextOrder_61 ?_
                  refine lv_iload_n hx hb dX0_goToNextOrder_64 rfl (lv_at hl 2 rfl) ?_
                  refine r_ld C h 2 rfl k (rfl) (by omega) (by decide) (x := nI (o k)) (rfl) dX0_goToNextOrder_65 ?_
                  refine lv_icmp_ge (tgt := 75) hx hb dX0_goToNextOrder_66 (by decide) (fun c_66 => ?_) (fun c_66 => ?_)
                  · skip
                    have c_66 := (jle (a := (o k)) (b := (o x)) (by omega) (by omega)).mp c_66
                    have ex : nxn o k (n - 1) = x := hx1.symm.trans (nxn_e (by omega))
                    have en : nxt n o = (true, nrv 5 (nsw o k x) (k + 1) (n - 1)) := by unfold nxt; rw [eu, if_neg (Nat.succ_ne_zero k), show k + 1 - 1 = k from rfl, ex]
                    refine lv_aload_n hx hb dX0_goToNextOrder_75 rfl (lv_at hl 0 rfl) ?_
                    refine lv_iload_n hx hb dX0_goToNextOrder_76 rfl (lv_at hl 2 rfl) ?_
                    refine lv_iload_n hx hb dX0_goToNextOrder_77 rfl (lv_at hl 3 rfl) ?_
                    refine k_Vv (rest := []) (as := [.int (nI k), .int (nI x)]) (wc := [(h0, .inr (0, [.ref oc, .ref on, .ref ot, .ref b3, .ref b4, .int le])), (b3, .inl (cI, 5, .inl (ro o)))]) (wr := [(oc, .inr (1, [.ref c5, .ref c6, .int (nI n), .int bar]))]) (isC := [0, 2]) (isR := [1]) (w2 := fun (_ : Unit) => [(h0, .inr (0, [.ref oc, .ref on, .ref ot, .ref b3, .ref b4, .int le])), (oc, .inr (1, [.ref c5, .ref c6, .int (nI n), .int bar])), (b3, .inl (cI, 5, .inl (ro (nsw o k x))))]) C h (c_X0_swap l D cI cZ kS vS h0 oc on ot b3 b4 le o k x (by omega) (by omega)) wv_X0_swap rfl ⟨rfl, rfl, rfl, rfl, by decide⟩ fk0 0 rfl ml_RX0_74 [1, 0, 2] rfl (fun _ => rfl) ⟨Nat.le_of_ble_eq_true rfl, Nat.le_of_ble_eq_true rfl⟩ ⟨Nat.le_of_ble_eq_true rfl, Nat.le_of_ble_eq_true rfl⟩ (Nat.le_of_ble_eq_true rfl) hl rfl dX0_goToNextOrder_78 (fun u H locs hq h => ?_)
                    have h : HS D A s H locs [(h0, .inr (0, [.ref oc, .ref on, .ref ot, .ref b3, .ref b4, .int le])), (oc, .inr (1, [.ref c5, .ref c6, .int (nI n), .int bar])), (b3, .inl (cI, 5, .inl (ro (nsw o k x))))] := h
                    have hq : True := hq
                    refine lv_iload_n hx hb dX0_goToNextOrder_81 rfl (lv_at hl 2 rfl) ?_
                    refine lv_iconst (v := 1) hx hb dX0_goToNextOrder_82 (by decide) ?_
                    refine lv_iadd hx hb dX0_goToNextOrder_83 ?_
                    refine r_top (y := nI (k + 1)) (nI_add k 1) ?_
                    refine lv_istore (lv' := [(4, .int (nI (k + 1))), (0, .ref h0), (1, .int (nI (n - 1))), (2, .int (nI k)), (3, .int (nI x))]) hx hb dX0_goToNextOrder_84 hl (by decide) rfl (fun ls hl => ?_)
                    refine lv_iload_n hx hb dX0_goToNextOrder_86 rfl (lv_at hl 2 rfl) ?_
                    refine lv_istore (lv' := [(5, .int (nI (n - 1))), (4, .int (nI (k + 1))), (0, .ref h0), (1, .int (nI (n - 1))), (2, .int (nI k)), (3, .int (nI x))]) hx hb dX0_goToNextOrder_87 hl (by decide) rfl (fun ls hl => ?_)
                    have L89 : ∀ (fu : Nat) (f : Nat) (lo : Nat) (hi : Nat) (o1 : Nat → Nat), (n - lo) < fu → (hi0 : hi ≤ n - 1 ∧ lo ≤ n ∧ hi < lo + 2 * f) → (hv1 : nrv f o1 lo hi = nrv 5 (nsw o k x) (k + 1) (n - 1)) → ∀ (H : Heap) (locs : List Loc) (ls : Array Slot), HS D A s H locs [(h0, .inr (0, [.ref oc, .ref on, .ref ot, .ref b3, .ref b4, .int le])), (oc, .inr (1, [.ref c5, .ref c6, .int (nI n), .int bar])), (b3, .inl (cI, 5, .inl (ro o1)))] → lv_has ls 6 [(0, .ref h0), (4, .int (nI lo)), (5, .int (nI hi))] → W p l e (rmO 1 23 0 0) s m args below meth c H locs 0 0 Q (F0 m 89 ls []) := by
                      intro fu
                      induction fu with
                      | zero => intro f lo hi o1 hfu; exact absurd hfu (Nat.not_lt_zero _)
                      | succ fu ih89 =>
                        intro f lo hi o1 hfu hi0 hv1 H locs ls h hl
                        refine lv_iload hx hb dX0_goToNextOrder_89 (lv_at hl 1 rfl) ?_
                        refine lv_iload hx hb dX0_goToNextOrder_91 (lv_at hl 2 rfl) ?_
                        refine lv_icmp_ge (tgt := 113) hx hb dX0_goToNextOrder_93 (by decide) (fun c_93 => ?_) (fun c_93 => ?_)
                        · skip
                          have c_93 := (jle (a := hi) (b := lo) (by omega) (by omega)).mp c_93
                          have ev : o1 = nrv 5 (nsw o k x) (k + 1) (n - 1) := (nrv_e (by omega)).symm.trans hv1
                          refine lv_iconst (v := 1) hx hb dX0_goToNextOrder_113 (by decide) ?_
                          have h := h.arr 2 (g := ro (nxt n o).2) rfl (fun j _ => by rw [en, ev]) rfl
                          exact hret (r := 1) () dX0_goToNextOrder_114 h (rfl) (by rw [en]; rfl)
                        · skip
                          have c_93 : ¬ hi ≤ lo := fun z => c_93 ((jle (a := hi) (b := lo) (by omega) (by omega)).mpr z)
                          obtain ⟨f1, rfl⟩ : ∃ f1, f = f1 + 1 := ⟨f - 1, by omega⟩
                          have c_93 : lo < hi := by omega
                          have ev : nrv f1 (nsw o1 lo hi) (lo + 1) (hi - 1) = nrv 5 (nsw o k x) (k + 1) (n - 1) := (if_pos c_93).symm.trans hv1
                          refine lv_aload_n hx hb dX0_goToNextOrder_96 rfl (lv_at hl 0 rfl) ?_
                          refine lv_iload hx hb dX0_goToNextOrder_97 (lv_at hl 1 rfl) ?_
                          refine lv_iload hx hb dX0_goToNextOrder_99 (lv_at hl 2 rfl) ?_
                          refine k_Vv (rest := []) (as := [.int (nI lo), .int (nI hi)]) (wc := [(h0, .inr (0, [.ref oc, .ref on, .ref ot, .ref b3, .ref b4, .int le])), (b3, .inl (cI, 5, .inl (ro o1)))]) (wr := [(oc, .inr (1, [.ref c5, .ref c6, .int (nI n), .int bar]))]) (isC := [0, 2]) (isR := [1]) (w2 := fun (_ : Unit) => [(h0, .inr (0, [.ref oc, .ref on, .ref ot, .ref b3, .ref b4, .int le])), (oc, .inr (1, [.ref c5, .ref c6, .int (nI n), .int bar])), (b3, .inl (cI, 5, .inl (ro (nsw o1 lo hi))))]) C h (c_X0_swap l D cI cZ kS vS h0 oc on ot b3 b4 le o1 lo hi (by omega) (by omega)) wv_X0_swap rfl ⟨rfl, rfl, rfl, rfl, by decide⟩ fk0 0 rfl ml_RX0_74 [1, 0, 2] rfl (fun _ => rfl) ⟨Nat.le_of_ble_eq_true rfl, Nat.le_of_ble_eq_true rfl⟩ ⟨Nat.le_of_ble_eq_true rfl, Nat.le_of_ble_eq_true rfl⟩ (Nat.le_of_ble_eq_true rfl) hl rfl dX0_goToNextOrder_101 (fun u H locs hq h => ?_)
                          have h : HS D A s H locs [(h0, .inr (0, [.ref oc, .ref on, .ref ot, .ref b3, .ref b4, .int le])), (oc, .inr (1, [.ref c5, .ref c6, .int (nI n), .int bar])), (b3, .inl (cI, 5, .inl (ro (nsw o1 lo hi))))] := h
                          have hq : True := hq
                          refine lv_iinc (v := nI (lo + 1)) (lv' := [(4, .int (nI (lo + 1))), (0, .ref h0), (5, .int (nI hi))]) hx hb dX0_goToNextOrder_104 hl (k := 1) rfl (nI_1 lo) (by decide) rfl (fun ls hl => ?_)
                          refine lv_iinc (v := nI (hi - 1)) (lv' := [(5, .int (nI (hi - 1))), (4, .int (nI (lo + 1))), (0, .ref h0)]) hx hb dX0_goToNextOrder_107 hl (k := 2) rfl (nI_dec (by omega)) (by decide) rfl (fun ls hl => ?_)
                          refine lv_goto (tgt := 89) hx hb dX0_goToNextOrder_110 (by decide) ?_
                          exact ih89  f1 (lo + 1) (hi - 1) (nsw o1 lo hi) (by omega) (by omega) ev _ _ _ h (lv_sub hl [2, 1, 0] rfl)
                    exact L89 ((n - (k + 1)) + 1) 5 (k + 1) (n - 1) (nsw o k x) (by omega) (by omega) rfl _ _ _ h (lv_sub hl [2, 1, 0] rfl)
                  · skip
                    have c_66 : ¬ (o k) ≤ (o x) := fun z => c_66 ((jle (a := (o k)) (b := (o x)) (by omega) (by omega)).mpr z)
                    have ex : nxn o k (x - 1) = nxn o k (n - 1) := (nxn_s (by omega) ⟨by omega, by omega⟩).symm.trans hx1
                    refine lv_iinc (v := nI (x - 1)) (lv' := [(3, .int (nI (x - 1))), (0, .ref h0), (1, .int (nI (n - 1))), (2, .int (nI k))]) hx hb dX0_goToNextOrder_69 hl (k := 3) rfl (nI_dec (by omega)) (by decide) rfl (fun ls hl => ?_)
                    refine lv_goto (tgt := 49) hx hb dX0_goToNextOrder_72 (by decide) ?_
                    exact ih49  (x - 1) (by omega) (by omega) ex _ _ _ h (lv_sub hl [1, 2, 3, 0] rfl)
            exact L49 ((n - 1) + 1) (n - 1) (by omega) (by omega) rfl _ _ _ h (lv_sub hl [1, 2, 3, 0] rfl)
          · skip
            have c_42 : ¬ 0 ≤ k := fun z => c_42 ((jle (a := 0) (b := k) (by omega) (by omega)).mpr z)
            exact absurd (Nat.zero_le k) c_42
        · skip
          have c_32 : ¬ (o k) ≤ (o (k + 1)) := fun z => c_32 ((jle (a := (o k)) (b := (o (k + 1))) (by omega) (by omega)).mpr z)
          have c_32 : o (k + 1) < o k := by omega
          have eu : nxu o k = nxu o (n - 1) := (if_pos c_32).symm.trans hu1
          refine lv_iinc (v := tmn k) (lv' := [(2, .int (tmn k)), (0, .ref h0), (1, .int (nI (n - 1)))]) hx hb dX0_goToNextOrder_35 hl (k := 2) rfl (tmn_d k) (by decide) rfl (fun ls hl => ?_)
          refine lv_goto (tgt := 14) hx hb dX0_goToNextOrder_38 (by decide) ?_
          exact ih14  k (by omega) (by omega) eu _ _ _ h (lv_sub hl [1, 2, 0] rfl)
  exact L14 ((n - 1) + 1) (n - 1) (by omega) (by first | assumption | omega) rfl _ _ _ h (lv_sub hl [2, 1, 0] rfl)

set_option maxHeartbeats 4000000 in
set_option maxRecDepth 100000 in
theorem c_X0_find (l : Launch) (D : va_G) (cI cZ : ClassId) (kS vS : Nat) (h0 : Nat) (oc : Nat) (on : Nat) (ot : Nat) (b3 : Nat) (b4 : Nat) (t2 : Nat) (t3 : Nat) (t4 : Nat) (n2 : Nat) (n3 : Nat) (n4 : Nat) (c5 : Nat) (c6 : Nat) (n : Nat) (bar : Int32) (K : Nat → Int32) (F : Nat → Int32) (w : Nat → Int32) (ρ : Nat → Nat) (tk : Nat → Int32) (hr : Int32) (to : Int32) (hv : Int32) (tv : Int32) (tw : Nat → Int32) (tk2 : Nat → Int32) (tr : Nat → Int32) (le : Int32) (o0 : Nat → Nat) (f0 : Nat → Int32) (hn2 : 2 ≤ n) (hn5 : n ≤ 5) : CV l yX0_find cX0_find 3 D cI cZ kS vS 5 109 0 0 [.ref h0] [(h0, .inr (0, [.ref oc, .ref on, .ref ot, .ref b3, .ref b4, .int le])), (ot, .inr (5, [.ref oc, .ref t2, .ref t3, .ref t4, .int hv, .int tv])), (t2, .inl (cI, 5, .inl tw)), (t3, .inl (cI, 5, .inl tk2)), (t4, .inl (cI, 5, .inl tr)), (on, .inr (5, [.ref oc, .ref n2, .ref n3, .ref n4, .int hr, .int to])), (n2, .inl (cI, 5, .inl w)), (n3, .inl (cI, 5, .inl tk)), (n4, .inl (cI, 5, .inl (ro ρ))), (oc, .inr (1, [.ref c5, .ref c6, .int (nI n), .int bar])), (c5, .inl (cI, 5, .inl K)), (c6, .inl (cI, 5, .inl F)), (b3, .inl (cI, 5, .inl (ro o0))), (b4, .inl (cI, 5, .inl f0))] (fun (u : Int32 × Int32 × (Nat → Int32) × (Nat → Int32) × (Nat → Int32) × (Nat → Nat) × (Nat → Int32)) => (∀ j, j < n → u.2.2.2.2.2.2 j = nI (lg (cst (hvl n K F bar w) (PL n) ((PL n).length - 1)).2 j))) (fun (u : Int32 × Int32 × (Nat → Int32) × (Nat → Int32) × (Nat → Int32) × (Nat → Nat) × (Nat → Int32)) => [(h0, .inr (0, [.ref oc, .ref on, .ref ot, .ref b3, .ref b4, .int (cst (hvl n K F bar w) (PL n) ((PL n).length - 1)).1])), (ot, .inr (5, [.ref oc, .ref t2, .ref t3, .ref t4, .int u.1, .int u.2.1])), (t2, .inl (cI, 5, .inl u.2.2.1)), (t3, .inl (cI, 5, .inl u.2.2.2.1)), (t4, .inl (cI, 5, .inl u.2.2.2.2.1)), (on, .inr (5, [.ref oc, .ref n2, .ref n3, .ref n4, .int hr, .int to])), (n2, .inl (cI, 5, .inl w)), (n3, .inl (cI, 5, .inl tk)), (n4, .inl (cI, 5, .inl (ro ρ))), (oc, .inr (1, [.ref c5, .ref c6, .int (nI n), .int bar])), (c5, .inl (cI, 5, .inl K)), (c6, .inl (cI, 5, .inl F)), (b3, .inl (cI, 5, .inl (ro u.2.2.2.2.2.1))), (b4, .inl (cI, 5, .inl u.2.2.2.2.2.2))]) := by
  refine CV_intro (by decide) (Nat.le_of_ble_eq_true rfl) ?_
  intro p e s m args below meth c A Q ls C hini h hret hl
  have C : CX p s m args c cX0_find 3 RX0 D cI cZ kS vS A := C
  have hx := C.1.1
  have hb := C.1.2.1
  have hl : lv_has ls 3 [(0, .ref h0)] := hl
  have h6 : n < 6 := by omega
  have hT := tb1 n h6 hn2
  refine lv_iconst (v := 0) hx hb dX0_find_0 (by decide) ?_
  refine lv_istore_n (lv' := [(1, .int 0), (0, .ref h0)]) hx hb dX0_find_1 rfl hl (by decide) rfl (fun ls hl => ?_)
  have L2 : ∀ (fu : Nat) (i : Nat), (n - i) < fu → (hi : i ≤ n) → ∀ (H : Heap) (locs : List Loc) (ls : Array Slot), HS D A s H locs [(h0, .inr (0, [.ref oc, .ref on, .ref ot, .ref b3, .ref b4, .int le])), (ot, .inr (5, [.ref oc, .ref t2, .ref t3, .ref t4, .int hv, .int tv])), (t2, .inl (cI, 5, .inl tw)), (t3, .inl (cI, 5, .inl tk2)), (t4, .inl (cI, 5, .inl tr)), (on, .inr (5, [.ref oc, .ref n2, .ref n3, .ref n4, .int hr, .int to])), (n2, .inl (cI, 5, .inl w)), (n3, .inl (cI, 5, .inl tk)), (n4, .inl (cI, 5, .inl (ro ρ))), (oc, .inr (1, [.ref c5, .ref c6, .int (nI n), .int bar])), (c5, .inl (cI, 5, .inl K)), (c6, .inl (cI, 5, .inl F)), (b3, .inl (cI, 5, .inl (ro (idn i o0)))), (b4, .inl (cI, 5, .inl f0))] → lv_has ls 3 [(0, .ref h0), (1, .int (nI i))] → W p l e (rmO 5 109 0 0) s m args below meth c H locs 0 0 Q (F0 m 2 ls []) := by
    intro fu
    induction fu with
    | zero => intro i hfu; exact absurd hfu (Nat.not_lt_zero _)
    | succ fu ih2 =>
      intro i hfu hi H locs ls h hl
      refine lv_iload_n hx hb dX0_find_2 rfl (lv_at hl 1 rfl) ?_
      refine lv_aload_n hx hb dX0_find_3 rfl (lv_at hl 0 rfl) ?_
      refine r_get C h fk0 0 0 rfl (by decide) mf_RX0_18 rfl dX0_find_4 ?_
      refine r_getN C h fk1 9 2 7 rfl (by decide) rfl rfl dX0_find_7 ?_
      refine lv_icmp_ge (tgt := 26) hx hb dX0_find_10 (by decide) (fun c_10 => ?_) (fun c_10 => ?_)
      · skip
        have c_10 := (jle (a := n) (b := i) (by omega) (by omega)).mp c_10
        obtain rfl : n = i := by omega
        have hpo0 := osq_pm h6 hn2 o0 (k := 0) (by omega)
        have h := h.arr 12 (g := ro (osq n o0 0)) rfl (fun j _ => rfl) rfl
        refine lv_aload_n hx hb dX0_find_26 rfl (lv_at hl 0 rfl) ?_
        refine lv_aload_n hx hb dX0_find_27 rfl (lv_at hl 0 rfl) ?_
        refine k_Vi (rest := [.ref h0]) (as := []) (wc := [(h0, .inr (0, [.ref oc, .ref on, .ref ot, .ref b3, .ref b4, .int le])), (ot, .inr (5, [.ref oc, .ref t2, .ref t3, .ref t4, .int hv, .int tv])), (t2, .inl (cI, 5, .inl tw)), (t3, .inl (cI, 5, .inl tk2)), (t4, .inl (cI, 5, .inl tr)), (on, .inr (5, [.ref oc, .ref n2, .ref n3, .ref n4, .int hr, .int to])), (n2, .inl (cI, 5, .inl w)), (n3, .inl (cI, 5, .inl tk)), (n4, .inl (cI, 5, .inl (ro ρ))), (oc, .inr (1, [.ref c5, .ref c6, .int (nI n), .int bar])), (c5, .inl (cI, 5, .inl K)), (c6, .inl (cI, 5, .inl F)), (b3, .inl (cI, 5, .inl (ro (osq n o0 0))))]) (wr := [(b4, .inl (cI, 5, .inl f0))]) (isC := [0, 1, 2, 3, 4, 5, 6, 7, 8, 9, 10, 11, 12]) (isR := [13]) (w2 := fun (u : Int32 × Int32 × (Nat → Int32) × (Nat → Int32) × (Nat → Int32)) => [(h0, .inr (0, [.ref oc, .ref on, .ref ot, .ref b3, .ref b4, .int le])), (ot, .inr (5, [.ref oc, .ref t2, .ref t3, .ref t4, .int u.1, .int u.2.1])), (t2, .inl (cI, 5, .inl u.2.2.1)), (t3, .inl (cI, 5, .inl u.2.2.2.1)), (t4, .inl (cI, 5, .inl u.2.2.2.2)), (on, .inr (5, [.ref oc, .ref n2, .ref n3, .ref n4, .int hr, .int to])), (n2, .inl (cI, 5, .inl w)), (n3, .inl (cI, 5, .inl tk)), (n4, .inl (cI, 5, .inl (ro ρ))), (oc, .inr (1, [.ref c5, .ref c6, .int (nI n), .int bar])), (c5, .inl (cI, 5, .inl K)), (c6, .inl (cI, 5, .inl F)), (b3, .inl (cI, 5, .inl (ro (osq n o0 0)))), (b4, .inl (cI, 5, .inl f0))]) C h (c_X0_waterBehindOrder l D cI cZ kS vS h0 oc on ot b3 b4 t2 t3 t4 n2 n3 n4 c5 c6 n bar K F w ρ tk hr to hv tv tw tk2 tr le (osq n o0 0) hn2 hn5 hpo0) wv_X0_waterBehindOrder rfl ⟨rfl, rfl, rfl, rfl, by decide⟩ fk0 0 rfl ml_RX0_40 [1, 2, 3, 4, 5, 6, 7, 8, 9, 10, 11, 12, 13, 0] rfl (fun _ => rfl) ⟨Nat.le_of_ble_eq_true rfl, Nat.le_of_ble_eq_true rfl⟩ ⟨Nat.le_of_ble_eq_true rfl, Nat.le_of_ble_eq_true rfl⟩ (Nat.le_of_ble_eq_true rfl) hl rfl dX0_find_28 (fun r u H locs hq h => ?_)
        obtain ⟨uh28, ut28, uw28, uk28, ur28⟩ := u
        have h : HS D A s H locs [(h0, .inr (0, [.ref oc, .ref on, .ref ot, .ref b3, .ref b4, .int le])), (ot, .inr (5, [.ref oc, .ref t2, .ref t3, .ref t4, .int uh28, .int ut28])), (t2, .inl (cI, 5, .inl uw28)), (t3, .inl (cI, 5, .inl uk28)), (t4, .inl (cI, 5, .inl ur28)), (on, .inr (5, [.ref oc, .ref n2, .ref n3, .ref n4, .int hr, .int to])), (n2, .inl (cI, 5, .inl w)), (n3, .inl (cI, 5, .inl tk)), (n4, .inl (cI, 5, .inl (ro ρ))), (oc, .inr (1, [.ref c5, .ref c6, .int (nI n), .int bar])), (c5, .inl (cI, 5, .inl K)), (c6, .inl (cI, 5, .inl F)), (b3, .inl (cI, 5, .inl (ro (osq n o0 0)))), (b4, .inl (cI, 5, .inl f0))] := h
        have hq : r = hsm n K F bar w (osq n o0 0) 10 := hq
        have hq := hq.symm
        subst hq
        refine k_Vv (rest := []) (as := [.int (hsm n K F bar w (osq n o0 0) 10)]) (wc := [(h0, .inr (0, [.ref oc, .ref on, .ref ot, .ref b3, .ref b4, .int le])), (b3, .inl (cI, 5, .inl (ro (osq n o0 0)))), (b4, .inl (cI, 5, .inl f0))]) (wr := [(ot, .inr (5, [.ref oc, .ref t2, .ref t3, .ref t4, .int uh28, .int ut28])), (t2, .inl (cI, 5, .inl uw28)), (t3, .inl (cI, 5, .inl uk28)), (t4, .inl (cI, 5, .inl ur28)), (on, .inr (5, [.ref oc, .ref n2, .ref n3, .ref n4, .int hr, .int to])), (n2, .inl (cI, 5, .inl w)), (n3, .inl (cI, 5, .inl tk)), (n4, .inl (cI, 5, .inl (ro ρ))), (oc, .inr (1, [.ref c5, .ref c6, .int (nI n), .int bar])), (c5, .inl (cI, 5, .inl K)), (c6, .inl (cI, 5, .inl F))]) (isC := [0, 12, 13]) (isR := [1, 2, 3, 4, 5, 6, 7, 8, 9, 10, 11]) (w2 := fun (_ : Unit) => [(h0, .inr (0, [.ref oc, .ref on, .ref ot, .ref b3, .ref b4, .int (hsm n K F bar w (osq n o0 0) 10)])), (ot, .inr (5, [.ref oc, .ref t2, .ref t3, .ref t4, .int uh28, .int ut28])), (t2, .inl (cI, 5, .inl uw28)), (t3, .inl (cI, 5, .inl uk28)), (t4, .inl (cI, 5, .inl ur28)), (on, .inr (5, [.ref oc, .ref n2, .ref n3, .ref n4, .int hr, .int to])), (n2, .inl (cI, 5, .inl w)), (n3, .inl (cI, 5, .inl tk)), (n4, .inl (cI, 5, .inl (ro ρ))), (oc, .inr (1, [.ref c5, .ref c6, .int (nI n), .int bar])), (c5, .inl (cI, 5, .inl K)), (c6, .inl (cI, 5, .inl F)), (b3, .inl (cI, 5, .inl (ro (osq n o0 0)))), (b4, .inl (cI, 5, .inl (ro (osq n o0 0))))]) C h (c_X0_keepAsFound l D cI cZ kS vS h0 oc on ot b3 b4 le (hsm n K F bar w (osq n o0 0) 10) (ro (osq n o0 0)) f0 ) wv_X0_keepAsFound rfl ⟨rfl, rfl, rfl, rfl, by decide⟩ fk0 0 rfl ml_RX0_44 [11, 0, 1, 2, 3, 4, 5, 6, 7, 8, 9, 10, 12, 13] rfl (fun _ => rfl) ⟨Nat.le_of_ble_eq_true rfl, Nat.le_of_ble_eq_true rfl⟩ ⟨Nat.le_of_ble_eq_true rfl, Nat.le_of_ble_eq_true rfl⟩ (Nat.le_of_ble_eq_true rfl) hl rfl dX0_find_31 (fun u H locs hq h => ?_)
        have h : HS D A s H locs [(h0, .inr (0, [.ref oc, .ref on, .ref ot, .ref b3, .ref b4, .int (hsm n K F bar w (osq n o0 0) 10)])), (ot, .inr (5, [.ref oc, .ref t2, .ref t3, .ref t4, .int uh28, .int ut28])), (t2, .inl (cI, 5, .inl uw28)), (t3, .inl (cI, 5, .inl uk28)), (t4, .inl (cI, 5, .inl ur28)), (on, .inr (5, [.ref oc, .ref n2, .ref n3, .ref n4, .int hr, .int to])), (n2, .inl (cI, 5, .inl w)), (n3, .inl (cI, 5, .inl tk)), (n4, .inl (cI, 5, .inl (ro ρ))), (oc, .inr (1, [.ref c5, .ref c6, .int (nI n), .int bar])), (c5, .inl (cI, 5, .inl K)), (c6, .inl (cI, 5, .inl F)), (b3, .inl (cI, 5, .inl (ro (osq n o0 0)))), (b4, .inl (cI, 5, .inl (ro (osq n o0 0))))] := h
        have hq : True := hq
        refine lv_iconst (v := 1) hx hb dX0_find_34 (by decide) ?_
        refine lv_istore_n (lv' := [(1, .int 1), (0, .ref h0)]) hx hb dX0_find_35 rfl hl (by decide) rfl (fun ls hl => ?_)
        have L36 : ∀ (fu : Nat) (k : Nat) (hv1 : Int32) (tv1 : Int32) (tw1 : Nat → Int32) (tk1 : Nat → Int32) (tr1 : Nat → Int32) (f1 : Nat → Nat), ((PL n).length - k) < fu → (hk0 : k < (PL n).length) → (hf : ∀ j, j < n → f1 j = lg (cst (hvl n K F bar w) (PL n) k).2 j) → ∀ (H : Heap) (locs : List Loc) (ls : Array Slot), HS D A s H locs [(h0, .inr (0, [.ref oc, .ref on, .ref ot, .ref b3, .ref b4, .int (cst (hvl n K F bar w) (PL n) k).1])), (ot, .inr (5, [.ref oc, .ref t2, .ref t3, .ref t4, .int hv1, .int tv1])), (t2, .inl (cI, 5, .inl tw1)), (t3, .inl (cI, 5, .inl tk1)), (t4, .inl (cI, 5, .inl tr1)), (on, .inr (5, [.ref oc, .ref n2, .ref n3, .ref n4, .int hr, .int to])), (n2, .inl (cI, 5, .inl w)), (n3, .inl (cI, 5, .inl tk)), (n4, .inl (cI, 5, .inl (ro ρ))), (oc, .inr (1, [.ref c5, .ref c6, .int (nI n), .int bar])), (c5, .inl (cI, 5, .inl K)), (c6, .inl (cI, 5, .inl F)), (b3, .inl (cI, 5, .inl (ro (osq n o0 k)))), (b4, .inl (cI, 5, .inl (ro f1)))] → lv_has ls 3 [(0, .ref h0), (1, .int (nI (k + 1)))] → W p l e (rmO 5 109 0 0) s m args below meth c H locs 0 0 Q (F0 m 36 ls []) := by
          intro fu
          induction fu with
          | zero => intro k hv1 tv1 tw1 tk1 tr1 f1 hfu; exact absurd hfu (Nat.not_lt_zero _)
          | succ fu ih36 =>
            intro k hv1 tv1 tw1 tk1 tr1 f1 hfu hk0 hf H locs ls h hl
            refine lv_iload_n hx hb dX0_find_36 rfl (lv_at hl 1 rfl) ?_
            refine lv_bipush (v := 120) hx hb dX0_find_37 (by decide) ?_
            refine lv_icmp_ge (tgt := 73) hx hb dX0_find_39 (by decide) (fun c_39 => ?_) (fun c_39 => ?_)
            · skip
              have c_39 := (jle (a := 120) (b := (k + 1)) (by omega) (by omega)).mp c_39
              have ek : k = (PL n).length - 1 := by omega
              have ef : (cst (hvl n K F bar w) (PL n) k).1 = (cst (hvl n K F bar w) (PL n) ((PL n).length - 1)).1 := by rw [ek]
              have h : HS D A s H locs [(h0, .inr (0, [.ref oc, .ref on, .ref ot, .ref b3, .ref b4, .int (cst (hvl n K F bar w) (PL n) ((PL n).length - 1)).1])), (ot, .inr (5, [.ref oc, .ref t2, .ref t3, .ref t4, .int hv1, .int tv1])), (t2, .inl (cI, 5, .inl tw1)), (t3, .inl (cI, 5, .inl tk1)), (t4, .inl (cI, 5, .inl tr1)), (on, .inr (5, [.ref oc, .ref n2, .ref n3, .ref n4, .int hr, .int to])), (n2, .inl (cI, 5, .inl w)), (n3, .inl (cI, 5, .inl tk)), (n4, .inl (cI, 5, .inl (ro ρ))), (oc, .inr (1, [.ref c5, .ref c6, .int (nI n), .int bar])), (c5, .inl (cI, 5, .inl K)), (c6, .inl (cI, 5, .inl F)), (b3, .inl (cI, 5, .inl (ro (osq n o0 k)))), (b4, .inl (cI, 5, .inl (ro f1)))] := by rw [← ef]; exact h
              exact hret (⟨hv1, tv1, tw1, tk1, tr1, osq n o0 k, ro f1⟩) dX0_find_73 h (fun j hj => by rw [← ek]; exact congrArg nI (hf j hj))
            · skip
              have c_39 : ¬ 120 ≤ (k + 1) := fun z => c_39 ((jle (a := 120) (b := (k + 1)) (by omega) (by omega)).mpr z)
              have hpk := osq_pm h6 hn2 o0 hk0
              refine lv_aload_n hx hb dX0_find_42 rfl (lv_at hl 0 rfl) ?_
              refine k_Vi (rest := []) (as := []) (wc := [(h0, .inr (0, [.ref oc, .ref on, .ref ot, .ref b3, .ref b4, .int (cst (hvl n K F bar w) (PL n) k).1])), (oc, .inr (1, [.ref c5, .ref c6, .int (nI n), .int bar])), (b3, .inl (cI, 5, .inl (ro (osq n o0 k))))]) (wr := [(ot, .inr (5, [.ref oc, .ref t2, .ref t3, .ref t4, .int hv1, .int tv1])), (t2, .inl (cI, 5, .inl tw1)), (t3, .inl (cI, 5, .inl tk1)), (t4, .inl (cI, 5, .inl tr1)), (on, .inr (5, [.ref oc, .ref n2, .ref n3, .ref n4, .int hr, .int to])), (n2, .inl (cI, 5, .inl w)), (n3, .inl (cI, 5, .inl tk)), (n4, .inl (cI, 5, .inl (ro ρ))), (c5, .inl (cI, 5, .inl K)), (c6, .inl (cI, 5, .inl F)), (b4, .inl (cI, 5, .inl (ro f1)))]) (isC := [0, 9, 12]) (isR := [1, 2, 3, 4, 5, 6, 7, 8, 10, 11, 13]) (w2 := fun (_ : Unit) => [(h0, .inr (0, [.ref oc, .ref on, .ref ot, .ref b3, .ref b4, .int (cst (hvl n K F bar w) (PL n) k).1])), (ot, .inr (5, [.ref oc, .ref t2, .ref t3, .ref t4, .int hv1, .int tv1])), (t2, .inl (cI, 5, .inl tw1)), (t3, .inl (cI, 5, .inl tk1)), (t4, .inl (cI, 5, .inl tr1)), (on, .inr (5, [.ref oc, .ref n2, .ref n3, .ref n4, .int hr, .int to])), (n2, .inl (cI, 5, .inl w)), (n3, .inl (cI, 5, .inl tk)), (n4, .inl (cI, 5, .inl (ro ρ))), (oc, .inr (1, [.ref c5, .ref c6, .int (nI n), .int bar])), (c5, .inl (cI, 5, .inl K)), (c6, .inl (cI, 5, .inl F)), (b3, .inl (cI, 5, .inl (ro (nxt n (osq n o0 k)).2))), (b4, .inl (cI, 5, .inl (ro f1)))]) C h (c_X0_goToNextOrder l D cI cZ kS vS h0 oc on ot b3 b4 c5 c6 n bar (cst (hvl n K F bar w) (PL n) k).1 (osq n o0 k) hn2 hn5 hpk.1) wv_X0_goToNextOrder rfl ⟨rfl, rfl, rfl, rfl, by decide⟩ fk0 0 rfl ml_RX0_48 [11, 0, 1, 2, 3, 4, 5, 6, 7, 12, 8, 9, 13, 10] rfl (fun _ => rfl) ⟨Nat.le_of_ble_eq_true rfl, Nat.le_of_ble_eq_true rfl⟩ ⟨Nat.le_of_ble_eq_true rfl, Nat.le_of_ble_eq_true rfl⟩ (Nat.le_of_ble_eq_true rfl) hl rfl dX0_find_43 (fun r u H locs hq h => ?_)
              have h : HS D A s H locs [(h0, .inr (0, [.ref oc, .ref on, .ref ot, .ref b3, .ref b4, .int (cst (hvl n K F bar w) (PL n) k).1])), (ot, .inr (5, [.ref oc, .ref t2, .ref t3, .ref t4, .int hv1, .int tv1])), (t2, .inl (cI, 5, .inl tw1)), (t3, .inl (cI, 5, .inl tk1)), (t4, .inl (cI, 5, .inl tr1)), (on, .inr (5, [.ref oc, .ref n2, .ref n3, .ref n4, .int hr, .int to])), (n2, .inl (cI, 5, .inl w)), (n3, .inl (cI, 5, .inl tk)), (n4, .inl (cI, 5, .inl (ro ρ))), (oc, .inr (1, [.ref c5, .ref c6, .int (nI n), .int bar])), (c5, .inl (cI, 5, .inl K)), (c6, .inl (cI, 5, .inl F)), (b3, .inl (cI, 5, .inl (ro (nxt n (osq n o0 k)).2))), (b4, .inl (cI, 5, .inl (ro f1)))] := h
              have hq : r = bI (nxt n (osq n o0 k)).1 := hq
              have hq := hq.symm
              subst hq
              have h := h.arr 12 (g := ro (osq n o0 (k + 1))) rfl (fun j _ => rfl) rfl
              refine lv_if_eq (tgt := 73) hx hb dX0_find_46 (by decide) (fun c_46 => ?_) (fun c_46 => ?_)
              · skip
                have ek : k = (PL n).length - 1 := Decidable.byContradiction (fun z => by have t := osq_t h6 hn2 o0 (k := k) (by omega); rw [bI_0.mp c_46] at t; cases t)
                have ef : (cst (hvl n K F bar w) (PL n) k).1 = (cst (hvl n K F bar w) (PL n) ((PL n).length - 1)).1 := by rw [ek]
                have h : HS D A s H locs [(h0, .inr (0, [.ref oc, .ref on, .ref ot, .ref b3, .ref b4, .int (cst (hvl n K F bar w) (PL n) ((PL n).length - 1)).1])), (ot, .inr (5, [.ref oc, .ref t2, .ref t3, .ref t4, .int hv1, .int tv1])), (t2, .inl (cI, 5, .inl tw1)), (t3, .inl (cI, 5, .inl tk1)), (t4, .inl (cI, 5, .inl tr1)), (on, .inr (5, [.ref oc, .ref n2, .ref n3, .ref n4, .int hr, .int to])), (n2, .inl (cI, 5, .inl w)), (n3, .inl (cI, 5, .inl tk)), (n4, .inl (cI, 5, .inl (ro ρ))), (oc, .inr (1, [.ref c5, .ref c6, .int (nI n), .int bar])), (c5, .inl (cI, 5, .inl K)), (c6, .inl (cI, 5, .inl F)), (b3, .inl (cI, 5, .inl (ro (osq n o0 (k + 1))))), (b4, .inl (cI, 5, .inl (ro f1)))] := by rw [← ef]; exact h
                exact hret (⟨hv1, tv1, tw1, tk1, tr1, osq n o0 (k + 1), ro f1⟩) dX0_find_73 h (fun j hj => by rw [← ek]; exact congrArg nI (hf j hj))
              · skip
                have hk1 : k + 1 < (PL n).length := Decidable.byContradiction (fun z => by have t := osq_f h6 hn2 o0 (k := k) (by omega); rw [bI_n0.mp c_46] at t; cases t)
                have hpk1 := osq_pm h6 hn2 o0 hk1
                have ev : hsm n K F bar w (osq n o0 (k + 1)) 10 = hvl n K F bar w ((PL n).getD (k + 1) []) := hvl_of hn2 (osq_lf h6 hn2 o0 (k + 1) hk1)
                refine lv_aload_n hx hb dX0_find_49 rfl (lv_at hl 0 rfl) ?_
                refine k_Vi (rest := []) (as := []) (wc := [(h0, .inr (0, [.ref oc, .ref on, .ref ot, .ref b3, .ref b4, .int (cst (hvl n K F bar w) (PL n) k).1])), (ot, .inr (5, [.ref oc, .ref t2, .ref t3, .ref t4, .int hv1, .int tv1])), (t2, .inl (cI, 5, .inl tw1)), (t3, .inl (cI, 5, .inl tk1)), (t4, .inl (cI, 5, .inl tr1)), (on, .inr (5, [.ref oc, .ref n2, .ref n3, .ref n4, .int hr, .int to])), (n2, .inl (cI, 5, .inl w)), (n3, .inl (cI, 5, .inl tk)), (n4, .inl (cI, 5, .inl (ro ρ))), (oc, .inr (1, [.ref c5, .ref c6, .int (nI n), .int bar])), (c5, .inl (cI, 5, .inl K)), (c6, .inl (cI, 5, .inl F)), (b3, .inl (cI, 5, .inl (ro (osq n o0 (k + 1)))))]) (wr := [(b4, .inl (cI, 5, .inl (ro f1)))]) (isC := [0, 1, 2, 3, 4, 5, 6, 7, 8, 9, 10, 11, 12]) (isR := [13]) (w2 := fun (u : Int32 × Int32 × (Nat → Int32) × (Nat → Int32) × (Nat → Int32)) => [(h0, .inr (0, [.ref oc, .ref on, .ref ot, .ref b3, .ref b4, .int (cst (hvl n K F bar w) (PL n) k).1])), (ot, .inr (5, [.ref oc, .ref t2, .ref t3, .ref t4, .int u.1, .int u.2.1])), (t2, .inl (cI, 5, .inl u.2.2.1)), (t3, .inl (cI, 5, .inl u.2.2.2.1)), (t4, .inl (cI, 5, .inl u.2.2.2.2)), (on, .inr (5, [.ref oc, .ref n2, .ref n3, .ref n4, .int hr, .int to])), (n2, .inl (cI, 5, .inl w)), (n3, .inl (cI, 5, .inl tk)), (n4, .inl (cI, 5, .inl (ro ρ))), (oc, .inr (1, [.ref c5, .ref c6, .int (nI n), .int bar])), (c5, .inl (cI, 5, .inl K)), (c6, .inl (cI, 5, .inl F)), (b3, .inl (cI, 5, .inl (ro (osq n o0 (k + 1))))), (b4, .inl (cI, 5, .inl (ro f1)))]) C h (c_X0_waterBehindOrder l D cI cZ kS vS h0 oc on ot b3 b4 t2 t3 t4 n2 n3 n4 c5 c6 n bar K F w ρ tk hr to hv1 tv1 tw1 tk1 tr1 (cst (hvl n K F bar w) (PL n) k).1 (osq n o0 (k + 1)) hn2 hn5 hpk1) wv_X0_waterBehindOrder rfl ⟨rfl, rfl, rfl, rfl, by decide⟩ fk0 0 rfl ml_RX0_40 [1, 2, 3, 4, 5, 6, 7, 8, 9, 10, 11, 12, 13, 0] rfl (fun _ => rfl) ⟨Nat.le_of_ble_eq_true rfl, Nat.le_of_ble_eq_true rfl⟩ ⟨Nat.le_of_ble_eq_true rfl, Nat.le_of_ble_eq_true rfl⟩ (Nat.le_of_ble_eq_true rfl) hl rfl dX0_find_50 (fun r u H locs hq h => ?_)
                obtain ⟨uh50, ut50, uw50, uk50, ur50⟩ := u
                have h : HS D A s H locs [(h0, .inr (0, [.ref oc, .ref on, .ref ot, .ref b3, .ref b4, .int (cst (hvl n K F bar w) (PL n) k).1])), (ot, .inr (5, [.ref oc, .ref t2, .ref t3, .ref t4, .int uh50, .int ut50])), (t2, .inl (cI, 5, .inl uw50)), (t3, .inl (cI, 5, .inl uk50)), (t4, .inl (cI, 5, .inl ur50)), (on, .inr (5, [.ref oc, .ref n2, .ref n3, .ref n4, .int hr, .int to])), (n2, .inl (cI, 5, .inl w)), (n3, .inl (cI, 5, .inl tk)), (n4, .inl (cI, 5, .inl (ro ρ))), (oc, .inr (1, [.ref c5, .ref c6, .int (nI n), .int bar])), (c5, .inl (cI, 5, .inl K)), (c6, .inl (cI, 5, .inl F)), (b3, .inl (cI, 5, .inl (ro (osq n o0 (k + 1))))), (b4, .inl (cI, 5, .inl (ro f1)))] := h
                have hq : r = hsm n K F bar w (osq n o0 (k + 1)) 10 := hq
                have hq := hq.symm
                subst hq
                refine r_top (y := hvl n K F bar w ((PL n).getD (k + 1) [])) (ev) ?_
                refine lv_istore_n (lv' := [(2, .int (hvl n K F bar w ((PL n).getD (k + 1) []))), (0, .ref h0), (1, .int (nI (k + 1)))]) hx hb dX0_find_53 rfl hl (by decide) rfl (fun ls hl => ?_)
                refine lv_iload_n hx hb dX0_find_54 rfl (lv_at hl 0 rfl) ?_
                refine lv_aload_n hx hb dX0_find_55 rfl (lv_at hl 1 rfl) ?_
                refine r_get C h fk0 0 5 rfl (by decide) mf_RX0_52 rfl dX0_find_56 ?_
                refine lv_icmp_ge (tgt := 67) hx hb dX0_find_59 (by decide) (fun c_59 => ?_) (fun c_59 => ?_)
                · skip
                  have ec : (cst (hvl n K F bar w) (PL n) (k + 1)) = (cst (hvl n K F bar w) (PL n) k) := if_pos c_59
                  have hf2 : ∀ j, j < n → f1 j = lg (cst (hvl n K F bar w) (PL n) (k + 1)).2 j := fun j hj => by rw [ec]; exact hf j hj
                  refine lv_iinc (v := nI ((k + 1) + 1)) (lv' := [(1, .int (nI ((k + 1) + 1))), (2, .int (hvl n K F bar w ((PL n).getD (k + 1) []))), (0, .ref h0)]) hx hb dX0_find_67 hl (k := 2) rfl (nI_1 (k + 1)) (by decide) rfl (fun ls hl => ?_)
                  refine lv_goto (tgt := 36) hx hb dX0_find_70 (by decide) ?_
                  have ef : (cst (hvl n K F bar w) (PL n) k).1 = (cst (hvl n K F bar w) (PL n) (k + 1)).1 := by rw [ec]
                  have h : HS D A s H locs [(h0, .inr (0, [.ref oc, .ref on, .ref ot, .ref b3, .ref b4, .int (cst (hvl n K F bar w) (PL n) (k + 1)).1])), (ot, .inr (5, [.ref oc, .ref t2, .ref t3, .ref t4, .int uh50, .int ut50])), (t2, .inl (cI, 5, .inl uw50)), (t3, .inl (cI, 5, .inl uk50)), (t4, .inl (cI, 5, .inl ur50)), (on, .inr (5, [.ref oc, .ref n2, .ref n3, .ref n4, .int hr, .int to])), (n2, .inl (cI, 5, .inl w)), (n3, .inl (cI, 5, .inl tk)), (n4, .inl (cI, 5, .inl (ro ρ))), (oc, .inr (1, [.ref c5, .ref c6, .int (nI n), .int bar])), (c5, .inl (cI, 5, .inl K)), (c6, .inl (cI, 5, .inl F)), (b3, .inl (cI, 5, .inl (ro (osq n o0 (k + 1))))), (b4, .inl (cI, 5, .inl (ro f1)))] := by rw [← ef]; exact h
                  exact ih36  (k + 1) uh50 ut50 uw50 uk50 ur50 f1 (by omega) (by omega) hf2 _ _ _ h (lv_sub hl [2, 0] rfl)
                · skip
                  have ec : (cst (hvl n K F bar w) (PL n) (k + 1)) = (hvl n K F bar w ((PL n).getD (k + 1) []), (PL n).getD (k + 1) []) := if_neg c_59
                  have hf2 : ∀ j, j < n → osq n o0 (k + 1) j = lg (cst (hvl n K F bar w) (PL n) (k + 1)).2 j := fun j hj => by rw [ec]; exact osq_lf h6 hn2 o0 (k + 1) hk1 j hj
                  refine lv_aload_n hx hb dX0_find_62 rfl (lv_at hl 1 rfl) ?_
                  refine lv_iload_n hx hb dX0_find_63 rfl (lv_at hl 0 rfl) ?_
                  refine k_Vv (rest := []) (as := [.int (hvl n K F bar w ((PL n).getD (k + 1) []))]) (wc := [(h0, .inr (0, [.ref oc, .ref on, .ref ot, .ref b3, .ref b4, .int (cst (hvl n K F bar w) (PL n) k).1])), (b3, .inl (cI, 5, .inl (ro (osq n o0 (k + 1))))), (b4, .inl (cI, 5, .inl (ro f1)))]) (wr := [(ot, .inr (5, [.ref oc, .ref t2, .ref t3, .ref t4, .int uh50, .int ut50])), (t2, .inl (cI, 5, .inl uw50)), (t3, .inl (cI, 5, .inl uk50)), (t4, .inl (cI, 5, .inl ur50)), (on, .inr (5, [.ref oc, .ref n2, .ref n3, .ref n4, .int hr, .int to])), (n2, .inl (cI, 5, .inl w)), (n3, .inl (cI, 5, .inl tk)), (n4, .inl (cI, 5, .inl (ro ρ))), (oc, .inr (1, [.ref c5, .ref c6, .int (nI n), .int bar])), (c5, .inl (cI, 5, .inl K)), (c6, .inl (cI, 5, .inl F))]) (isC := [0, 12, 13]) (isR := [1, 2, 3, 4, 5, 6, 7, 8, 9, 10, 11]) (w2 := fun (_ : Unit) => [(h0, .inr (0, [.ref oc, .ref on, .ref ot, .ref b3, .ref b4, .int (hvl n K F bar w ((PL n).getD (k + 1) []))])), (ot, .inr (5, [.ref oc, .ref t2, .ref t3, .ref t4, .int uh50, .int ut50])), (t2, .inl (cI, 5, .inl uw50)), (t3, .inl (cI, 5, .inl uk50)), (t4, .inl (cI, 5, .inl ur50)), (on, .inr (5, [.ref oc, .ref n2, .ref n3, .ref n4, .int hr, .int to])), (n2, .inl (cI, 5, .inl w)), (n3, .inl (cI, 5, .inl tk)), (n4, .inl (cI, 5, .inl (ro ρ))), (oc, .inr (1, [.ref c5, .ref c6, .int (nI n), .int bar])), (c5, .inl (cI, 5, .inl K)), (c6, .inl (cI, 5, .inl F)), (b3, .inl (cI, 5, .inl (ro (osq n o0 (k + 1))))), (b4, .inl (cI, 5, .inl (ro (osq n o0 (k + 1)))))]) C h (c_X0_keepAsFound l D cI cZ kS vS h0 oc on ot b3 b4 (cst (hvl n K F bar w) (PL n) k).1 (hvl n K F bar w ((PL n).getD (k + 1) [])) (ro (osq n o0 (k + 1))) (ro f1) ) wv_X0_keepAsFound rfl ⟨rfl, rfl, rfl, rfl, by decide⟩ fk0 0 rfl ml_RX0_44 [11, 0, 1, 2, 3, 4, 5, 6, 7, 8, 9, 10, 12, 13] rfl (fun _ => rfl) ⟨Nat.le_of_ble_eq_true rfl, Nat.le_of_ble_eq_true rfl⟩ ⟨Nat.le_of_ble_eq_true rfl, Nat.le_of_ble_eq_true rfl⟩ (Nat.le_of_ble_eq_true rfl) hl rfl dX0_find_64 (fun u H locs hq h => ?_)
                  have h : HS D A s H locs [(h0, .inr (0, [.ref oc, .ref on, .ref ot, .ref b3, .ref b4, .int (hvl n K F bar w ((PL n).getD (k + 1) []))])), (ot, .inr (5, [.ref oc, .ref t2, .ref t3, .ref t4, .int uh50, .int ut50])), (t2, .inl (cI, 5, .inl uw50)), (t3, .inl (cI, 5, .inl uk50)), (t4, .inl (cI, 5, .inl ur50)), (on, .inr (5, [.ref oc, .ref n2, .ref n3, .ref n4, .int hr, .int to])), (n2, .inl (cI, 5, .inl w)), (n3, .inl (cI, 5, .inl tk)), (n4, .inl (cI, 5, .inl (ro ρ))), (oc, .inr (1, [.ref c5, .ref c6, .int (nI n), .int bar])), (c5, .inl (cI, 5, .inl K)), (c6, .inl (cI, 5, .inl F)), (b3, .inl (cI, 5, .inl (ro (osq n o0 (k + 1))))), (b4, .inl (cI, 5, .inl (ro (osq n o0 (k + 1)))))] := h
                  have hq : True := hq
                  refine lv_iinc (v := nI ((k + 1) + 1)) (lv' := [(1, .int (nI ((k + 1) + 1))), (2, .int (hvl n K F bar w ((PL n).getD (k + 1) []))), (0, .ref h0)]) hx hb dX0_find_67 hl (k := 2) rfl (nI_1 (k + 1)) (by decide) rfl (fun ls hl => ?_)
                  refine lv_goto (tgt := 36) hx hb dX0_find_70 (by decide) ?_
                  have ef : (hvl n K F bar w ((PL n).getD (k + 1) [])) = (cst (hvl n K F bar w) (PL n) (k + 1)).1 := by rw [ec]
                  have h : HS D A s H locs [(h0, .inr (0, [.ref oc, .ref on, .ref ot, .ref b3, .ref b4, .int (cst (hvl n K F bar w) (PL n) (k + 1)).1])), (ot, .inr (5, [.ref oc, .ref t2, .ref t3, .ref t4, .int uh50, .int ut50])), (t2, .inl (cI, 5, .inl uw50)), (t3, .inl (cI, 5, .inl uk50)), (t4, .inl (cI, 5, .inl ur50)), (on, .inr (5, [.ref oc, .ref n2, .ref n3, .ref n4, .int hr, .int to])), (n2, .inl (cI, 5, .inl w)), (n3, .inl (cI, 5, .inl tk)), (n4, .inl (cI, 5, .inl (ro ρ))), (oc, .inr (1, [.ref c5, .ref c6, .int (nI n), .int bar])), (c5, .inl (cI, 5, .inl K)), (c6, .inl (cI, 5, .inl F)), (b3, .inl (cI, 5, .inl (ro (osq n o0 (k + 1))))), (b4, .inl (cI, 5, .inl (ro (osq n o0 (k + 1)))))] := by rw [← ef]; exact h
                  exact ih36  (k + 1) uh50 ut50 uw50 uk50 ur50 (osq n o0 (k + 1)) (by omega) (by omega) hf2 _ _ _ h (lv_sub hl [2, 0] rfl)
        have ef : (hsm n K F bar w (osq n o0 0) 10) = (cst (hvl n K F bar w) (PL n) 0).1 := hvl_of hn2 (osq_lf h6 hn2 o0 0 (by omega))
        have h : HS D A s H locs [(h0, .inr (0, [.ref oc, .ref on, .ref ot, .ref b3, .ref b4, .int (cst (hvl n K F bar w) (PL n) 0).1])), (ot, .inr (5, [.ref oc, .ref t2, .ref t3, .ref t4, .int uh28, .int ut28])), (t2, .inl (cI, 5, .inl uw28)), (t3, .inl (cI, 5, .inl uk28)), (t4, .inl (cI, 5, .inl ur28)), (on, .inr (5, [.ref oc, .ref n2, .ref n3, .ref n4, .int hr, .int to])), (n2, .inl (cI, 5, .inl w)), (n3, .inl (cI, 5, .inl tk)), (n4, .inl (cI, 5, .inl (ro ρ))), (oc, .inr (1, [.ref c5, .ref c6, .int (nI n), .int bar])), (c5, .inl (cI, 5, .inl K)), (c6, .inl (cI, 5, .inl F)), (b3, .inl (cI, 5, .inl (ro (osq n o0 0)))), (b4, .inl (cI, 5, .inl (ro (osq n o0 0))))] := by rw [← ef]; exact h
        exact L36 (((PL n).length - 0) + 1) 0 uh28 ut28 uw28 uk28 ur28 (osq n o0 0) (by omega) (by omega) (osq_lf h6 hn2 o0 0 (by omega)) _ _ _ h (lv_sub hl [1, 0] rfl)
      · skip
        have c_10 : ¬ n ≤ i := fun z => c_10 ((jle (a := n) (b := i) (by omega) (by omega)).mpr z)
        have hlt : i < n := by omega
        refine lv_aload_n hx hb dX0_find_13 rfl (lv_at hl 0 rfl) ?_
        refine r_get C h fk0 0 3 rfl (by decide) mf_RX0_9 rfl dX0_find_14 ?_
        refine lv_iload_n hx hb dX0_find_17 rfl (lv_at hl 1 rfl) ?_
        refine lv_iload_n hx hb dX0_find_18 rfl (lv_at hl 1 rfl) ?_
        refine r_st C h 12 rfl i (rfl) (by omega) (by decide) (g := ro (un (idn i o0) i i)) (fun j _ => ro_un j) (ws' := [(h0, .inr (0, [.ref oc, .ref on, .ref ot, .ref b3, .ref b4, .int le])), (ot, .inr (5, [.ref oc, .ref t2, .ref t3, .ref t4, .int hv, .int tv])), (t2, .inl (cI, 5, .inl tw)), (t3, .inl (cI, 5, .inl tk2)), (t4, .inl (cI, 5, .inl tr)), (on, .inr (5, [.ref oc, .ref n2, .ref n3, .ref n4, .int hr, .int to])), (n2, .inl (cI, 5, .inl w)), (n3, .inl (cI, 5, .inl tk)), (n4, .inl (cI, 5, .inl (ro ρ))), (oc, .inr (1, [.ref c5, .ref c6, .int (nI n), .int bar])), (c5, .inl (cI, 5, .inl K)), (c6, .inl (cI, 5, .inl F)), (b3, .inl (cI, 5, .inl (ro (un (idn i o0) i i)))), (b4, .inl (cI, 5, .inl f0))]) rfl dX0_find_19 (fun H locs h => ?_)
        refine lv_iinc (v := nI (i + 1)) (lv' := [(1, .int (nI (i + 1))), (0, .ref h0)]) hx hb dX0_find_20 hl (k := 1) rfl (nI_1 i) (by decide) rfl (fun ls hl => ?_)
        refine lv_goto (tgt := 2) hx hb dX0_find_23 (by decide) ?_
        have h := h.arr 12 (g := ro (idn (i + 1) o0)) rfl (fun j _ => congrArg nI (idn_s i j)) rfl
        exact ih2  (i + 1) (by omega) (by first | assumption | omega) _ _ _ h (lv_sub hl [1, 0] rfl)
  have h := h.arr 12 (g := ro (idn 0 o0)) rfl (fun j _ => congrArg nI (idn_0 o0 j)) rfl
  exact L2 ((n - 0) + 1) 0 (by omega) (by first | assumption | omega) _ _ _ h (lv_sub hl [1, 0] rfl)

