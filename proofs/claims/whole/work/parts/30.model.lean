set_option maxHeartbeats 4000000 in
set_option maxRecDepth 100000 in
theorem c_X8_in (l : Launch) (D : va_G) (cI cZ : ClassId) (kS vS : Nat) (v : Int64) (lo : Int64) (hi : Int64)  : CI l yX8_in cX8_in 6 .boolean D cI cZ kS vS 0 0 0 0 [.long v, .long lo, .long hi] [] (fun (r : Int32) (_ : Unit) => r = bI (lin v lo hi)) (fun (_ : Unit) => []) := by
  refine CI_intro (by decide) (Nat.le_of_ble_eq_true rfl) ?_
  intro p e s m args below meth c A Q ls C h hret hl
  have C : CX p s m args c cX8_in 6 RX8 D cI cZ kS vS A := C
  have hx := C.1.1
  have hb := C.1.2.1
  have hl : lv_has ls 6 [(0, .long v), (2, .long lo), (4, .long hi)] := hl
  refine lv_lload_n hx hb dX8_in_0 rfl (lv_at hl 0 rfl) ?_
  refine lv_lload_n hx hb dX8_in_1 rfl (lv_at hl 1 rfl) ?_
  refine W.lcmp hx hb dX8_in_2 ?_
  refine lv_if_lt (tgt := 17) hx hb dX8_in_3 (by decide) (fun c_3 => ?_) (fun c_3 => ?_)
  · skip
    refine lv_iconst (v := 0) hx hb dX8_in_17 (by decide) ?_
    exact hret (r := 0) () dX8_in_18 h (rfl) (by simp [lin, bI, c_3])
  · skip
    refine lv_lload_n hx hb dX8_in_6 rfl (lv_at hl 0 rfl) ?_
    refine lv_lload hx hb dX8_in_7 (lv_at hl 2 rfl) ?_
    refine W.lcmp hx hb dX8_in_9 ?_
    refine lv_if_gt (tgt := 17) hx hb dX8_in_10 (by decide) (fun c_10 => ?_) (fun c_10 => ?_)
    · skip
      refine lv_iconst (v := 0) hx hb dX8_in_17 (by decide) ?_
      exact hret (r := 0) () dX8_in_18 h (rfl) (by simp [lin, bI, c_3, c_10])
    · skip
      refine lv_iconst (v := 1) hx hb dX8_in_13 (by decide) ?_
      refine lv_goto (tgt := 18) hx hb dX8_in_14 (by decide) ?_
      exact hret (r := 1) () dX8_in_18 h (rfl) (by simp [lin, bI, c_3, c_10])

set_option maxHeartbeats 4000000 in
set_option maxRecDepth 100000 in
theorem c_X8_copy5 (l : Launch) (D : va_G) (cI cZ : ClassId) (kS vS : Nat) (a0 : Nat) (a1 : Nat) (f : Nat → Int32) (g : Nat → Int32)  : CV l yX8_copy cX8_copy 3 D cI cZ kS vS 0 0 0 0 [.ref a0, .ref a1] [(a0, .inl (cI, 5, .inl f)), (a1, .inl (cI, 5, .inl g))] (fun (_ : Unit) => True) (fun (_ : Unit) => [(a0, .inl (cI, 5, .inl f)), (a1, .inl (cI, 5, .inl f))]) := by
  refine CV_intro (by decide) (Nat.le_of_ble_eq_true rfl) ?_
  intro p e s m args below meth c A Q ls C hini h hret hl
  have C : CX p s m args c cX8_copy 3 RX8 D cI cZ kS vS A := C
  have hx := C.1.1
  have hb := C.1.2.1
  have hl : lv_has ls 3 [(0, .ref a0), (1, .ref a1)] := hl
  refine lv_iconst (v := 0) hx hb dX8_copy_0 (by decide) ?_
  refine lv_istore_n (lv' := [(2, .int 0), (0, .ref a0), (1, .ref a1)]) hx hb dX8_copy_1 rfl hl (by decide) rfl (fun ls hl => ?_)
  have L2 : ∀ (fu : Nat) (i : Nat), (5 - i) < fu → (hi : i ≤ 5) → ∀ (H : Heap) (locs : List Loc) (ls : Array Slot), HS D A s H locs [(a0, .inl (cI, 5, .inl f)), (a1, .inl (cI, 5, .inl (va_cpy f g 0 0 i)))] → lv_has ls 3 [(0, .ref a0), (1, .ref a1), (2, .int (nI i))] → W p l e (rmO 0 0 0 0) s m args below meth c H locs 0 0 Q (F0 m 2 ls []) := by
    intro fu
    induction fu with
    | zero => intro i hfu; exact absurd hfu (Nat.not_lt_zero _)
    | succ fu ih2 =>
      intro i hfu hi H locs ls h hl
      refine lv_iload_n hx hb dX8_copy_2 rfl (lv_at hl 2 rfl) ?_
      refine lv_aload_n hx hb dX8_copy_3 rfl (lv_at hl 0 rfl) ?_
      refine r_alen C h 0 rfl dX8_copy_4 ?_
      refine lv_icmp_ge (tgt := 20) hx hb dX8_copy_5 (by decide) (fun c_5 => ?_) (fun c_5 => ?_)
      · skip
        have c_5 := (jle (a := 5) (b := i) (by omega) (by omega)).mp c_5
        obtain rfl : 5 = i := by omega
        have h := h.arr 1 (g := f) rfl (fun j hj => cpy_all hj) rfl
        exact hret () dX8_copy_20 h (trivial)
      · skip
        have c_5 : ¬ 5 ≤ i := fun z => c_5 ((jle (a := 5) (b := i) (by omega) (by omega)).mpr z)
        have hlt : i < 5 := by omega
        refine lv_aload_n hx hb dX8_copy_8 rfl (lv_at hl 1 rfl) ?_
        refine lv_iload_n hx hb dX8_copy_9 rfl (lv_at hl 2 rfl) ?_
        refine lv_aload_n hx hb dX8_copy_10 rfl (lv_at hl 0 rfl) ?_
        refine lv_iload_n hx hb dX8_copy_11 rfl (lv_at hl 2 rfl) ?_
        refine r_ld C h 0 rfl i (rfl) (by omega) (by decide) (x := f i) (rfl) dX8_copy_12 ?_
        refine r_st C h 1 rfl i (rfl) (by omega) (by decide) (g := upd (va_cpy f g 0 0 i) i (f i)) (fun _ _ => rfl) (ws' := [(a0, .inl (cI, 5, .inl f)), (a1, .inl (cI, 5, .inl (upd (va_cpy f g 0 0 i) i (f i))))]) rfl dX8_copy_13 (fun H locs h => ?_)
        refine lv_iinc (v := nI (i + 1)) (lv' := [(2, .int (nI (i + 1))), (0, .ref a0), (1, .ref a1)]) hx hb dX8_copy_14 hl (k := 2) rfl (nI_1 i) (by decide) rfl (fun ls hl => ?_)
        refine lv_goto (tgt := 2) hx hb dX8_copy_17 (by decide) ?_
        have h := h.arr 1 (g := va_cpy f g 0 0 (i + 1)) rfl (fun j _ => cpy_s j) rfl
        exact ih2  (i + 1) (by omega) (by first | assumption | omega) _ _ _ h (lv_sub hl [1, 2, 0] rfl)
  have h := h.arr 1 (g := va_cpy f g 0 0 0) rfl (fun j _ => cpy_0 j) rfl
  exact L2 ((5 - 0) + 1) 0 (by omega) (by first | assumption | omega) _ _ _ h (lv_sub hl [1, 2, 0] rfl)

set_option maxHeartbeats 4000000 in
set_option maxRecDepth 100000 in
theorem c_X8_copy18 (l : Launch) (D : va_G) (cI cZ : ClassId) (kS vS : Nat) (a0 : Nat) (a1 : Nat) (f : Nat → Int32) (g : Nat → Int32)  : CV l yX8_copy cX8_copy 3 D cI cZ kS vS 0 0 0 0 [.ref a0, .ref a1] [(a0, .inl (cI, 18, .inl f)), (a1, .inl (cI, 18, .inl g))] (fun (_ : Unit) => True) (fun (_ : Unit) => [(a0, .inl (cI, 18, .inl f)), (a1, .inl (cI, 18, .inl f))]) := by
  refine CV_intro (by decide) (Nat.le_of_ble_eq_true rfl) ?_
  intro p e s m args below meth c A Q ls C hini h hret hl
  have C : CX p s m args c cX8_copy 3 RX8 D cI cZ kS vS A := C
  have hx := C.1.1
  have hb := C.1.2.1
  have hl : lv_has ls 3 [(0, .ref a0), (1, .ref a1)] := hl
  refine lv_iconst (v := 0) hx hb dX8_copy_0 (by decide) ?_
  refine lv_istore_n (lv' := [(2, .int 0), (0, .ref a0), (1, .ref a1)]) hx hb dX8_copy_1 rfl hl (by decide) rfl (fun ls hl => ?_)
  have L2 : ∀ (fu : Nat) (i : Nat), (18 - i) < fu → (hi : i ≤ 18) → ∀ (H : Heap) (locs : List Loc) (ls : Array Slot), HS D A s H locs [(a0, .inl (cI, 18, .inl f)), (a1, .inl (cI, 18, .inl (va_cpy f g 0 0 i)))] → lv_has ls 3 [(0, .ref a0), (1, .ref a1), (2, .int (nI i))] → W p l e (rmO 0 0 0 0) s m args below meth c H locs 0 0 Q (F0 m 2 ls []) := by
    intro fu
    induction fu with
    | zero => intro i hfu; exact absurd hfu (Nat.not_lt_zero _)
    | succ fu ih2 =>
      intro i hfu hi H locs ls h hl
      refine lv_iload_n hx hb dX8_copy_2 rfl (lv_at hl 2 rfl) ?_
      refine lv_aload_n hx hb dX8_copy_3 rfl (lv_at hl 0 rfl) ?_
      refine r_alen C h 0 rfl dX8_copy_4 ?_
      refine lv_icmp_ge (tgt := 20) hx hb dX8_copy_5 (by decide) (fun c_5 => ?_) (fun c_5 => ?_)
      · skip
        have c_5 := (jle (a := 18) (b := i) (by omega) (by omega)).mp c_5
        obtain rfl : 18 = i := by omega
        have h := h.arr 1 (g := f) rfl (fun j hj => cpy_all hj) rfl
        exact hret () dX8_copy_20 h (trivial)
      · skip
        have c_5 : ¬ 18 ≤ i := fun z => c_5 ((jle (a := 18) (b := i) (by omega) (by omega)).mpr z)
        have hlt : i < 18 := by omega
        refine lv_aload_n hx hb dX8_copy_8 rfl (lv_at hl 1 rfl) ?_
        refine lv_iload_n hx hb dX8_copy_9 rfl (lv_at hl 2 rfl) ?_
        refine lv_aload_n hx hb dX8_copy_10 rfl (lv_at hl 0 rfl) ?_
        refine lv_iload_n hx hb dX8_copy_11 rfl (lv_at hl 2 rfl) ?_
        refine r_ld C h 0 rfl i (rfl) (by omega) (by decide) (x := f i) (rfl) dX8_copy_12 ?_
        refine r_st C h 1 rfl i (rfl) (by omega) (by decide) (g := upd (va_cpy f g 0 0 i) i (f i)) (fun _ _ => rfl) (ws' := [(a0, .inl (cI, 18, .inl f)), (a1, .inl (cI, 18, .inl (upd (va_cpy f g 0 0 i) i (f i))))]) rfl dX8_copy_13 (fun H locs h => ?_)
        refine lv_iinc (v := nI (i + 1)) (lv' := [(2, .int (nI (i + 1))), (0, .ref a0), (1, .ref a1)]) hx hb dX8_copy_14 hl (k := 2) rfl (nI_1 i) (by decide) rfl (fun ls hl => ?_)
        refine lv_goto (tgt := 2) hx hb dX8_copy_17 (by decide) ?_
        have h := h.arr 1 (g := va_cpy f g 0 0 (i + 1)) rfl (fun j _ => cpy_s j) rfl
        exact ih2  (i + 1) (by omega) (by first | assumption | omega) _ _ _ h (lv_sub hl [1, 2, 0] rfl)
  have h := h.arr 1 (g := va_cpy f g 0 0 0) rfl (fun j _ => cpy_0 j) rfl
  exact L2 ((18 - 0) + 1) 0 (by omega) (by first | assumption | omega) _ _ _ h (lv_sub hl [1, 2, 0] rfl)

set_option maxHeartbeats 4000000 in
set_option maxRecDepth 100000 in
theorem c_X8_lacks (l : Launch) (D : va_G) (cI cZ : ClassId) (kS vS : Nat) (p0 : Nat) (p1 : Nat) (p2 : Nat) (p3 : Nat) (p4 : Nat) (p5 : Nat) (p6 : Nat) (p7 : Nat) (p8 : Nat) (p9 : Nat) (p10 : Nat) (p11 : Nat) (p12 : Nat) (p13 : Nat) (p14 : Nat) (p15 : Nat) (p16 : Nat) (p17 : Nat) (n : Nat) (pgm : Int32) (rdm : Int32) (rdb : Int32) (stt : Int32) (bar : Int32) (hrs : Int32) (crd : Int32) (tof : Int32) (tmu : Int32) (bdn : Int32) (snm : Int32) (sdn : Int32) (kcs : Int32) (khr : Int32) (ksn : Int32) (hlg : Int64) (hn5 : n ≤ 5) : CI l yX8_lacks cX8_lacks 1 .boolean D cI cZ kS vS 0 0 0 0 [.ref p0] [(p0, .inr (8, [.ref p1, .int pgm, .ref p2, .int rdm, .int rdb, .int stt, .int (nI n), .int bar, .int hrs, .int crd, .ref p3, .ref p4, .ref p5, .ref p6, .ref p7, .int tof, .int tmu, .ref p8, .ref p9, .int bdn, .ref p10, .int snm, .ref p11, .ref p12, .ref p13, .int sdn, .int kcs, .int khr, .int ksn, .ref p14, .ref p15, .ref p16, .ref p17, .long hlg]))] (fun (r : Int32) (_ : Unit) => r = bI (decide (n = 0))) (fun (_ : Unit) => [(p0, .inr (8, [.ref p1, .int pgm, .ref p2, .int rdm, .int rdb, .int stt, .int (nI n), .int bar, .int hrs, .int crd, .ref p3, .ref p4, .ref p5, .ref p6, .ref p7, .int tof, .int tmu, .ref p8, .ref p9, .int bdn, .ref p10, .int snm, .ref p11, .ref p12, .ref p13, .int sdn, .int kcs, .int khr, .int ksn, .ref p14, .ref p15, .ref p16, .ref p17, .long hlg]))]) := by
  refine CI_intro (by decide) (Nat.le_of_ble_eq_true rfl) ?_
  intro p e s m args below meth c A Q ls C h hret hl
  have C : CX p s m args c cX8_lacks 1 RX8 D cI cZ kS vS A := C
  have hx := C.1.1
  have hb := C.1.2.1
  have hl : lv_has ls 1 [(0, .ref p0)] := hl
  refine lv_aload_n hx hb dX8_lacks_0 rfl (lv_at hl 0 rfl) ?_
  refine r_get C h fk8 0 6 rfl (by decide) mf_RX8_99 rfl dX8_lacks_1 ?_
  refine lv_if_ne (tgt := 11) hx hb dX8_lacks_4 (by decide) (fun c_4 => ?_) (fun c_4 => ?_)
  · skip
    have c_4 : ¬ n = 0 := fun z => c_4 ((jeq (a := n) (b := 0) (by omega) (by omega)).mpr z)
    refine lv_iconst (v := 0) hx hb dX8_lacks_11 (by decide) ?_
    exact hret (r := 0) () dX8_lacks_12 h (rfl) (by simp [bI, c_4])
  · skip
    have c_4 := (jeq (a := n) (b := 0) (by omega) (by omega)).mp c_4
    refine lv_iconst (v := 1) hx hb dX8_lacks_7 (by decide) ?_
    refine lv_goto (tgt := 12) hx hb dX8_lacks_8 (by decide) ?_
    exact hret (r := 1) () dX8_lacks_12 h (rfl) (by simp [bI, c_4])

set_option maxHeartbeats 4000000 in
set_option maxRecDepth 100000 in
theorem c_X8_isRiver (l : Launch) (D : va_G) (cI cZ : ClassId) (kS vS : Nat) (p0 : Nat) (p1 : Nat) (p2 : Nat) (p3 : Nat) (p4 : Nat) (p5 : Nat) (p6 : Nat) (p7 : Nat) (p8 : Nat) (p9 : Nat) (p10 : Nat) (p11 : Nat) (p12 : Nat) (p13 : Nat) (p14 : Nat) (p15 : Nat) (p16 : Nat) (p17 : Nat) (n : Nat) (pgm : Int32) (rdm : Int32) (rdb : Int32) (stt : Int32) (bar : Int32) (hrs : Int32) (crd : Int32) (tof : Int32) (tmu : Int32) (bdn : Int32) (snm : Int32) (sdn : Int32) (kcs : Int32) (khr : Int32) (ksn : Int32) (hlg : Int64) (x : Int32) (hn5 : n ≤ 5) : CI l yX8_isRiver cX8_isRiver 2 .boolean D cI cZ kS vS 1 25 0 0 [.ref p0, .int x] [(p0, .inr (8, [.ref p1, .int pgm, .ref p2, .int rdm, .int rdb, .int stt, .int (nI n), .int bar, .int hrs, .int crd, .ref p3, .ref p4, .ref p5, .ref p6, .ref p7, .int tof, .int tmu, .ref p8, .ref p9, .int bdn, .ref p10, .int snm, .ref p11, .ref p12, .ref p13, .int sdn, .int kcs, .int khr, .int ksn, .ref p14, .ref p15, .ref p16, .ref p17, .long hlg]))] (fun (r : Int32) (_ : Unit) => r = bI (hin (nI n) x)) (fun (_ : Unit) => [(p0, .inr (8, [.ref p1, .int pgm, .ref p2, .int rdm, .int rdb, .int stt, .int (nI n), .int bar, .int hrs, .int crd, .ref p3, .ref p4, .ref p5, .ref p6, .ref p7, .int tof, .int tmu, .ref p8, .ref p9, .int bdn, .ref p10, .int snm, .ref p11, .ref p12, .ref p13, .int sdn, .int kcs, .int khr, .int ksn, .ref p14, .ref p15, .ref p16, .ref p17, .long hlg]))]) := by
  refine CI_intro (by decide) (Nat.le_of_ble_eq_true rfl) ?_
  intro p e s m args below meth c A Q ls C h hret hl
  have C : CX p s m args c cX8_isRiver 2 RX8 D cI cZ kS vS A := C
  have hx := C.1.1
  have hb := C.1.2.1
  have hl : lv_has ls 2 [(0, .ref p0), (1, .int x)] := hl
  refine lv_iload_n hx hb dX8_isRiver_0 rfl (lv_at hl 1 rfl) ?_
  refine lv_i2l hx hb dX8_isRiver_1 rfl ?_
  refine lv_lconst (v := 0) hx hb dX8_isRiver_2 (by decide) ?_
  refine lv_aload_n hx hb dX8_isRiver_3 rfl (lv_at hl 0 rfl) ?_
  refine r_get C h fk8 0 6 rfl (by decide) mf_RX8_99 rfl dX8_isRiver_4 ?_
  refine lv_iconst (v := 1) hx hb dX8_isRiver_7 (by decide) ?_
  refine lv_isub hx hb dX8_isRiver_8 ?_
  refine lv_i2l hx hb dX8_isRiver_9 rfl ?_
  refine k_Si (rest := []) (as := [.long (Int32.toInt64 x), .long 0, .long (Int32.toInt64 ((nI n) - 1))]) (wc := []) (wr := [(p0, .inr (8, [.ref p1, .int pgm, .ref p2, .int rdm, .int rdb, .int stt, .int (nI n), .int bar, .int hrs, .int crd, .ref p3, .ref p4, .ref p5, .ref p6, .ref p7, .int tof, .int tmu, .ref p8, .ref p9, .int bdn, .ref p10, .int snm, .ref p11, .ref p12, .ref p13, .int sdn, .int kcs, .int khr, .int ksn, .ref p14, .ref p15, .ref p16, .ref p17, .long hlg]))]) (isC := []) (isR := [0]) (w2 := fun (_ : Unit) => [(p0, .inr (8, [.ref p1, .int pgm, .ref p2, .int rdm, .int rdb, .int stt, .int (nI n), .int bar, .int hrs, .int crd, .ref p3, .ref p4, .ref p5, .ref p6, .ref p7, .int tof, .int tmu, .ref p8, .ref p9, .int bdn, .ref p10, .int snm, .ref p11, .ref p12, .ref p13, .int sdn, .int kcs, .int khr, .int ksn, .ref p14, .ref p15, .ref p16, .ref p17, .long hlg]))]) C h (c_X8_in l D cI cZ kS vS (Int32.toInt64 x) 0 (Int32.toInt64 ((nI n) - 1)) ) wv_X8_in rfl ⟨rfl, rfl, rfl, rfl, by decide⟩ ml_RX8_67 [0] rfl (fun _ => rfl) ⟨Nat.le_of_ble_eq_true rfl, Nat.le_of_ble_eq_true rfl⟩ ⟨Nat.le_of_ble_eq_true rfl, Nat.le_of_ble_eq_true rfl⟩ (Nat.le_of_ble_eq_true rfl) hl rfl dX8_isRiver_10 (fun r u H locs hq h => ?_)
  have h : HS D A s H locs [(p0, .inr (8, [.ref p1, .int pgm, .ref p2, .int rdm, .int rdb, .int stt, .int (nI n), .int bar, .int hrs, .int crd, .ref p3, .ref p4, .ref p5, .ref p6, .ref p7, .int tof, .int tmu, .ref p8, .ref p9, .int bdn, .ref p10, .int snm, .ref p11, .ref p12, .ref p13, .int sdn, .int kcs, .int khr, .int ksn, .ref p14, .ref p15, .ref p16, .ref p17, .long hlg]))] := h
  have hq : r = bI (lin (Int32.toInt64 x) 0 (Int32.toInt64 ((nI n) - 1))) := hq
  have hq := hq.symm
  subst hq
  refine r_top (y := bI (hin (nI n) x)) (congrArg bI (lin_hin (by omega) x)) ?_
  exact hret (r := bI (hin (nI n) x)) () dX8_isRiver_13 h (bI_nar _) (rfl)

set_option maxHeartbeats 4000000 in
set_option maxRecDepth 100000 in
theorem c_X8_pushes (l : Launch) (D : va_G) (cI cZ : ClassId) (kS vS : Nat) (p0 : Nat) (p1 : Nat) (p2 : Nat) (p3 : Nat) (p4 : Nat) (p5 : Nat) (p6 : Nat) (p7 : Nat) (p8 : Nat) (p9 : Nat) (p10 : Nat) (p11 : Nat) (p12 : Nat) (p13 : Nat) (p14 : Nat) (p15 : Nat) (p16 : Nat) (p17 : Nat) (n : Nat) (pgm : Int32) (rdm : Int32) (rdb : Int32) (stt : Int32) (bar : Int32) (hrs : Int32) (crd : Int32) (tof : Int32) (tmu : Int32) (bdn : Int32) (snm : Int32) (sdn : Int32) (kcs : Int32) (khr : Int32) (ksn : Int32) (hlg : Int64) (w : Nat → Int32) (K : Nat → Int32) (b : Nat) (a : Nat) (hb5 : b < 5) (ha5 : a < 5) (hK : K b = 0 ∨ K b = 1 ∨ K b = 2 ∨ K b = 3 ∨ K b = 4) : CI l yX8_pushes cX8_pushes 6 .boolean D cI cZ kS vS 0 0 0 0 [.ref p0, .int (nI b), .int (nI a)] [(p0, .inr (8, [.ref p1, .int pgm, .ref p2, .int rdm, .int rdb, .int stt, .int (nI n), .int bar, .int hrs, .int crd, .ref p3, .ref p4, .ref p5, .ref p6, .ref p7, .int tof, .int tmu, .ref p8, .ref p9, .int bdn, .ref p10, .int snm, .ref p11, .ref p12, .ref p13, .int sdn, .int kcs, .int khr, .int ksn, .ref p14, .ref p15, .ref p16, .ref p17, .long hlg])), (p3, .inl (cI, 5, .inl K)), (p5, .inl (cI, 5, .inl w))] (fun (r : Int32) (_ : Unit) => r = bI (hps K w b a)) (fun (_ : Unit) => [(p0, .inr (8, [.ref p1, .int pgm, .ref p2, .int rdm, .int rdb, .int stt, .int (nI n), .int bar, .int hrs, .int crd, .ref p3, .ref p4, .ref p5, .ref p6, .ref p7, .int tof, .int tmu, .ref p8, .ref p9, .int bdn, .ref p10, .int snm, .ref p11, .ref p12, .ref p13, .int sdn, .int kcs, .int khr, .int ksn, .ref p14, .ref p15, .ref p16, .ref p17, .long hlg])), (p3, .inl (cI, 5, .inl K)), (p5, .inl (cI, 5, .inl w))]) := by
  refine CI_intro (by decide) (Nat.le_of_ble_eq_true rfl) ?_
  intro p e s m args below meth c A Q ls C h hret hl
  have C : CX p s m args c cX8_pushes 6 RX8 D cI cZ kS vS A := C
  have hx := C.1.1
  have hb := C.1.2.1
  have hl : lv_has ls 6 [(0, .ref p0), (1, .int (nI b)), (2, .int (nI a))] := hl
  refine lv_aload_n hx hb dX8_pushes_0 rfl (lv_at hl 0 rfl) ?_
  refine r_get C h fk8 0 10 rfl (by decide) mf_RX8_16 rfl dX8_pushes_1 ?_
  refine lv_iload_n hx hb dX8_pushes_4 rfl (lv_at hl 1 rfl) ?_
  refine r_ld C h 1 rfl b (rfl) (by omega) (by decide) (x := K b) (rfl) dX8_pushes_5 ?_
  refine lv_istore_n (lv' := [(3, .int (K b)), (0, .ref p0), (1, .int (nI b)), (2, .int (nI a))]) hx hb dX8_pushes_6 rfl hl (by decide) rfl (fun ls hl => ?_)
  refine lv_aload_n hx hb dX8_pushes_7 rfl (lv_at hl 1 rfl) ?_
  refine r_get C h fk8 0 12 rfl (by decide) mf_RX8_22 rfl dX8_pushes_8 ?_
  refine lv_iload_n hx hb dX8_pushes_11 rfl (lv_at hl 2 rfl) ?_
  refine r_ld C h 2 rfl b (rfl) (by omega) (by decide) (x := w b) (rfl) dX8_pushes_12 ?_
  refine lv_istore (lv' := [(4, .int (w b)), (3, .int (K b)), (0, .ref p0), (1, .int (nI b)), (2, .int (nI a))]) hx hb dX8_pushes_13 hl (by decide) rfl (fun ls hl => ?_)
  refine lv_aload_n hx hb dX8_pushes_15 rfl (lv_at hl 2 rfl) ?_
  refine r_get C h fk8 0 12 rfl (by decide) mf_RX8_22 rfl dX8_pushes_16 ?_
  refine lv_iload_n hx hb dX8_pushes_19 rfl (lv_at hl 4 rfl) ?_
  refine r_ld C h 2 rfl a (rfl) (by omega) (by decide) (x := w a) (rfl) dX8_pushes_20 ?_
  refine lv_istore (lv' := [(5, .int (w a)), (4, .int (w b)), (3, .int (K b)), (0, .ref p0), (1, .int (nI b)), (2, .int (nI a))]) hx hb dX8_pushes_21 hl (by decide) rfl (fun ls hl => ?_)
  refine lv_iload_n hx hb dX8_pushes_23 rfl (lv_at hl 2 rfl) ?_
  refine lv_iconst (v := 3) hx hb dX8_pushes_24 (by decide) ?_
  refine lv_icmp_ne (tgt := 30) hx hb dX8_pushes_25 (by decide) (fun c_25 => ?_) (fun c_25 => ?_)
  · skip
    refine lv_aload_n hx hb dX8_pushes_30 rfl (lv_at hl 3 rfl) ?_
    refine r_get C h fk8 0 10 rfl (by decide) mf_RX8_16 rfl dX8_pushes_31 ?_
    refine lv_iload_n hx hb dX8_pushes_34 rfl (lv_at hl 5 rfl) ?_
    refine r_ld C h 1 rfl a (rfl) (by omega) (by decide) (x := K a) (rfl) dX8_pushes_35 ?_
    refine lv_iconst (v := 3) hx hb dX8_pushes_36 (by decide) ?_
    refine lv_icmp_ne (tgt := 51) hx hb dX8_pushes_37 (by decide) (fun c_37 => ?_) (fun c_37 => ?_)
    · skip
      refine lv_iload_n hx hb dX8_pushes_51 rfl (lv_at hl 2 rfl) ?_
      refine lv_if_ne (tgt := 72) hx hb dX8_pushes_52 (by decide) (fun c_52 => ?_) (fun c_52 => ?_)
      · skip
        refine lv_iload_n hx hb dX8_pushes_72 rfl (lv_at hl 2 rfl) ?_
        refine lv_iconst (v := 1) hx hb dX8_pushes_73 (by decide) ?_
        refine lv_icmp_ne (tgt := 92) hx hb dX8_pushes_74 (by decide) (fun c_74 => ?_) (fun c_74 => ?_)
        · skip
          refine lv_iload_n hx hb dX8_pushes_92 rfl (lv_at hl 2 rfl) ?_
          refine lv_iconst (v := 4) hx hb dX8_pushes_93 (by decide) ?_
          refine lv_icmp_ne (tgt := 108) hx hb dX8_pushes_94 (by decide) (fun c_94 => ?_) (fun c_94 => ?_)
          · skip
            refine lv_iconst (v := 0) hx hb dX8_pushes_108 (by decide) ?_
            exact hret (r := 0) () dX8_pushes_109 h (rfl) ((show _ = bI (hps2 K w b a) by simp [hps2, bI, c_25, c_37, c_52, c_74, c_94]).trans (congrArg bI (hps2_eq hK)))
          · skip
            refine lv_iload hx hb dX8_pushes_97 (lv_at hl 1 rfl) ?_
            refine lv_iload hx hb dX8_pushes_99 (lv_at hl 0 rfl) ?_
            refine lv_icmp_lt (tgt := 108) hx hb dX8_pushes_101 (by decide) (fun c_101 => ?_) (fun c_101 => ?_)
            · skip
              refine lv_iconst (v := 0) hx hb dX8_pushes_108 (by decide) ?_
              exact hret (r := 0) () dX8_pushes_109 h (rfl) ((show _ = bI (hps2 K w b a) by simp [hps2, bI, c_25, c_37, c_52, c_74, c_94, c_101]).trans (congrArg bI (hps2_eq hK)))
            · skip
              refine lv_iconst (v := 1) hx hb dX8_pushes_104 (by decide) ?_
              refine lv_goto (tgt := 109) hx hb dX8_pushes_105 (by decide) ?_
              exact hret (r := 1) () dX8_pushes_109 h (rfl) ((show _ = bI (hps2 K w b a) by simp [hps2, bI, c_25, c_37, c_52, c_74, c_94, c_101]).trans (congrArg bI (hps2_eq hK)))
        · skip
          refine lv_iload hx hb dX8_pushes_77 (lv_at hl 1 rfl) ?_
          refine lv_iload hx hb dX8_pushes_79 (lv_at hl 0 rfl) ?_
          refine lv_icmp_le (tgt := 88) hx hb dX8_pushes_81 (by decide) (fun c_81 => ?_) (fun c_81 => ?_)
          · skip
            refine lv_iconst (v := 0) hx hb dX8_pushes_88 (by decide) ?_
            refine lv_goto (tgt := 109) hx hb dX8_pushes_89 (by decide) ?_
            exact hret (r := 0) () dX8_pushes_109 h (rfl) ((show _ = bI (hps2 K w b a) by simp [hps2, bI, c_25, c_37, c_52, c_74, c_81]).trans (congrArg bI (hps2_eq hK)))
          · skip
            refine lv_iconst (v := 1) hx hb dX8_pushes_84 (by decide) ?_
            refine lv_goto (tgt := 109) hx hb dX8_pushes_85 (by decide) ?_
            exact hret (r := 1) () dX8_pushes_109 h (rfl) ((show _ = bI (hps2 K w b a) by simp [hps2, bI, c_25, c_37, c_52, c_74, c_81]).trans (congrArg bI (hps2_eq hK)))
      · skip
        refine lv_iload hx hb dX8_pushes_55 (lv_at hl 1 rfl) ?_
        refine lv_iconst (v := 2) hx hb dX8_pushes_57 (by decide) ?_
        refine lv_iload hx hb dX8_pushes_58 (lv_at hl 0 rfl) ?_
        refine lv_imul hx hb dX8_pushes_60 ?_
        refine lv_icmp_le (tgt := 68) hx hb dX8_pushes_61 (by decide) (fun c_61 => ?_) (fun c_61 => ?_)
        · skip
          refine lv_iconst (v := 0) hx hb dX8_pushes_68 (by decide) ?_
          refine lv_goto (tgt := 109) hx hb dX8_pushes_69 (by decide) ?_
          exact hret (r := 0) () dX8_pushes_109 h (rfl) ((show _ = bI (hps2 K w b a) by simp [hps2, bI, c_25, c_37, c_52, c_61]).trans (congrArg bI (hps2_eq hK)))
        · skip
          refine lv_iconst (v := 1) hx hb dX8_pushes_64 (by decide) ?_
          refine lv_goto (tgt := 109) hx hb dX8_pushes_65 (by decide) ?_
          exact hret (r := 1) () dX8_pushes_109 h (rfl) ((show _ = bI (hps2 K w b a) by simp [hps2, bI, c_25, c_37, c_52, c_61]).trans (congrArg bI (hps2_eq hK)))
    · skip
      refine lv_iload hx hb dX8_pushes_40 (lv_at hl 1 rfl) ?_
      refine lv_if_le (tgt := 49) hx hb dX8_pushes_42 (by decide) (fun c_42 => ?_) (fun c_42 => ?_)
      · skip
        refine lv_iconst (v := 0) hx hb dX8_pushes_49 (by decide) ?_
        exact hret (r := 0) () dX8_pushes_50 h (rfl) ((show _ = bI (hps2 K w b a) by simp [hps2, bI, c_25, c_37, c_42]).trans (congrArg bI (hps2_eq hK)))
      · skip
        refine lv_iconst (v := 1) hx hb dX8_pushes_45 (by decide) ?_
        refine lv_goto (tgt := 50) hx hb dX8_pushes_46 (by decide) ?_
        exact hret (r := 1) () dX8_pushes_50 h (rfl) ((show _ = bI (hps2 K w b a) by simp [hps2, bI, c_25, c_37, c_42]).trans (congrArg bI (hps2_eq hK)))
  · skip
    refine lv_iconst (v := 0) hx hb dX8_pushes_28 (by decide) ?_
    exact hret (r := 0) () dX8_pushes_29 h (rfl) ((show _ = bI (hps2 K w b a) by simp [hps2, bI, c_25]).trans (congrArg bI (hps2_eq hK)))

set_option maxHeartbeats 4000000 in
set_option maxRecDepth 100000 in
theorem c_X8_goBehind (l : Launch) (D : va_G) (cI cZ : ClassId) (kS vS : Nat) (p0 : Nat) (p1 : Nat) (p2 : Nat) (p3 : Nat) (p4 : Nat) (p5 : Nat) (p6 : Nat) (p7 : Nat) (p8 : Nat) (p9 : Nat) (p10 : Nat) (p11 : Nat) (p12 : Nat) (p13 : Nat) (p14 : Nat) (p15 : Nat) (p16 : Nat) (p17 : Nat) (n : Nat) (pgm : Int32) (rdm : Int32) (rdb : Int32) (stt : Int32) (bar : Int32) (hrs : Int32) (crd : Int32) (tof : Int32) (tmu : Int32) (bdn : Int32) (snm : Int32) (sdn : Int32) (kcs : Int32) (khr : Int32) (ksn : Int32) (hlg : Int64) (ρ : Nat → Nat) (q : Nat) (hn2 : 2 ≤ n) (hn5 : n ≤ 5) (hpm : PM n ρ) (hq : q < n) : CV l yX8_goBehind cX8_goBehind 4 D cI cZ kS vS 0 0 0 0 [.ref p0, .int (nI (ρ q))] [(p0, .inr (8, [.ref p1, .int pgm, .ref p2, .int rdm, .int rdb, .int stt, .int (nI n), .int bar, .int hrs, .int crd, .ref p3, .ref p4, .ref p5, .ref p6, .ref p7, .int tof, .int tmu, .ref p8, .ref p9, .int bdn, .ref p10, .int snm, .ref p11, .ref p12, .ref p13, .int sdn, .int kcs, .int khr, .int ksn, .ref p14, .ref p15, .ref p16, .ref p17, .long hlg])), (p6, .inl (cI, 5, .inl (ro ρ)))] (fun (_ : Unit) => True) (fun (_ : Unit) => [(p0, .inr (8, [.ref p1, .int pgm, .ref p2, .int rdm, .int rdb, .int stt, .int (nI n), .int bar, .int hrs, .int crd, .ref p3, .ref p4, .ref p5, .ref p6, .ref p7, .int tof, .int tmu, .ref p8, .ref p9, .int bdn, .ref p10, .int snm, .ref p11, .ref p12, .ref p13, .int sdn, .int kcs, .int khr, .int ksn, .ref p14, .ref p15, .ref p16, .ref p17, .long hlg])), (p6, .inl (cI, 5, .inl (ro (hsb n q ρ))))]) := by
  refine CV_intro (by decide) (Nat.le_of_ble_eq_true rfl) ?_
  intro p e s m args below meth c A Q ls C hini h hret hl
  have C : CX p s m args c cX8_goBehind 4 RX8 D cI cZ kS vS A := C
  have hx := C.1.1
  have hb := C.1.2.1
  have hl : lv_has ls 4 [(0, .ref p0), (1, .int (nI (ρ q)))] := hl
  have r0 := hpm.1 q hq
  refine lv_iconst (v := 0) hx hb dX8_goBehind_0 (by decide) ?_
  refine lv_istore_n (lv' := [(2, .int 0), (0, .ref p0), (1, .int (nI (ρ q)))]) hx hb dX8_goBehind_1 rfl hl (by decide) rfl (fun ls hl => ?_)
  refine lv_iconst (v := 0) hx hb dX8_goBehind_2 (by decide) ?_
  refine lv_istore_n (lv' := [(3, .int 0), (2, .int 0), (0, .ref p0), (1, .int (nI (ρ q)))]) hx hb dX8_goBehind_3 rfl hl (by decide) rfl (fun ls hl => ?_)
  have L4 : ∀ (fu : Nat) (i : Nat), (n - i) < fu → (hi : i ≤ n) → ∀ (H : Heap) (locs : List Loc) (ls : Array Slot), HS D A s H locs [(p0, .inr (8, [.ref p1, .int pgm, .ref p2, .int rdm, .int rdb, .int stt, .int (nI n), .int bar, .int hrs, .int crd, .ref p3, .ref p4, .ref p5, .ref p6, .ref p7, .int tof, .int tmu, .ref p8, .ref p9, .int bdn, .ref p10, .int snm, .ref p11, .ref p12, .ref p13, .int sdn, .int kcs, .int khr, .int ksn, .ref p14, .ref p15, .ref p16, .ref p17, .long hlg])), (p6, .inl (cI, 5, .inl (ro (gbk q i ρ))))] → lv_has ls 4 [(0, .ref p0), (1, .int (nI (ρ q))), (2, .int (nI (gbn q i))), (3, .int (nI i))] → W p l e (rmO 0 0 0 0) s m args below meth c H locs 0 0 Q (F0 m 4 ls []) := by
    intro fu
    induction fu with
    | zero => intro i hfu; exact absurd hfu (Nat.not_lt_zero _)
    | succ fu ih4 =>
      intro i hfu hi H locs ls h hl
      refine lv_iload_n hx hb dX8_goBehind_4 rfl (lv_at hl 3 rfl) ?_
      refine lv_aload_n hx hb dX8_goBehind_5 rfl (lv_at hl 0 rfl) ?_
      refine r_get C h fk8 0 6 rfl (by decide) mf_RX8_99 rfl dX8_goBehind_6 ?_
      refine lv_icmp_ge (tgt := 43) hx hb dX8_goBehind_9 (by decide) (fun c_9 => ?_) (fun c_9 => ?_)
      · skip
        have c_9 := (jle (a := n) (b := i) (by omega) (by omega)).mp c_9
        obtain rfl : n = i := by omega
        refine lv_aload_n hx hb dX8_goBehind_43 rfl (lv_at hl 0 rfl) ?_
        refine r_get C h fk8 0 13 rfl (by decide) mf_RX8_25 rfl dX8_goBehind_44 ?_
        refine lv_aload_n hx hb dX8_goBehind_47 rfl (lv_at hl 0 rfl) ?_
        refine r_get C h fk8 0 6 rfl (by decide) mf_RX8_99 rfl dX8_goBehind_48 ?_
        refine lv_iconst (v := 1) hx hb dX8_goBehind_51 (by decide) ?_
        refine lv_isub hx hb dX8_goBehind_52 ?_
        refine r_top (y := nI (n - 1)) (pk_sub (a := n) (b := 1) (by omega)) ?_
        refine lv_iload_n hx hb dX8_goBehind_53 rfl (lv_at hl 1 rfl) ?_
        refine r_st C h 1 rfl (n - 1) (rfl) (by omega) (by decide) (g := ro (un (gbk q n ρ) (n - 1) (ρ q))) (fun j _ => ro_un j) (ws' := [(p0, .inr (8, [.ref p1, .int pgm, .ref p2, .int rdm, .int rdb, .int stt, .int (nI n), .int bar, .int hrs, .int crd, .ref p3, .ref p4, .ref p5, .ref p6, .ref p7, .int tof, .int tmu, .ref p8, .ref p9, .int bdn, .ref p10, .int snm, .ref p11, .ref p12, .ref p13, .int sdn, .int kcs, .int khr, .int ksn, .ref p14, .ref p15, .ref p16, .ref p17, .long hlg])), (p6, .inl (cI, 5, .inl (ro (un (gbk q n ρ) (n - 1) (ρ q)))))]) rfl dX8_goBehind_54 (fun H locs h => ?_)
        have h := h.arr 1 (g := ro (hsb n q ρ)) rfl (fun j _ => by rw [gbk_e hq]; exact congrArg nI (hsbi_e hq j)) rfl
        exact hret () dX8_goBehind_55 h (trivial)
      · skip
        have c_9 : ¬ n ≤ i := fun z => c_9 ((jle (a := n) (b := i) (by omega) (by omega)).mpr z)
        have hlt : i < n := by omega
        have r1 := hpm.1 i hlt
        have r2 := gbn_le q i
        refine lv_aload_n hx hb dX8_goBehind_12 rfl (lv_at hl 0 rfl) ?_
        refine r_get C h fk8 0 13 rfl (by decide) mf_RX8_25 rfl dX8_goBehind_13 ?_
        refine lv_iload_n hx hb dX8_goBehind_16 rfl (lv_at hl 3 rfl) ?_
        refine r_ld C h 1 rfl i (rfl) (by omega) (by decide) (x := nI ((gbk q i ρ) i)) (rfl) dX8_goBehind_17 ?_
        refine r_top (y := nI (ρ i)) (congrArg nI (gbk_at q i ρ)) ?_
        refine lv_iload_n hx hb dX8_goBehind_18 rfl (lv_at hl 1 rfl) ?_
        refine lv_icmp_eq (tgt := 37) hx hb dX8_goBehind_19 (by decide) (fun c_19 => ?_) (fun c_19 => ?_)
        · skip
          have c_19 := (jeq (a := (ρ i)) (b := (ρ q)) (by omega) (by omega)).mp c_19
          have ei := hpm.2.1 _ _ hlt hq c_19
          have ek : gbk q i ρ = gbk q (i + 1) ρ := by rw [ei]; exact (gbk_eq q ρ).symm
          have hl : lv_has ls 4 [(0, .ref p0), (1, .int (nI (ρ q))), (2, .int (nI (gbn q (i + 1)))), (3, .int (nI i))] := by rw [show nI (gbn q (i + 1)) = nI (gbn q i) from by rw [ei]; exact congrArg nI (gbn_eq q)]; exact hl
          refine lv_iinc (v := nI (i + 1)) (lv' := [(3, .int (nI (i + 1))), (0, .ref p0), (1, .int (nI (ρ q))), (2, .int (nI (gbn q (i + 1))))]) hx hb dX8_goBehind_37 hl (k := 3) rfl (nI_1 i) (by decide) rfl (fun ls hl => ?_)
          refine lv_goto (tgt := 4) hx hb dX8_goBehind_40 (by decide) ?_
          have h := h.arr 1 (g := ro (gbk q (i + 1) ρ)) rfl (fun j _ => by rw [ek]) rfl
          exact ih4  (i + 1) (by omega) (by first | assumption | omega) _ _ _ h (lv_sub hl [1, 2, 3, 0] rfl)
        · skip
          have c_19 : ¬ (ρ i) = (ρ q) := fun z => c_19 ((jeq (a := (ρ i)) (b := (ρ q)) (by omega) (by omega)).mpr z)
          have ek : un (gbk q i ρ) (gbn q i) (ρ i) = gbk q (i + 1) ρ := gbk_ne (fun z => c_19 (by rw [z]))
          refine lv_aload_n hx hb dX8_goBehind_22 rfl (lv_at hl 0 rfl) ?_
          refine r_get C h fk8 0 13 rfl (by decide) mf_RX8_25 rfl dX8_goBehind_23 ?_
          refine lv_iload_n hx hb dX8_goBehind_26 rfl (lv_at hl 2 rfl) ?_
          refine lv_aload_n hx hb dX8_goBehind_27 rfl (lv_at hl 0 rfl) ?_
          refine r_get C h fk8 0 13 rfl (by decide) mf_RX8_25 rfl dX8_goBehind_28 ?_
          refine lv_iload_n hx hb dX8_goBehind_31 rfl (lv_at hl 3 rfl) ?_
          refine r_ld C h 1 rfl i (rfl) (by omega) (by decide) (x := nI ((gbk q i ρ) i)) (rfl) dX8_goBehind_32 ?_
          refine r_top (y := nI (ρ i)) (congrArg nI (gbk_at q i ρ)) ?_
          refine r_st C h 1 rfl (gbn q i) (rfl) (by omega) (by decide) (g := ro (un (gbk q i ρ) (gbn q i) (ρ i))) (fun j _ => ro_un j) (ws' := [(p0, .inr (8, [.ref p1, .int pgm, .ref p2, .int rdm, .int rdb, .int stt, .int (nI n), .int bar, .int hrs, .int crd, .ref p3, .ref p4, .ref p5, .ref p6, .ref p7, .int tof, .int tmu, .ref p8, .ref p9, .int bdn, .ref p10, .int snm, .ref p11, .ref p12, .ref p13, .int sdn, .int kcs, .int khr, .int ksn, .ref p14, .ref p15, .ref p16, .ref p17, .long hlg])), (p6, .inl (cI, 5, .inl (ro (un (gbk q i ρ) (gbn q i) (ρ i)))))]) rfl dX8_goBehind_33 (fun H locs h => ?_)
          refine lv_iinc (v := nI (gbn q (i + 1))) (lv' := [(2, .int (nI (gbn q (i + 1)))), (0, .ref p0), (1, .int (nI (ρ q))), (3, .int (nI i))]) hx hb dX8_goBehind_34 hl (k := 2) rfl ((nI_1 (gbn q i)).trans (congrArg nI (gbn_ne (fun z => c_19 (by rw [z]))).symm)) (by decide) rfl (fun ls hl => ?_)
          refine lv_iinc (v := nI (i + 1)) (lv' := [(3, .int (nI (i + 1))), (2, .int (nI (gbn q (i + 1)))), (0, .ref p0), (1, .int (nI (ρ q)))]) hx hb dX8_goBehind_37 hl (k := 3) rfl (nI_1 i) (by decide) rfl (fun ls hl => ?_)
          refine lv_goto (tgt := 4) hx hb dX8_goBehind_40 (by decide) ?_
          have h := h.arr 1 (g := ro (gbk q (i + 1) ρ)) rfl (fun j _ => by rw [ek]) rfl
          exact ih4  (i + 1) (by omega) (by first | assumption | omega) _ _ _ h (lv_sub hl [2, 3, 1, 0] rfl)
  have hl : lv_has ls 4 [(3, .int 0), (2, .int (nI (gbn q 0))), (0, .ref p0), (1, .int (nI (ρ q)))] := by rw [gbn_0]; exact hl
  have h := h.arr 1 (g := ro (gbk q 0 ρ)) rfl (fun j _ => by rw [gbk_0]) rfl
  exact L4 ((n - 0) + 1) 0 (by omega) (by first | assumption | omega) _ _ _ h (lv_sub hl [2, 3, 1, 0] rfl)

set_option maxHeartbeats 4000000 in
set_option maxRecDepth 100000 in
theorem c_X8_goesBy (l : Launch) (D : va_G) (cI cZ : ClassId) (kS vS : Nat) (p0 : Nat) (p1 : Nat) (p2 : Nat) (p3 : Nat) (p4 : Nat) (p5 : Nat) (p6 : Nat) (p7 : Nat) (p8 : Nat) (p9 : Nat) (p10 : Nat) (p11 : Nat) (p12 : Nat) (p13 : Nat) (p14 : Nat) (p15 : Nat) (p16 : Nat) (p17 : Nat) (n : Nat) (pgm : Int32) (rdm : Int32) (rdb : Int32) (stt : Int32) (bar : Int32) (hrs : Int32) (crd : Int32) (tof : Int32) (tmu : Int32) (bdn : Int32) (snm : Int32) (sdn : Int32) (kcs : Int32) (khr : Int32) (ksn : Int32) (hlg : Int64) (w : Nat → Int32) (ρ : Nat → Nat) (K : Nat → Int32) (F : Nat → Int32) (hn2 : 2 ≤ n) (hn5 : n ≤ 5) (hpm : PM n ρ) (hK : ∀ j, j < n → K j = 0 ∨ K j = 1 ∨ K j = 2 ∨ K j = 3 ∨ K j = 4) : CV l yX8_goesBy cX8_goesBy 4 D cI cZ kS vS 1 25 0 0 [.ref p0] [(p0, .inr (8, [.ref p1, .int pgm, .ref p2, .int rdm, .int rdb, .int stt, .int (nI n), .int bar, .int hrs, .int crd, .ref p3, .ref p4, .ref p5, .ref p6, .ref p7, .int tof, .int tmu, .ref p8, .ref p9, .int bdn, .ref p10, .int snm, .ref p11, .ref p12, .ref p13, .int sdn, .int kcs, .int khr, .int ksn, .ref p14, .ref p15, .ref p16, .ref p17, .long hlg])), (p3, .inl (cI, 5, .inl K)), (p4, .inl (cI, 5, .inl F)), (p5, .inl (cI, 5, .inl w)), (p6, .inl (cI, 5, .inl (ro ρ)))] (fun (_ : Unit) => True) (fun (_ : Unit) => [(p0, .inr (8, [.ref p1, .int pgm, .ref p2, .int rdm, .int rdb, .int stt, .int (nI n), .int bar, .int hrs, .int crd, .ref p3, .ref p4, .ref p5, .ref p6, .ref p7, .int (hoo n K F bar w ρ), .int (hmm n K F bar w ρ), .ref p8, .ref p9, .int bdn, .ref p10, .int snm, .ref p11, .ref p12, .ref p13, .int sdn, .int kcs, .int khr, .int ksn, .ref p14, .ref p15, .ref p16, .ref p17, .long hlg])), (p3, .inl (cI, 5, .inl K)), (p4, .inl (cI, 5, .inl F)), (p5, .inl (cI, 5, .inl (hww n K F bar w ρ))), (p6, .inl (cI, 5, .inl (ro (hrr n K F bar w ρ))))]) := by
  refine CV_intro (by decide) (Nat.le_of_ble_eq_true rfl) ?_
  intro p e s m args below meth c A Q ls C hini h hret hl
  have C : CX p s m args c cX8_goesBy 4 RX8 D cI cZ kS vS A := C
  have hx := C.1.1
  have hb := C.1.2.1
  have hl : lv_has ls 4 [(0, .ref p0)] := hl
  refine lv_iconst (v := 0) hx hb dX8_goesBy_0 (by decide) ?_
  refine lv_istore_n (lv' := [(1, .int 0), (0, .ref p0)]) hx hb dX8_goesBy_1 rfl hl (by decide) rfl (fun ls hl => ?_)
  have L2 : ∀ (fu : Nat) (i : Nat), (n - i) < fu → (hi : i ≤ n) → ∀ (H : Heap) (locs : List Loc) (ls : Array Slot), HS D A s H locs [(p0, .inr (8, [.ref p1, .int pgm, .ref p2, .int rdm, .int rdb, .int stt, .int (nI n), .int bar, .int hrs, .int crd, .ref p3, .ref p4, .ref p5, .ref p6, .ref p7, .int tof, .int tmu, .ref p8, .ref p9, .int bdn, .ref p10, .int snm, .ref p11, .ref p12, .ref p13, .int sdn, .int kcs, .int khr, .int ksn, .ref p14, .ref p15, .ref p16, .ref p17, .long hlg])), (p3, .inl (cI, 5, .inl K)), (p4, .inl (cI, 5, .inl F)), (p5, .inl (cI, 5, .inl (hgr i F w))), (p6, .inl (cI, 5, .inl (ro ρ)))] → lv_has ls 4 [(0, .ref p0), (1, .int (nI i))] → W p l e (rmO 1 25 0 0) s m args below meth c H locs 0 0 Q (F0 m 2 ls []) := by
    intro fu
    induction fu with
    | zero => intro i hfu; exact absurd hfu (Nat.not_lt_zero _)
    | succ fu ih2 =>
      intro i hfu hi H locs ls h hl
      refine lv_iload_n hx hb dX8_goesBy_2 rfl (lv_at hl 1 rfl) ?_
      refine lv_aload_n hx hb dX8_goesBy_3 rfl (lv_at hl 0 rfl) ?_
      refine r_get C h fk8 0 6 rfl (by decide) mf_RX8_99 rfl dX8_goesBy_4 ?_
      refine lv_icmp_ge (tgt := 58) hx hb dX8_goesBy_7 (by decide) (fun c_7 => ?_) (fun c_7 => ?_)
      · skip
        have c_7 := (jle (a := n) (b := i) (by omega) (by omega)).mp c_7
        obtain rfl : n = i := by omega
        refine lv_iconst (v := 1) hx hb dX8_goesBy_58 (by decide) ?_
        refine lv_istore_n (lv' := [(1, .int 1), (0, .ref p0)]) hx hb dX8_goesBy_59 rfl hl (by decide) rfl (fun ls hl => ?_)
        have L60 : ∀ (fu : Nat) (i : Nat), (n - i) < fu → (hi : i + 1 ≤ n) → ∀ (H : Heap) (locs : List Loc) (ls : Array Slot), HS D A s H locs [(p0, .inr (8, [.ref p1, .int pgm, .ref p2, .int rdm, .int rdb, .int stt, .int (nI n), .int bar, .int hrs, .int crd, .ref p3, .ref p4, .ref p5, .ref p6, .ref p7, .int tof, .int tmu, .ref p8, .ref p9, .int bdn, .ref p10, .int snm, .ref p11, .ref p12, .ref p13, .int sdn, .int kcs, .int khr, .int ksn, .ref p14, .ref p15, .ref p16, .ref p17, .long hlg])), (p3, .inl (cI, 5, .inl K)), (p4, .inl (cI, 5, .inl F)), (p5, .inl (cI, 5, .inl (hgr n F w))), (p6, .inl (cI, 5, .inl (ro (hpp K (hgr n F w) ρ i))))] → lv_has ls 4 [(0, .ref p0), (1, .int (nI (i + 1)))] → W p l e (rmO 1 25 0 0) s m args below meth c H locs 0 0 Q (F0 m 60 ls []) := by
          intro fu
          induction fu with
          | zero => intro i hfu; exact absurd hfu (Nat.not_lt_zero _)
          | succ fu ih60 =>
            intro i hfu hi H locs ls h hl
            refine lv_iload_n hx hb dX8_goesBy_60 rfl (lv_at hl 1 rfl) ?_
            refine lv_aload_n hx hb dX8_goesBy_61 rfl (lv_at hl 0 rfl) ?_
            refine r_get C h fk8 0 6 rfl (by decide) mf_RX8_99 rfl dX8_goesBy_62 ?_
            refine lv_icmp_ge (tgt := 115) hx hb dX8_goesBy_65 (by decide) (fun c_65 => ?_) (fun c_65 => ?_)
            · skip
              have c_65 := (jle (a := n) (b := (i + 1)) (by omega) (by omega)).mp c_65
              obtain rfl : n - 1 = i := by omega
              have hpm1 := hpm.hpp (K := K) (w := hgr n F w) (n - 1) (by omega)
              have r0 := hpm1.1 0 (by omega)
              refine lv_aload_n hx hb dX8_goesBy_115 rfl (lv_at hl 0 rfl) ?_
              refine r_get C h fk8 0 13 rfl (by decide) mf_RX8_25 rfl dX8_goesBy_116 ?_
              refine lv_iconst (v := 0) hx hb dX8_goesBy_119 (by decide) ?_
              refine r_ld C h 4 rfl 0 (rfl) (by omega) (by decide) (x := nI ((hpp K (hgr n F w) ρ (n - 1)) 0)) (rfl) dX8_goesBy_120 ?_
              refine lv_istore_n (lv' := [(1, .int (nI ((hpp K (hgr n F w) ρ (n - 1)) 0))), (0, .ref p0)]) hx hb dX8_goesBy_121 rfl hl (by decide) rfl (fun ls hl => ?_)
              refine lv_aload_n hx hb dX8_goesBy_122 rfl (lv_at hl 1 rfl) ?_
              refine lv_aload_n hx hb dX8_goesBy_123 rfl (lv_at hl 1 rfl) ?_
              refine r_get C h fk8 0 12 rfl (by decide) mf_RX8_22 rfl dX8_goesBy_124 ?_
              refine lv_iload_n hx hb dX8_goesBy_127 rfl (lv_at hl 0 rfl) ?_
              refine r_ld C h 3 rfl ((hpp K (hgr n F w) ρ (n - 1)) 0) (rfl) (by omega) (by decide) (x := (hgr n F w) ((hpp K (hgr n F w) ρ (n - 1)) 0)) (rfl) dX8_goesBy_128 ?_
              refine lv_aload_n hx hb dX8_goesBy_129 rfl (lv_at hl 1 rfl) ?_
              refine r_get C h fk8 0 7 rfl (by decide) mf_RX8_102 rfl dX8_goesBy_130 ?_
              refine lv_icmp_ge (tgt := 145) hx hb dX8_goesBy_133 (by decide) (fun c_133 => ?_) (fun c_133 => ?_)
              · skip
                have em : hmm n K F bar w ρ = bar := hmu_f c_133
                refine lv_aload_n hx hb dX8_goesBy_145 rfl (lv_at hl 1 rfl) ?_
                refine r_get C h fk8 0 7 rfl (by decide) mf_RX8_102 rfl dX8_goesBy_146 ?_
                refine r_top (y := hmm n K F bar w ρ) (em.symm) ?_
                refine r_put C h fk8 0 16 rfl (by decide) mf_RX8_118 rfl (rfl) rfl (Nat.le_of_ble_eq_true rfl) (ws' := [(p0, .inr (8, [.ref p1, .int pgm, .ref p2, .int rdm, .int rdb, .int stt, .int (nI n), .int bar, .int hrs, .int crd, .ref p3, .ref p4, .ref p5, .ref p6, .ref p7, .int tof, .int (hmm n K F bar w ρ), .ref p8, .ref p9, .int bdn, .ref p10, .int snm, .ref p11, .ref p12, .ref p13, .int sdn, .int kcs, .int khr, .int ksn, .ref p14, .ref p15, .ref p16, .ref p17, .long hlg])), (p3, .inl (cI, 5, .inl K)), (p4, .inl (cI, 5, .inl F)), (p5, .inl (cI, 5, .inl (hgr n F w))), (p6, .inl (cI, 5, .inl (ro (hpp K (hgr n F w) ρ (n - 1)))))]) rfl dX8_goesBy_149 (fun H locs h => ?_)
                refine lv_aload_n hx hb dX8_goesBy_152 rfl (lv_at hl 1 rfl) ?_
                refine lv_aload_n hx hb dX8_goesBy_153 rfl (lv_at hl 1 rfl) ?_
                refine r_get C h fk8 0 16 rfl (by decide) mf_RX8_118 rfl dX8_goesBy_154 ?_
                refine lv_if_le (tgt := 164) hx hb dX8_goesBy_157 (by decide) (fun c_157 => ?_) (fun c_157 => ?_)
                · skip
                  have et : hoo n K F bar w ρ = -1 := if_pos c_157
                  refine lv_iconst (v := (-1)) hx hb dX8_goesBy_164 (by decide) ?_
                  refine r_top (y := hoo n K F bar w ρ) (et.symm) ?_
                  refine r_put C h fk8 0 15 rfl (by decide) mf_RX8_121 rfl (rfl) rfl (Nat.le_of_ble_eq_true rfl) (ws' := [(p0, .inr (8, [.ref p1, .int pgm, .ref p2, .int rdm, .int rdb, .int stt, .int (nI n), .int bar, .int hrs, .int crd, .ref p3, .ref p4, .ref p5, .ref p6, .ref p7, .int (hoo n K F bar w ρ), .int (hmm n K F bar w ρ), .ref p8, .ref p9, .int bdn, .ref p10, .int snm, .ref p11, .ref p12, .ref p13, .int sdn, .int kcs, .int khr, .int ksn, .ref p14, .ref p15, .ref p16, .ref p17, .long hlg])), (p3, .inl (cI, 5, .inl K)), (p4, .inl (cI, 5, .inl F)), (p5, .inl (cI, 5, .inl (hgr n F w))), (p6, .inl (cI, 5, .inl (ro (hpp K (hgr n F w) ρ (n - 1)))))]) rfl dX8_goesBy_165 (fun H locs h => ?_)
                  refine lv_aload_n hx hb dX8_goesBy_168 rfl (lv_at hl 1 rfl) ?_
                  refine r_get C h fk8 0 12 rfl (by decide) mf_RX8_22 rfl dX8_goesBy_169 ?_
                  refine lv_iload_n hx hb dX8_goesBy_172 rfl (lv_at hl 0 rfl) ?_
                  refine lv_dup2_11 hx hb dX8_goesBy_173 rfl rfl ?_
                  refine r_ld C h 3 rfl ((hpp K (hgr n F w) ρ (n - 1)) 0) (rfl) (by omega) (by decide) (x := (hgr n F w) ((hpp K (hgr n F w) ρ (n - 1)) 0)) (rfl) dX8_goesBy_174 ?_
                  refine lv_aload_n hx hb dX8_goesBy_175 rfl (lv_at hl 1 rfl) ?_
                  refine r_get C h fk8 0 16 rfl (by decide) mf_RX8_118 rfl dX8_goesBy_176 ?_
                  refine lv_isub hx hb dX8_goesBy_179 ?_
                  refine r_st C h 3 rfl ((hpp K (hgr n F w) ρ (n - 1)) 0) (rfl) (by omega) (by decide) (g := upd (hgr n F w) ((hpp K (hgr n F w) ρ (n - 1)) 0) (((hgr n F w) ((hpp K (hgr n F w) ρ (n - 1)) 0)) - (hmm n K F bar w ρ))) (fun _ _ => rfl) (ws' := [(p0, .inr (8, [.ref p1, .int pgm, .ref p2, .int rdm, .int rdb, .int stt, .int (nI n), .int bar, .int hrs, .int crd, .ref p3, .ref p4, .ref p5, .ref p6, .ref p7, .int (hoo n K F bar w ρ), .int (hmm n K F bar w ρ), .ref p8, .ref p9, .int bdn, .ref p10, .int snm, .ref p11, .ref p12, .ref p13, .int sdn, .int kcs, .int khr, .int ksn, .ref p14, .ref p15, .ref p16, .ref p17, .long hlg])), (p3, .inl (cI, 5, .inl K)), (p4, .inl (cI, 5, .inl F)), (p5, .inl (cI, 5, .inl (upd (hgr n F w) ((hpp K (hgr n F w) ρ (n - 1)) 0) (((hgr n F w) ((hpp K (hgr n F w) ρ (n - 1)) 0)) - (hmm n K F bar w ρ))))), (p6, .inl (cI, 5, .inl (ro (hpp K (hgr n F w) ρ (n - 1)))))]) rfl dX8_goesBy_180 (fun H locs h => ?_)
                  refine lv_aload_n hx hb dX8_goesBy_181 rfl (lv_at hl 1 rfl) ?_
                  refine r_get C h fk8 0 12 rfl (by decide) mf_RX8_22 rfl dX8_goesBy_182 ?_
                  refine lv_iload_n hx hb dX8_goesBy_185 rfl (lv_at hl 0 rfl) ?_
                  refine r_ld C h 3 rfl ((hpp K (hgr n F w) ρ (n - 1)) 0) (rfl) (by omega) (by decide) (x := hgr n F w (hfi n K F w ρ) - hmm n K F bar w ρ) (upd_s _ _ _) dX8_goesBy_186 ?_
                  refine lv_if_ne (tgt := 195) hx hb dX8_goesBy_187 (by decide) (fun c_187 => ?_) (fun c_187 => ?_)
                  · skip
                    have e4 : hrr n K F bar w ρ = hpp K (hgr n F w) ρ (n - 1) := if_neg c_187
                    have h := h.arr 3 (g := hww n K F bar w ρ) rfl (fun j hj => rfl) rfl
                    have h := h.arr 4 (g := ro (hrr n K F bar w ρ)) rfl (fun j _ => by rw [e4]) rfl
                    exact hret () dX8_goesBy_195 h (trivial)
                  · skip
                    have e4 : hrr n K F bar w ρ = hsb n 0 (hpp K (hgr n F w) ρ (n - 1)) := if_pos c_187
                    refine lv_aload_n hx hb dX8_goesBy_190 rfl (lv_at hl 1 rfl) ?_
                    refine lv_iload_n hx hb dX8_goesBy_191 rfl (lv_at hl 0 rfl) ?_
                    refine k_Vv (rest := []) (as := [.int (nI ((hpp K (hgr n F w) ρ (n - 1)) 0))]) (wc := [(p0, .inr (8, [.ref p1, .int pgm, .ref p2, .int rdm, .int rdb, .int stt, .int (nI n), .int bar, .int hrs, .int crd, .ref p3, .ref p4, .ref p5, .ref p6, .ref p7, .int (hoo n K F bar w ρ), .int (hmm n K F bar w ρ), .ref p8, .ref p9, .int bdn, .ref p10, .int snm, .ref p11, .ref p12, .ref p13, .int sdn, .int kcs, .int khr, .int ksn, .ref p14, .ref p15, .ref p16, .ref p17, .long hlg])), (p6, .inl (cI, 5, .inl (ro (hpp K (hgr n F w) ρ (n - 1)))))]) (wr := [(p3, .inl (cI, 5, .inl K)), (p4, .inl (cI, 5, .inl F)), (p5, .inl (cI, 5, .inl (upd (hgr n F w) ((hpp K (hgr n F w) ρ (n - 1)) 0) (((hgr n F w) ((hpp K (hgr n F w) ρ (n - 1)) 0)) - (hmm n K F bar w ρ)))))]) (isC := [0, 4]) (isR := [1, 2, 3]) (w2 := fun (_ : Unit) => [(p0, .inr (8, [.ref p1, .int pgm, .ref p2, .int rdm, .int rdb, .int stt, .int (nI n), .int bar, .int hrs, .int crd, .ref p3, .ref p4, .ref p5, .ref p6, .ref p7, .int (hoo n K F bar w ρ), .int (hmm n K F bar w ρ), .ref p8, .ref p9, .int bdn, .ref p10, .int snm, .ref p11, .ref p12, .ref p13, .int sdn, .int kcs, .int khr, .int ksn, .ref p14, .ref p15, .ref p16, .ref p17, .long hlg])), (p3, .inl (cI, 5, .inl K)), (p4, .inl (cI, 5, .inl F)), (p5, .inl (cI, 5, .inl (upd (hgr n F w) ((hpp K (hgr n F w) ρ (n - 1)) 0) (((hgr n F w) ((hpp K (hgr n F w) ρ (n - 1)) 0)) - (hmm n K F bar w ρ))))), (p6, .inl (cI, 5, .inl (ro (hsb n 0 (hpp K (hgr n F w) ρ (n - 1))))))]) C h (c_X8_goBehind l D cI cZ kS vS p0 p1 p2 p3 p4 p5 p6 p7 p8 p9 p10 p11 p12 p13 p14 p15 p16 p17 n pgm rdm rdb stt bar hrs crd (hoo n K F bar w ρ) (hmm n K F bar w ρ) bdn snm sdn kcs khr ksn hlg (hpp K (hgr n F w) ρ (n - 1)) 0 hn2 hn5 hpm1 (by omega)) wv_X8_goBehind rfl ⟨rfl, rfl, rfl, rfl, by decide⟩ fk8 0 rfl ml_RX8_124 [3, 0, 1, 2, 4] rfl (fun _ => rfl) ⟨Nat.le_of_ble_eq_true rfl, Nat.le_of_ble_eq_true rfl⟩ ⟨Nat.le_of_ble_eq_true rfl, Nat.le_of_ble_eq_true rfl⟩ (Nat.le_of_ble_eq_true rfl) hl rfl dX8_goesBy_192 (fun u H locs hq h => ?_)
                    have h : HS D A s H locs [(p0, .inr (8, [.ref p1, .int pgm, .ref p2, .int rdm, .int rdb, .int stt, .int (nI n), .int bar, .int hrs, .int crd, .ref p3, .ref p4, .ref p5, .ref p6, .ref p7, .int (hoo n K F bar w ρ), .int (hmm n K F bar w ρ), .ref p8, .ref p9, .int bdn, .ref p10, .int snm, .ref p11, .ref p12, .ref p13, .int sdn, .int kcs, .int khr, .int ksn, .ref p14, .ref p15, .ref p16, .ref p17, .long hlg])), (p3, .inl (cI, 5, .inl K)), (p4, .inl (cI, 5, .inl F)), (p5, .inl (cI, 5, .inl (upd (hgr n F w) ((hpp K (hgr n F w) ρ (n - 1)) 0) (((hgr n F w) ((hpp K (hgr n F w) ρ (n - 1)) 0)) - (hmm n K F bar w ρ))))), (p6, .inl (cI, 5, .inl (ro (hsb n 0 (hpp K (hgr n F w) ρ (n - 1))))))] := h
                    have hq : True := hq
                    have h := h.arr 3 (g := hww n K F bar w ρ) rfl (fun j hj => rfl) rfl
                    have h := h.arr 4 (g := ro (hrr n K F bar w ρ)) rfl (fun j _ => by rw [e4]) rfl
                    exact hret () dX8_goesBy_195 h (trivial)
                · skip
                  have et : hoo n K F bar w ρ = nI (hpp K (hgr n F w) ρ (n - 1) 0) := if_neg c_157
                  refine lv_iload_n hx hb dX8_goesBy_160 rfl (lv_at hl 0 rfl) ?_
                  refine lv_goto (tgt := 165) hx hb dX8_goesBy_161 (by decide) ?_
                  refine r_top (y := hoo n K F bar w ρ) (et.symm) ?_
                  refine r_put C h fk8 0 15 rfl (by decide) mf_RX8_121 rfl (rfl) rfl (Nat.le_of_ble_eq_true rfl) (ws' := [(p0, .inr (8, [.ref p1, .int pgm, .ref p2, .int rdm, .int rdb, .int stt, .int (nI n), .int bar, .int hrs, .int crd, .ref p3, .ref p4, .ref p5, .ref p6, .ref p7, .int (hoo n K F bar w ρ), .int (hmm n K F bar w ρ), .ref p8, .ref p9, .int bdn, .ref p10, .int snm, .ref p11, .ref p12, .ref p13, .int sdn, .int kcs, .int khr, .int ksn, .ref p14, .ref p15, .ref p16, .ref p17, .long hlg])), (p3, .inl (cI, 5, .inl K)), (p4, .inl (cI, 5, .inl F)), (p5, .inl (cI, 5, .inl (hgr n F w))), (p6, .inl (cI, 5, .inl (ro (hpp K (hgr n F w) ρ (n - 1)))))]) rfl dX8_goesBy_165 (fun H locs h => ?_)
                  refine lv_aload_n hx hb dX8_goesBy_168 rfl (lv_at hl 1 rfl) ?_
                  refine r_get C h fk8 0 12 rfl (by decide) mf_RX8_22 rfl dX8_goesBy_169 ?_
                  refine lv_iload_n hx hb dX8_goesBy_172 rfl (lv_at hl 0 rfl) ?_
                  refine lv_dup2_11 hx hb dX8_goesBy_173 rfl rfl ?_
                  refine r_ld C h 3 rfl ((hpp K (hgr n F w) ρ (n - 1)) 0) (rfl) (by omega) (by decide) (x := (hgr n F w) ((hpp K (hgr n F w) ρ (n - 1)) 0)) (rfl) dX8_goesBy_174 ?_
                  refine lv_aload_n hx hb dX8_goesBy_175 rfl (lv_at hl 1 rfl) ?_
                  refine r_get C h fk8 0 16 rfl (by decide) mf_RX8_118 rfl dX8_goesBy_176 ?_
                  refine lv_isub hx hb dX8_goesBy_179 ?_
                  refine r_st C h 3 rfl ((hpp K (hgr n F w) ρ (n - 1)) 0) (rfl) (by omega) (by decide) (g := upd (hgr n F w) ((hpp K (hgr n F w) ρ (n - 1)) 0) (((hgr n F w) ((hpp K (hgr n F w) ρ (n - 1)) 0)) - (hmm n K F bar w ρ))) (fun _ _ => rfl) (ws' := [(p0, .inr (8, [.ref p1, .int pgm, .ref p2, .int rdm, .int rdb, .int stt, .int (nI n), .int bar, .int hrs, .int crd, .ref p3, .ref p4, .ref p5, .ref p6, .ref p7, .int (hoo n K F bar w ρ), .int (hmm n K F bar w ρ), .ref p8, .ref p9, .int bdn, .ref p10, .int snm, .ref p11, .ref p12, .ref p13, .int sdn, .int kcs, .int khr, .int ksn, .ref p14, .ref p15, .ref p16, .ref p17, .long hlg])), (p3, .inl (cI, 5, .inl K)), (p4, .inl (cI, 5, .inl F)), (p5, .inl (cI, 5, .inl (upd (hgr n F w) ((hpp K (hgr n F w) ρ (n - 1)) 0) (((hgr n F w) ((hpp K (hgr n F w) ρ (n - 1)) 0)) - (hmm n K F bar w ρ))))), (p6, .inl (cI, 5, .inl (ro (hpp K (hgr n F w) ρ (n - 1)))))]) rfl dX8_goesBy_180 (fun H locs h => ?_)
                  refine lv_aload_n hx hb dX8_goesBy_181 rfl (lv_at hl 1 rfl) ?_
                  refine r_get C h fk8 0 12 rfl (by decide) mf_RX8_22 rfl dX8_goesBy_182 ?_
                  refine lv_iload_n hx hb dX8_goesBy_185 rfl (lv_at hl 0 rfl) ?_
                  refine r_ld C h 3 rfl ((hpp K (hgr n F w) ρ (n - 1)) 0) (rfl) (by omega) (by decide) (x := hgr n F w (hfi n K F w ρ) - hmm n K F bar w ρ) (upd_s _ _ _) dX8_goesBy_186 ?_
                  refine lv_if_ne (tgt := 195) hx hb dX8_goesBy_187 (by decide) (fun c_187 => ?_) (fun c_187 => ?_)
                  · skip
                    have e4 : hrr n K F bar w ρ = hpp K (hgr n F w) ρ (n - 1) := if_neg c_187
                    have h := h.arr 3 (g := hww n K F bar w ρ) rfl (fun j hj => rfl) rfl
                    have h := h.arr 4 (g := ro (hrr n K F bar w ρ)) rfl (fun j _ => by rw [e4]) rfl
                    exact hret () dX8_goesBy_195 h (trivial)
                  · skip
                    have e4 : hrr n K F bar w ρ = hsb n 0 (hpp K (hgr n F w) ρ (n - 1)) := if_pos c_187
                    refine lv_aload_n hx hb dX8_goesBy_190 rfl (lv_at hl 1 rfl) ?_
                    refine lv_iload_n hx hb dX8_goesBy_191 rfl (lv_at hl 0 rfl) ?_
                    refine k_Vv (rest := []) (as := [.int (nI ((hpp K (hgr n F w) ρ (n - 1)) 0))]) (wc := [(p0, .inr (8, [.ref p1, .int pgm, .ref p2, .int rdm, .int rdb, .int stt, .int (nI n), .int bar, .int hrs, .int crd, .ref p3, .ref p4, .ref p5, .ref p6, .ref p7, .int (hoo n K F bar w ρ), .int (hmm n K F bar w ρ), .ref p8, .ref p9, .int bdn, .ref p10, .int snm, .ref p11, .ref p12, .ref p13, .int sdn, .int kcs, .int khr, .int ksn, .ref p14, .ref p15, .ref p16, .ref p17, .long hlg])), (p6, .inl (cI, 5, .inl (ro (hpp K (hgr n F w) ρ (n - 1)))))]) (wr := [(p3, .inl (cI, 5, .inl K)), (p4, .inl (cI, 5, .inl F)), (p5, .inl (cI, 5, .inl (upd (hgr n F w) ((hpp K (hgr n F w) ρ (n - 1)) 0) (((hgr n F w) ((hpp K (hgr n F w) ρ (n - 1)) 0)) - (hmm n K F bar w ρ)))))]) (isC := [0, 4]) (isR := [1, 2, 3]) (w2 := fun (_ : Unit) => [(p0, .inr (8, [.ref p1, .int pgm, .ref p2, .int rdm, .int rdb, .int stt, .int (nI n), .int bar, .int hrs, .int crd, .ref p3, .ref p4, .ref p5, .ref p6, .ref p7, .int (hoo n K F bar w ρ), .int (hmm n K F bar w ρ), .ref p8, .ref p9, .int bdn, .ref p10, .int snm, .ref p11, .ref p12, .ref p13, .int sdn, .int kcs, .int khr, .int ksn, .ref p14, .ref p15, .ref p16, .ref p17, .long hlg])), (p3, .inl (cI, 5, .inl K)), (p4, .inl (cI, 5, .inl F)), (p5, .inl (cI, 5, .inl (upd (hgr n F w) ((hpp K (hgr n F w) ρ (n - 1)) 0) (((hgr n F w) ((hpp K (hgr n F w) ρ (n - 1)) 0)) - (hmm n K F bar w ρ))))), (p6, .inl (cI, 5, .inl (ro (hsb n 0 (hpp K (hgr n F w) ρ (n - 1))))))]) C h (c_X8_goBehind l D cI cZ kS vS p0 p1 p2 p3 p4 p5 p6 p7 p8 p9 p10 p11 p12 p13 p14 p15 p16 p17 n pgm rdm rdb stt bar hrs crd (hoo n K F bar w ρ) (hmm n K F bar w ρ) bdn snm sdn kcs khr ksn hlg (hpp K (hgr n F w) ρ (n - 1)) 0 hn2 hn5 hpm1 (by omega)) wv_X8_goBehind rfl ⟨rfl, rfl, rfl, rfl, by decide⟩ fk8 0 rfl ml_RX8_124 [3, 0, 1, 2, 4] rfl (fun _ => rfl) ⟨Nat.le_of_ble_eq_true rfl, Nat.le_of_ble_eq_true rfl⟩ ⟨Nat.le_of_ble_eq_true rfl, Nat.le_of_ble_eq_true rfl⟩ (Nat.le_of_ble_eq_true rfl) hl rfl dX8_goesBy_192 (fun u H locs hq h => ?_)
                    have h : HS D A s H locs [(p0, .inr (8, [.ref p1, .int pgm, .ref p2, .int rdm, .int rdb, .int stt, .int (nI n), .int bar, .int hrs, .int crd, .ref p3, .ref p4, .ref p5, .ref p6, .ref p7, .int (hoo n K F bar w ρ), .int (hmm n K F bar w ρ), .ref p8, .ref p9, .int bdn, .ref p10, .int snm, .ref p11, .ref p12, .ref p13, .int sdn, .int kcs, .int khr, .int ksn, .ref p14, .ref p15, .ref p16, .ref p17, .long hlg])), (p3, .inl (cI, 5, .inl K)), (p4, .inl (cI, 5, .inl F)), (p5, .inl (cI, 5, .inl (upd (hgr n F w) ((hpp K (hgr n F w) ρ (n - 1)) 0) (((hgr n F w) ((hpp K (hgr n F w) ρ (n - 1)) 0)) - (hmm n K F bar w ρ))))), (p6, .inl (cI, 5, .inl (ro (hsb n 0 (hpp K (hgr n F w) ρ (n - 1))))))] := h
                    have hq : True := hq
                    have h := h.arr 3 (g := hww n K F bar w ρ) rfl (fun j hj => rfl) rfl
                    have h := h.arr 4 (g := ro (hrr n K F bar w ρ)) rfl (fun j _ => by rw [e4]) rfl
                    exact hret () dX8_goesBy_195 h (trivial)
              · skip
                have em : hmm n K F bar w ρ = hgr n F w (hfi n K F w ρ) := hmu_t c_133
                refine lv_aload_n hx hb dX8_goesBy_136 rfl (lv_at hl 1 rfl) ?_
                refine r_get C h fk8 0 12 rfl (by decide) mf_RX8_22 rfl dX8_goesBy_137 ?_
                refine lv_iload_n hx hb dX8_goesBy_140 rfl (lv_at hl 0 rfl) ?_
                refine r_ld C h 3 rfl ((hpp K (hgr n F w) ρ (n - 1)) 0) (rfl) (by omega) (by decide) (x := (hgr n F w) ((hpp K (hgr n F w) ρ (n - 1)) 0)) (rfl) dX8_goesBy_141 ?_
                refine lv_goto (tgt := 149) hx hb dX8_goesBy_142 (by decide) ?_
                refine r_top (y := hmm n K F bar w ρ) (em.symm) ?_
                refine r_put C h fk8 0 16 rfl (by decide) mf_RX8_118 rfl (rfl) rfl (Nat.le_of_ble_eq_true rfl) (ws' := [(p0, .inr (8, [.ref p1, .int pgm, .ref p2, .int rdm, .int rdb, .int stt, .int (nI n), .int bar, .int hrs, .int crd, .ref p3, .ref p4, .ref p5, .ref p6, .ref p7, .int tof, .int (hmm n K F bar w ρ), .ref p8, .ref p9, .int bdn, .ref p10, .int snm, .ref p11, .ref p12, .ref p13, .int sdn, .int kcs, .int khr, .int ksn, .ref p14, .ref p15, .ref p16, .ref p17, .long hlg])), (p3, .inl (cI, 5, .inl K)), (p4, .inl (cI, 5, .inl F)), (p5, .inl (cI, 5, .inl (hgr n F w))), (p6, .inl (cI, 5, .inl (ro (hpp K (hgr n F w) ρ (n - 1)))))]) rfl dX8_goesBy_149 (fun H locs h => ?_)
                refine lv_aload_n hx hb dX8_goesBy_152 rfl (lv_at hl 1 rfl) ?_
                refine lv_aload_n hx hb dX8_goesBy_153 rfl (lv_at hl 1 rfl) ?_
                refine r_get C h fk8 0 16 rfl (by decide) mf_RX8_118 rfl dX8_goesBy_154 ?_
                refine lv_if_le (tgt := 164) hx hb dX8_goesBy_157 (by decide) (fun c_157 => ?_) (fun c_157 => ?_)
                · skip
                  have et : hoo n K F bar w ρ = -1 := if_pos c_157
                  refine lv_iconst (v := (-1)) hx hb dX8_goesBy_164 (by decide) ?_
                  refine r_top (y := hoo n K F bar w ρ) (et.symm) ?_
                  refine r_put C h fk8 0 15 rfl (by decide) mf_RX8_121 rfl (rfl) rfl (Nat.le_of_ble_eq_true rfl) (ws' := [(p0, .inr (8, [.ref p1, .int pgm, .ref p2, .int rdm, .int rdb, .int stt, .int (nI n), .int bar, .int hrs, .int crd, .ref p3, .ref p4, .ref p5, .ref p6, .ref p7, .int (hoo n K F bar w ρ), .int (hmm n K F bar w ρ), .ref p8, .ref p9, .int bdn, .ref p10, .int snm, .ref p11, .ref p12, .ref p13, .int sdn, .int kcs, .int khr, .int ksn, .ref p14, .ref p15, .ref p16, .ref p17, .long hlg])), (p3, .inl (cI, 5, .inl K)), (p4, .inl (cI, 5, .inl F)), (p5, .inl (cI, 5, .inl (hgr n F w))), (p6, .inl (cI, 5, .inl (ro (hpp K (hgr n F w) ρ (n - 1)))))]) rfl dX8_goesBy_165 (fun H locs h => ?_)
                  refine lv_aload_n hx hb dX8_goesBy_168 rfl (lv_at hl 1 rfl) ?_
                  refine r_get C h fk8 0 12 rfl (by decide) mf_RX8_22 rfl dX8_goesBy_169 ?_
                  refine lv_iload_n hx hb dX8_goesBy_172 rfl (lv_at hl 0 rfl) ?_
                  refine lv_dup2_11 hx hb dX8_goesBy_173 rfl rfl ?_
                  refine r_ld C h 3 rfl ((hpp K (hgr n F w) ρ (n - 1)) 0) (rfl) (by omega) (by decide) (x := (hgr n F w) ((hpp K (hgr n F w) ρ (n - 1)) 0)) (rfl) dX8_goesBy_174 ?_
                  refine lv_aload_n hx hb dX8_goesBy_175 rfl (lv_at hl 1 rfl) ?_
                  refine r_get C h fk8 0 16 rfl (by decide) mf_RX8_118 rfl dX8_goesBy_176 ?_
                  refine lv_isub hx hb dX8_goesBy_179 ?_
                  refine r_st C h 3 rfl ((hpp K (hgr n F w) ρ (n - 1)) 0) (rfl) (by omega) (by decide) (g := upd (hgr n F w) ((hpp K (hgr n F w) ρ (n - 1)) 0) (((hgr n F w) ((hpp K (hgr n F w) ρ (n - 1)) 0)) - (hmm n K F bar w ρ))) (fun _ _ => rfl) (ws' := [(p0, .inr (8, [.ref p1, .int pgm, .ref p2, .int rdm, .int rdb, .int stt, .int (nI n), .int bar, .int hrs, .int crd, .ref p3, .ref p4, .ref p5, .ref p6, .ref p7, .int (hoo n K F bar w ρ), .int (hmm n K F bar w ρ), .ref p8, .ref p9, .int bdn, .ref p10, .int snm, .ref p11, .ref p12, .ref p13, .int sdn, .int kcs, .int khr, .int ksn, .ref p14, .ref p15, .ref p16, .ref p17, .long hlg])), (p3, .inl (cI, 5, .inl K)), (p4, .inl (cI, 5, .inl F)), (p5, .inl (cI, 5, .inl (upd (hgr n F w) ((hpp K (hgr n F w) ρ (n - 1)) 0) (((hgr n F w) ((hpp K (hgr n F w) ρ (n - 1)) 0)) - (hmm n K F bar w ρ))))), (p6, .inl (cI, 5, .inl (ro (hpp K (hgr n F w) ρ (n - 1)))))]) rfl dX8_goesBy_180 (fun H locs h => ?_)
                  refine lv_aload_n hx hb dX8_goesBy_181 rfl (lv_at hl 1 rfl) ?_
                  refine r_get C h fk8 0 12 rfl (by decide) mf_RX8_22 rfl dX8_goesBy_182 ?_
                  refine lv_iload_n hx hb dX8_goesBy_185 rfl (lv_at hl 0 rfl) ?_
                  refine r_ld C h 3 rfl ((hpp K (hgr n F w) ρ (n - 1)) 0) (rfl) (by omega) (by decide) (x := hgr n F w (hfi n K F w ρ) - hmm n K F bar w ρ) (upd_s _ _ _) dX8_goesBy_186 ?_
                  refine lv_if_ne (tgt := 195) hx hb dX8_goesBy_187 (by decide) (fun c_187 => ?_) (fun c_187 => ?_)
                  · skip
                    have e4 : hrr n K F bar w ρ = hpp K (hgr n F w) ρ (n - 1) := if_neg c_187
                    have h := h.arr 3 (g := hww n K F bar w ρ) rfl (fun j hj => rfl) rfl
                    have h := h.arr 4 (g := ro (hrr n K F bar w ρ)) rfl (fun j _ => by rw [e4]) rfl
                    exact hret () dX8_goesBy_195 h (trivial)
                  · skip
                    have e4 : hrr n K F bar w ρ = hsb n 0 (hpp K (hgr n F w) ρ (n - 1)) := if_pos c_187
                    refine lv_aload_n hx hb dX8_goesBy_190 rfl (lv_at hl 1 rfl) ?_
                    refine lv_iload_n hx hb dX8_goesBy_191 rfl (lv_at hl 0 rfl) ?_
                    refine k_Vv (rest := []) (as := [.int (nI ((hpp K (hgr n F w) ρ (n - 1)) 0))]) (wc := [(p0, .inr (8, [.ref p1, .int pgm, .ref p2, .int rdm, .int rdb, .int stt, .int (nI n), .int bar, .int hrs, .int crd, .ref p3, .ref p4, .ref p5, .ref p6, .ref p7, .int (hoo n K F bar w ρ), .int (hmm n K F bar w ρ), .ref p8, .ref p9, .int bdn, .ref p10, .int snm, .ref p11, .ref p12, .ref p13, .int sdn, .int kcs, .int khr, .int ksn, .ref p14, .ref p15, .ref p16, .ref p17, .long hlg])), (p6, .inl (cI, 5, .inl (ro (hpp K (hgr n F w) ρ (n - 1)))))]) (wr := [(p3, .inl (cI, 5, .inl K)), (p4, .inl (cI, 5, .inl F)), (p5, .inl (cI, 5, .inl (upd (hgr n F w) ((hpp K (hgr n F w) ρ (n - 1)) 0) (((hgr n F w) ((hpp K (hgr n F w) ρ (n - 1)) 0)) - (hmm n K F bar w ρ)))))]) (isC := [0, 4]) (isR := [1, 2, 3]) (w2 := fun (_ : Unit) => [(p0, .inr (8, [.ref p1, .int pgm, .ref p2, .int rdm, .int rdb, .int stt, .int (nI n), .int bar, .int hrs, .int crd, .ref p3, .ref p4, .ref p5, .ref p6, .ref p7, .int (hoo n K F bar w ρ), .int (hmm n K F bar w ρ), .ref p8, .ref p9, .int bdn, .ref p10, .int snm, .ref p11, .ref p12, .ref p13, .int sdn, .int kcs, .int khr, .int ksn, .ref p14, .ref p15, .ref p16, .ref p17, .long hlg])), (p3, .inl (cI, 5, .inl K)), (p4, .inl (cI, 5, .inl F)), (p5, .inl (cI, 5, .inl (upd (hgr n F w) ((hpp K (hgr n F w) ρ (n - 1)) 0) (((hgr n F w) ((hpp K (hgr n F w) ρ (n - 1)) 0)) - (hmm n K F bar w ρ))))), (p6, .inl (cI, 5, .inl (ro (hsb n 0 (hpp K (hgr n F w) ρ (n - 1))))))]) C h (c_X8_goBehind l D cI cZ kS vS p0 p1 p2 p3 p4 p5 p6 p7 p8 p9 p10 p11 p12 p13 p14 p15 p16 p17 n pgm rdm rdb stt bar hrs crd (hoo n K F bar w ρ) (hmm n K F bar w ρ) bdn snm sdn kcs khr ksn hlg (hpp K (hgr n F w) ρ (n - 1)) 0 hn2 hn5 hpm1 (by omega)) wv_X8_goBehind rfl ⟨rfl, rfl, rfl, rfl, by decide⟩ fk8 0 rfl ml_RX8_124 [3, 0, 1, 2, 4] rfl (fun _ => rfl) ⟨Nat.le_of_ble_eq_true rfl, Nat.le_of_ble_eq_true rfl⟩ ⟨Nat.le_of_ble_eq_true rfl, Nat.le_of_ble_eq_true rfl⟩ (Nat.le_of_ble_eq_true rfl) hl rfl dX8_goesBy_192 (fun u H locs hq h => ?_)
                    have h : HS D A s H locs [(p0, .inr (8, [.ref p1, .int pgm, .ref p2, .int rdm, .int rdb, .int stt, .int (nI n), .int bar, .int hrs, .int crd, .ref p3, .ref p4, .ref p5, .ref p6, .ref p7, .int (hoo n K F bar w ρ), .int (hmm n K F bar w ρ), .ref p8, .ref p9, .int bdn, .ref p10, .int snm, .ref p11, .ref p12, .ref p13, .int sdn, .int kcs, .int khr, .int ksn, .ref p14, .ref p15, .ref p16, .ref p17, .long hlg])), (p3, .inl (cI, 5, .inl K)), (p4, .inl (cI, 5, .inl F)), (p5, .inl (cI, 5, .inl (upd (hgr n F w) ((hpp K (hgr n F w) ρ (n - 1)) 0) (((hgr n F w) ((hpp K (hgr n F w) ρ (n - 1)) 0)) - (hmm n K F bar w ρ))))), (p6, .inl (cI, 5, .inl (ro (hsb n 0 (hpp K (hgr n F w) ρ (n - 1))))))] := h
                    have hq : True := hq
                    have h := h.arr 3 (g := hww n K F bar w ρ) rfl (fun j hj => rfl) rfl
                    have h := h.arr 4 (g := ro (hrr n K F bar w ρ)) rfl (fun j _ => by rw [e4]) rfl
                    exact hret () dX8_goesBy_195 h (trivial)
                · skip
                  have et : hoo n K F bar w ρ = nI (hpp K (hgr n F w) ρ (n - 1) 0) := if_neg c_157
                  refine lv_iload_n hx hb dX8_goesBy_160 rfl (lv_at hl 0 rfl) ?_
                  refine lv_goto (tgt := 165) hx hb dX8_goesBy_161 (by decide) ?_
                  refine r_top (y := hoo n K F bar w ρ) (et.symm) ?_
                  refine r_put C h fk8 0 15 rfl (by decide) mf_RX8_121 rfl (rfl) rfl (Nat.le_of_ble_eq_true rfl) (ws' := [(p0, .inr (8, [.ref p1, .int pgm, .ref p2, .int rdm, .int rdb, .int stt, .int (nI n), .int bar, .int hrs, .int crd, .ref p3, .ref p4, .ref p5, .ref p6, .ref p7, .int (hoo n K F bar w ρ), .int (hmm n K F bar w ρ), .ref p8, .ref p9, .int bdn, .ref p10, .int snm, .ref p11, .ref p12, .ref p13, .int sdn, .int kcs, .int khr, .int ksn, .ref p14, .ref p15, .ref p16, .ref p17, .long hlg])), (p3, .inl (cI, 5, .inl K)), (p4, .inl (cI, 5, .inl F)), (p5, .inl (cI, 5, .inl (hgr n F w))), (p6, .inl (cI, 5, .inl (ro (hpp K (hgr n F w) ρ (n - 1)))))]) rfl dX8_goesBy_165 (fun H locs h => ?_)
                  refine lv_aload_n hx hb dX8_goesBy_168 rfl (lv_at hl 1 rfl) ?_
                  refine r_get C h fk8 0 12 rfl (by decide) mf_RX8_22 rfl dX8_goesBy_169 ?_
                  refine lv_iload_n hx hb dX8_goesBy_172 rfl (lv_at hl 0 rfl) ?_
                  refine lv_dup2_11 hx hb dX8_goesBy_173 rfl rfl ?_
                  refine r_ld C h 3 rfl ((hpp K (hgr n F w) ρ (n - 1)) 0) (rfl) (by omega) (by decide) (x := (hgr n F w) ((hpp K (hgr n F w) ρ (n - 1)) 0)) (rfl) dX8_goesBy_174 ?_
                  refine lv_aload_n hx hb dX8_goesBy_175 rfl (lv_at hl 1 rfl) ?_
                  refine r_get C h fk8 0 16 rfl (by decide) mf_RX8_118 rfl dX8_goesBy_176 ?_
                  refine lv_isub hx hb dX8_goesBy_179 ?_
                  refine r_st C h 3 rfl ((hpp K (hgr n F w) ρ (n - 1)) 0) (rfl) (by omega) (by decide) (g := upd (hgr n F w) ((hpp K (hgr n F w) ρ (n - 1)) 0) (((hgr n F w) ((hpp K (hgr n F w) ρ (n - 1)) 0)) - (hmm n K F bar w ρ))) (fun _ _ => rfl) (ws' := [(p0, .inr (8, [.ref p1, .int pgm, .ref p2, .int rdm, .int rdb, .int stt, .int (nI n), .int bar, .int hrs, .int crd, .ref p3, .ref p4, .ref p5, .ref p6, .ref p7, .int (hoo n K F bar w ρ), .int (hmm n K F bar w ρ), .ref p8, .ref p9, .int bdn, .ref p10, .int snm, .ref p11, .ref p12, .ref p13, .int sdn, .int kcs, .int khr, .int ksn, .ref p14, .ref p15, .ref p16, .ref p17, .long hlg])), (p3, .inl (cI, 5, .inl K)), (p4, .inl (cI, 5, .inl F)), (p5, .inl (cI, 5, .inl (upd (hgr n F w) ((hpp K (hgr n F w) ρ (n - 1)) 0) (((hgr n F w) ((hpp K (hgr n F w) ρ (n - 1)) 0)) - (hmm n K F bar w ρ))))), (p6, .inl (cI, 5, .inl (ro (hpp K (hgr n F w) ρ (n - 1)))))]) rfl dX8_goesBy_180 (fun H locs h => ?_)
                  refine lv_aload_n hx hb dX8_goesBy_181 rfl (lv_at hl 1 rfl) ?_
                  refine r_get C h fk8 0 12 rfl (by decide) mf_RX8_22 rfl dX8_goesBy_182 ?_
                  refine lv_iload_n hx hb dX8_goesBy_185 rfl (lv_at hl 0 rfl) ?_
                  refine r_ld C h 3 rfl ((hpp K (hgr n F w) ρ (n - 1)) 0) (rfl) (by omega) (by decide) (x := hgr n F w (hfi n K F w ρ) - hmm n K F bar w ρ) (upd_s _ _ _) dX8_goesBy_186 ?_
                  refine lv_if_ne (tgt := 195) hx hb dX8_goesBy_187 (by decide) (fun c_187 => ?_) (fun c_187 => ?_)
                  · skip
                    have e4 : hrr n K F bar w ρ = hpp K (hgr n F w) ρ (n - 1) := if_neg c_187
                    have h := h.arr 3 (g := hww n K F bar w ρ) rfl (fun j hj => rfl) rfl
                    have h := h.arr 4 (g := ro (hrr n K F bar w ρ)) rfl (fun j _ => by rw [e4]) rfl
                    exact hret () dX8_goesBy_195 h (trivial)
                  · skip
                    have e4 : hrr n K F bar w ρ = hsb n 0 (hpp K (hgr n F w) ρ (n - 1)) := if_pos c_187
                    refine lv_aload_n hx hb dX8_goesBy_190 rfl (lv_at hl 1 rfl) ?_
                    refine lv_iload_n hx hb dX8_goesBy_191 rfl (lv_at hl 0 rfl) ?_
                    refine k_Vv (rest := []) (as := [.int (nI ((hpp K (hgr n F w) ρ (n - 1)) 0))]) (wc := [(p0, .inr (8, [.ref p1, .int pgm, .ref p2, .int rdm, .int rdb, .int stt, .int (nI n), .int bar, .int hrs, .int crd, .ref p3, .ref p4, .ref p5, .ref p6, .ref p7, .int (hoo n K F bar w ρ), .int (hmm n K F bar w ρ), .ref p8, .ref p9, .int bdn, .ref p10, .int snm, .ref p11, .ref p12, .ref p13, .int sdn, .int kcs, .int khr, .int ksn, .ref p14, .ref p15, .ref p16, .ref p17, .long hlg])), (p6, .inl (cI, 5, .inl (ro (hpp K (hgr n F w) ρ (n - 1)))))]) (wr := [(p3, .inl (cI, 5, .inl K)), (p4, .inl (cI, 5, .inl F)), (p5, .inl (cI, 5, .inl (upd (hgr n F w) ((hpp K (hgr n F w) ρ (n - 1)) 0) (((hgr n F w) ((hpp K (hgr n F w) ρ (n - 1)) 0)) - (hmm n K F bar w ρ)))))]) (isC := [0, 4]) (isR := [1, 2, 3]) (w2 := fun (_ : Unit) => [(p0, .inr (8, [.ref p1, .int pgm, .ref p2, .int rdm, .int rdb, .int stt, .int (nI n), .int bar, .int hrs, .int crd, .ref p3, .ref p4, .ref p5, .ref p6, .ref p7, .int (hoo n K F bar w ρ), .int (hmm n K F bar w ρ), .ref p8, .ref p9, .int bdn, .ref p10, .int snm, .ref p11, .ref p12, .ref p13, .int sdn, .int kcs, .int khr, .int ksn, .ref p14, .ref p15, .ref p16, .ref p17, .long hlg])), (p3, .inl (cI, 5, .inl K)), (p4, .inl (cI, 5, .inl F)), (p5, .inl (cI, 5, .inl (upd (hgr n F w) ((hpp K (hgr n F w) ρ (n - 1)) 0) (((hgr n F w) ((hpp K (hgr n F w) ρ (n - 1)) 0)) - (hmm n K F bar w ρ))))), (p6, .inl (cI, 5, .inl (ro (hsb n 0 (hpp K (hgr n F w) ρ (n - 1))))))]) C h (c_X8_goBehind l D cI cZ kS vS p0 p1 p2 p3 p4 p5 p6 p7 p8 p9 p10 p11 p12 p13 p14 p15 p16 p17 n pgm rdm rdb stt bar hrs crd (hoo n K F bar w ρ) (hmm n K F bar w ρ) bdn snm sdn kcs khr ksn hlg (hpp K (hgr n F w) ρ (n - 1)) 0 hn2 hn5 hpm1 (by omega)) wv_X8_goBehind rfl ⟨rfl, rfl, rfl, rfl, by decide⟩ fk8 0 rfl ml_RX8_124 [3, 0, 1, 2, 4] rfl (fun _ => rfl) ⟨Nat.le_of_ble_eq_true rfl, Nat.le_of_ble_eq_true rfl⟩ ⟨Nat.le_of_ble_eq_true rfl, Nat.le_of_ble_eq_true rfl⟩ (Nat.le_of_ble_eq_true rfl) hl rfl dX8_goesBy_192 (fun u H locs hq h => ?_)
                    have h : HS D A s H locs [(p0, .inr (8, [.ref p1, .int pgm, .ref p2, .int rdm, .int rdb, .int stt, .int (nI n), .int bar, .int hrs, .int crd, .ref p3, .ref p4, .ref p5, .ref p6, .ref p7, .int (hoo n K F bar w ρ), .int (hmm n K F bar w ρ), .ref p8, .ref p9, .int bdn, .ref p10, .int snm, .ref p11, .ref p12, .ref p13, .int sdn, .int kcs, .int khr, .int ksn, .ref p14, .ref p15, .ref p16, .ref p17, .long hlg])), (p3, .inl (cI, 5, .inl K)), (p4, .inl (cI, 5, .inl F)), (p5, .inl (cI, 5, .inl (upd (hgr n F w) ((hpp K (hgr n F w) ρ (n - 1)) 0) (((hgr n F w) ((hpp K (hgr n F w) ρ (n - 1)) 0)) - (hmm n K F bar w ρ))))), (p6, .inl (cI, 5, .inl (ro (hsb n 0 (hpp K (hgr n F w) ρ (n - 1))))))] := h
                    have hq : True := hq
                    have h := h.arr 3 (g := hww n K F bar w ρ) rfl (fun j hj => rfl) rfl
                    have h := h.arr 4 (g := ro (hrr n K F bar w ρ)) rfl (fun j _ => by rw [e4]) rfl
                    exact hret () dX8_goesBy_195 h (trivial)
            · skip
              have c_65 : ¬ n ≤ (i + 1) := fun z => c_65 ((jle (a := n) (b := (i + 1)) (by omega) (by omega)).mpr z)
              have hlt : i + 1 < n := by omega
              have hpm1 := hpm.hpp (K := K) (w := hgr n F w) i (by omega)
              have r0 := hpm1.1 i (by omega)
              have r1 := hpm1.1 (i + 1) (by omega)
              have hKb := hK _ r1
              refine lv_aload_n hx hb dX8_goesBy_68 rfl (lv_at hl 0 rfl) ?_
              refine r_get C h fk8 0 13 rfl (by decide) mf_RX8_25 rfl dX8_goesBy_69 ?_
              refine lv_iload_n hx hb dX8_goesBy_72 rfl (lv_at hl 1 rfl) ?_
              refine r_ld C h 4 rfl (i + 1) (rfl) (by omega) (by decide) (x := nI ((hpp K (hgr n F w) ρ i) (i + 1))) (rfl) dX8_goesBy_73 ?_
              refine lv_istore_n (lv' := [(2, .int (nI ((hpp K (hgr n F w) ρ i) (i + 1)))), (0, .ref p0), (1, .int (nI (i + 1)))]) hx hb dX8_goesBy_74 rfl hl (by decide) rfl (fun ls hl => ?_)
              refine lv_aload_n hx hb dX8_goesBy_75 rfl (lv_at hl 1 rfl) ?_
              refine r_get C h fk8 0 13 rfl (by decide) mf_RX8_25 rfl dX8_goesBy_76 ?_
              refine lv_iload_n hx hb dX8_goesBy_79 rfl (lv_at hl 2 rfl) ?_
              refine lv_iconst (v := 1) hx hb dX8_goesBy_80 (by decide) ?_
              refine lv_isub hx hb dX8_goesBy_81 ?_
              refine r_top (y := nI ((i + 1) - 1)) (pk_sub (a := (i + 1)) (b := 1) (by omega)) ?_
              refine r_top (y := nI i) (rfl) ?_
              refine r_ld C h 4 rfl i (rfl) (by omega) (by decide) (x := nI ((hpp K (hgr n F w) ρ i) i)) (rfl) dX8_goesBy_82 ?_
              refine lv_istore_n (lv' := [(3, .int (nI ((hpp K (hgr n F w) ρ i) i))), (2, .int (nI ((hpp K (hgr n F w) ρ i) (i + 1)))), (0, .ref p0), (1, .int (nI (i + 1)))]) hx hb dX8_goesBy_83 rfl hl (by decide) rfl (fun ls hl => ?_)
              refine lv_aload_n hx hb dX8_goesBy_84 rfl (lv_at hl 2 rfl) ?_
              refine lv_iload_n hx hb dX8_goesBy_85 rfl (lv_at hl 1 rfl) ?_
              refine lv_iload_n hx hb dX8_goesBy_86 rfl (lv_at hl 0 rfl) ?_
              refine k_Vi (rest := []) (as := [.int (nI ((hpp K (hgr n F w) ρ i) (i + 1))), .int (nI ((hpp K (hgr n F w) ρ i) i))]) (wc := [(p0, .inr (8, [.ref p1, .int pgm, .ref p2, .int rdm, .int rdb, .int stt, .int (nI n), .int bar, .int hrs, .int crd, .ref p3, .ref p4, .ref p5, .ref p6, .ref p7, .int tof, .int tmu, .ref p8, .ref p9, .int bdn, .ref p10, .int snm, .ref p11, .ref p12, .ref p13, .int sdn, .int kcs, .int khr, .int ksn, .ref p14, .ref p15, .ref p16, .ref p17, .long hlg])), (p3, .inl (cI, 5, .inl K)), (p5, .inl (cI, 5, .inl (hgr n F w)))]) (wr := [(p4, .inl (cI, 5, .inl F)), (p6, .inl (cI, 5, .inl (ro (hpp K (hgr n F w) ρ i))))]) (isC := [0, 1, 3]) (isR := [2, 4]) (w2 := fun (_ : Unit) => [(p0, .inr (8, [.ref p1, .int pgm, .ref p2, .int rdm, .int rdb, .int stt, .int (nI n), .int bar, .int hrs, .int crd, .ref p3, .ref p4, .ref p5, .ref p6, .ref p7, .int tof, .int tmu, .ref p8, .ref p9, .int bdn, .ref p10, .int snm, .ref p11, .ref p12, .ref p13, .int sdn, .int kcs, .int khr, .int ksn, .ref p14, .ref p15, .ref p16, .ref p17, .long hlg])), (p3, .inl (cI, 5, .inl K)), (p4, .inl (cI, 5, .inl F)), (p5, .inl (cI, 5, .inl (hgr n F w))), (p6, .inl (cI, 5, .inl (ro (hpp K (hgr n F w) ρ i))))]) C h (c_X8_pushes l D cI cZ kS vS p0 p1 p2 p3 p4 p5 p6 p7 p8 p9 p10 p11 p12 p13 p14 p15 p16 p17 n pgm rdm rdb stt bar hrs crd tof tmu bdn snm sdn kcs khr ksn hlg (hgr n F w) K ((hpp K (hgr n F w) ρ i) (i + 1)) ((hpp K (hgr n F w) ρ i) i) (by omega) (by omega) hKb) wv_X8_pushes rfl ⟨rfl, rfl, rfl, rfl, by decide⟩ fk8 0 rfl ml_RX8_114 [2, 3, 0, 4, 1] rfl (fun _ => rfl) ⟨Nat.le_of_ble_eq_true rfl, Nat.le_of_ble_eq_true rfl⟩ ⟨Nat.le_of_ble_eq_true rfl, Nat.le_of_ble_eq_true rfl⟩ (Nat.le_of_ble_eq_true rfl) hl rfl dX8_goesBy_87 (fun r u H locs hq h => ?_)
              have h : HS D A s H locs [(p0, .inr (8, [.ref p1, .int pgm, .ref p2, .int rdm, .int rdb, .int stt, .int (nI n), .int bar, .int hrs, .int crd, .ref p3, .ref p4, .ref p5, .ref p6, .ref p7, .int tof, .int tmu, .ref p8, .ref p9, .int bdn, .ref p10, .int snm, .ref p11, .ref p12, .ref p13, .int sdn, .int kcs, .int khr, .int ksn, .ref p14, .ref p15, .ref p16, .ref p17, .long hlg])), (p3, .inl (cI, 5, .inl K)), (p4, .inl (cI, 5, .inl F)), (p5, .inl (cI, 5, .inl (hgr n F w))), (p6, .inl (cI, 5, .inl (ro (hpp K (hgr n F w) ρ i))))] := h
              have hq : r = bI (hps K (hgr n F w) ((hpp K (hgr n F w) ρ i) (i + 1)) ((hpp K (hgr n F w) ρ i) i)) := hq
              have hq := hq.symm
              subst hq
              refine lv_if_eq (tgt := 109) hx hb dX8_goesBy_90 (by decide) (fun c_90 => ?_) (fun c_90 => ?_)
              · skip
                have c_90 := bI_0.mp c_90
                have hst : ∀ j, j < 5 → ro (hpp K (hgr n F w) ρ i) j = ro (hpp K (hgr n F w) ρ (i + 1)) j := fun j _ => by rw [hpp_f c_90]
                refine lv_iinc (v := nI ((i + 1) + 1)) (lv' := [(1, .int (nI ((i + 1) + 1))), (3, .int (nI ((hpp K (hgr n F w) ρ i) i))), (2, .int (nI ((hpp K (hgr n F w) ρ i) (i + 1)))), (0, .ref p0)]) hx hb dX8_goesBy_109 hl (k := 3) rfl (nI_1 (i + 1)) (by decide) rfl (fun ls hl => ?_)
                refine lv_goto (tgt := 60) hx hb dX8_goesBy_112 (by decide) ?_
                have h := h.arr 4 (g := ro (hpp K (hgr n F w) ρ (i + 1))) rfl (hst) rfl
                exact ih60  (i + 1) (by omega) (by first | assumption | omega) _ _ _ h (lv_sub hl [3, 0] rfl)
              · skip
                have c_90 := bI_n0.mp c_90
                have hst : ∀ j, j < 5 → ro (un (un (hpp K (hgr n F w) ρ i) (i + 1) (hpp K (hgr n F w) ρ i i)) i (hpp K (hgr n F w) ρ i (i + 1))) j = ro (hpp K (hgr n F w) ρ (i + 1)) j := fun j _ => by rw [hpp_t c_90, un_comm (by omega)]
                refine lv_aload_n hx hb dX8_goesBy_93 rfl (lv_at hl 2 rfl) ?_
                refine r_get C h fk8 0 13 rfl (by decide) mf_RX8_25 rfl dX8_goesBy_94 ?_
                refine lv_iload_n hx hb dX8_goesBy_97 rfl (lv_at hl 3 rfl) ?_
                refine lv_iload_n hx hb dX8_goesBy_98 rfl (lv_at hl 0 rfl) ?_
                refine r_st C h 4 rfl (i + 1) (rfl) (by omega) (by decide) (g := ro (un (hpp K (hgr n F w) ρ i) (i + 1) ((hpp K (hgr n F w) ρ i) i))) (fun j _ => ro_un j) (ws' := [(p0, .inr (8, [.ref p1, .int pgm, .ref p2, .int rdm, .int rdb, .int stt, .int (nI n), .int bar, .int hrs, .int crd, .ref p3, .ref p4, .ref p5, .ref p6, .ref p7, .int tof, .int tmu, .ref p8, .ref p9, .int bdn, .ref p10, .int snm, .ref p11, .ref p12, .ref p13, .int sdn, .int kcs, .int khr, .int ksn, .ref p14, .ref p15, .ref p16, .ref p17, .long hlg])), (p3, .inl (cI, 5, .inl K)), (p4, .inl (cI, 5, .inl F)), (p5, .inl (cI, 5, .inl (hgr n F w))), (p6, .inl (cI, 5, .inl (ro (un (hpp K (hgr n F w) ρ i) (i + 1) ((hpp K (hgr n F w) ρ i) i)))))]) rfl dX8_goesBy_99 (fun H locs h => ?_)
                refine lv_aload_n hx hb dX8_goesBy_100 rfl (lv_at hl 2 rfl) ?_
                refine r_get C h fk8 0 13 rfl (by decide) mf_RX8_25 rfl dX8_goesBy_101 ?_
                refine lv_iload_n hx hb dX8_goesBy_104 rfl (lv_at hl 3 rfl) ?_
                refine lv_iconst (v := 1) hx hb dX8_goesBy_105 (by decide) ?_
                refine lv_isub hx hb dX8_goesBy_106 ?_
                refine r_top (y := nI ((i + 1) - 1)) (pk_sub (a := (i + 1)) (b := 1) (by omega)) ?_
                refine lv_iload_n hx hb dX8_goesBy_107 rfl (lv_at hl 1 rfl) ?_
                refine r_st C h 4 rfl i (rfl) (by omega) (by decide) (g := ro (un (un (hpp K (hgr n F w) ρ i) (i + 1) ((hpp K (hgr n F w) ρ i) i)) i ((hpp K (hgr n F w) ρ i) (i + 1)))) (fun j _ => ro_un j) (ws' := [(p0, .inr (8, [.ref p1, .int pgm, .ref p2, .int rdm, .int rdb, .int stt, .int (nI n), .int bar, .int hrs, .int crd, .ref p3, .ref p4, .ref p5, .ref p6, .ref p7, .int tof, .int tmu, .ref p8, .ref p9, .int bdn, .ref p10, .int snm, .ref p11, .ref p12, .ref p13, .int sdn, .int kcs, .int khr, .int ksn, .ref p14, .ref p15, .ref p16, .ref p17, .long hlg])), (p3, .inl (cI, 5, .inl K)), (p4, .inl (cI, 5, .inl F)), (p5, .inl (cI, 5, .inl (hgr n F w))), (p6, .inl (cI, 5, .inl (ro (un (un (hpp K (hgr n F w) ρ i) (i + 1) ((hpp K (hgr n F w) ρ i) i)) i ((hpp K (hgr n F w) ρ i) (i + 1))))))]) rfl dX8_goesBy_108 (fun H locs h => ?_)
                refine lv_iinc (v := nI ((i + 1) + 1)) (lv' := [(1, .int (nI ((i + 1) + 1))), (3, .int (nI ((hpp K (hgr n F w) ρ i) i))), (2, .int (nI ((hpp K (hgr n F w) ρ i) (i + 1)))), (0, .ref p0)]) hx hb dX8_goesBy_109 hl (k := 3) rfl (nI_1 (i + 1)) (by decide) rfl (fun ls hl => ?_)
                refine lv_goto (tgt := 60) hx hb dX8_goesBy_112 (by decide) ?_
                have h := h.arr 4 (g := ro (hpp K (hgr n F w) ρ (i + 1))) rfl (hst) rfl
                exact ih60  (i + 1) (by omega) (by first | assumption | omega) _ _ _ h (lv_sub hl [3, 0] rfl)
        have h := h.arr 4 (g := ro (hpp K (hgr n F w) ρ 0)) rfl (fun j _ => rfl) rfl
        exact L60 ((n - 0) + 1) 0 (by omega) (by first | assumption | omega) _ _ _ h (lv_sub hl [1, 0] rfl)
      · skip
        have c_7 : ¬ n ≤ i := fun z => c_7 ((jle (a := n) (b := i) (by omega) (by omega)).mpr z)
        have hlt : i < n := by omega
        refine lv_aload_n hx hb dX8_goesBy_10 rfl (lv_at hl 0 rfl) ?_
        refine r_get C h fk8 0 12 rfl (by decide) mf_RX8_22 rfl dX8_goesBy_11 ?_
        refine lv_iload_n hx hb dX8_goesBy_14 rfl (lv_at hl 1 rfl) ?_
        refine lv_aload_n hx hb dX8_goesBy_15 rfl (lv_at hl 0 rfl) ?_
        refine r_get C h fk8 0 12 rfl (by decide) mf_RX8_22 rfl dX8_goesBy_16 ?_
        refine lv_iload_n hx hb dX8_goesBy_19 rfl (lv_at hl 1 rfl) ?_
        refine r_ld C h 3 rfl i (rfl) (by omega) (by decide) (x := (hgr i F w) i) (rfl) dX8_goesBy_20 ?_
        refine lv_aload_n hx hb dX8_goesBy_21 rfl (lv_at hl 0 rfl) ?_
        refine r_get C h fk8 0 11 rfl (by decide) mf_RX8_19 rfl dX8_goesBy_22 ?_
        refine lv_iload_n hx hb dX8_goesBy_25 rfl (lv_at hl 1 rfl) ?_
        refine r_ld C h 2 rfl i (rfl) (by omega) (by decide) (x := F i) (rfl) dX8_goesBy_26 ?_
        refine lv_iadd hx hb dX8_goesBy_27 ?_
        refine lv_bipush (v := 99) hx hb dX8_goesBy_28 (by decide) ?_
        refine lv_icmp_le (tgt := 38) hx hb dX8_goesBy_30 (by decide) (fun c_30 => ?_) (fun c_30 => ?_)
        · skip
          refine lv_aload_n hx hb dX8_goesBy_38 rfl (lv_at hl 0 rfl) ?_
          refine r_get C h fk8 0 12 rfl (by decide) mf_RX8_22 rfl dX8_goesBy_39 ?_
          refine lv_iload_n hx hb dX8_goesBy_42 rfl (lv_at hl 1 rfl) ?_
          refine r_ld C h 3 rfl i (rfl) (by omega) (by decide) (x := (hgr i F w) i) (rfl) dX8_goesBy_43 ?_
          refine lv_aload_n hx hb dX8_goesBy_44 rfl (lv_at hl 0 rfl) ?_
          refine r_get C h fk8 0 11 rfl (by decide) mf_RX8_19 rfl dX8_goesBy_45 ?_
          refine lv_iload_n hx hb dX8_goesBy_48 rfl (lv_at hl 1 rfl) ?_
          refine r_ld C h 2 rfl i (rfl) (by omega) (by decide) (x := F i) (rfl) dX8_goesBy_49 ?_
          refine lv_iadd hx hb dX8_goesBy_50 ?_
          refine r_top (y := hcap (hgr i F w i + F i)) (by first | exact (hcap_t c_30).symm | exact (hcap_f c_30).symm) ?_
          refine r_st C h 3 rfl i (rfl) (by omega) (by decide) (g := upd (hgr i F w) i (hcap (hgr i F w i + F i))) (fun _ _ => rfl) (ws' := [(p0, .inr (8, [.ref p1, .int pgm, .ref p2, .int rdm, .int rdb, .int stt, .int (nI n), .int bar, .int hrs, .int crd, .ref p3, .ref p4, .ref p5, .ref p6, .ref p7, .int tof, .int tmu, .ref p8, .ref p9, .int bdn, .ref p10, .int snm, .ref p11, .ref p12, .ref p13, .int sdn, .int kcs, .int khr, .int ksn, .ref p14, .ref p15, .ref p16, .ref p17, .long hlg])), (p3, .inl (cI, 5, .inl K)), (p4, .inl (cI, 5, .inl F)), (p5, .inl (cI, 5, .inl (upd (hgr i F w) i (hcap (hgr i F w i + F i))))), (p6, .inl (cI, 5, .inl (ro ρ)))]) rfl dX8_goesBy_51 (fun H locs h => ?_)
          refine lv_iinc (v := nI (i + 1)) (lv' := [(1, .int (nI (i + 1))), (0, .ref p0)]) hx hb dX8_goesBy_52 hl (k := 1) rfl (nI_1 i) (by decide) rfl (fun ls hl => ?_)
          refine lv_goto (tgt := 2) hx hb dX8_goesBy_55 (by decide) ?_
          have h := h.arr 3 (g := hgr (i + 1) F w) rfl (fun j _ => hgr_s j) rfl
          exact ih2  (i + 1) (by omega) (by first | assumption | omega) _ _ _ h (lv_sub hl [1, 0] rfl)
        · skip
          refine lv_bipush (v := 99) hx hb dX8_goesBy_33 (by decide) ?_
          refine lv_goto (tgt := 51) hx hb dX8_goesBy_35 (by decide) ?_
          refine r_top (y := hcap (hgr i F w i + F i)) (by first | exact (hcap_t c_30).symm | exact (hcap_f c_30).symm) ?_
          refine r_st C h 3 rfl i (rfl) (by omega) (by decide) (g := upd (hgr i F w) i (hcap (hgr i F w i + F i))) (fun _ _ => rfl) (ws' := [(p0, .inr (8, [.ref p1, .int pgm, .ref p2, .int rdm, .int rdb, .int stt, .int (nI n), .int bar, .int hrs, .int crd, .ref p3, .ref p4, .ref p5, .ref p6, .ref p7, .int tof, .int tmu, .ref p8, .ref p9, .int bdn, .ref p10, .int snm, .ref p11, .ref p12, .ref p13, .int sdn, .int kcs, .int khr, .int ksn, .ref p14, .ref p15, .ref p16, .ref p17, .long hlg])), (p3, .inl (cI, 5, .inl K)), (p4, .inl (cI, 5, .inl F)), (p5, .inl (cI, 5, .inl (upd (hgr i F w) i (hcap (hgr i F w i + F i))))), (p6, .inl (cI, 5, .inl (ro ρ)))]) rfl dX8_goesBy_51 (fun H locs h => ?_)
          refine lv_iinc (v := nI (i + 1)) (lv' := [(1, .int (nI (i + 1))), (0, .ref p0)]) hx hb dX8_goesBy_52 hl (k := 1) rfl (nI_1 i) (by decide) rfl (fun ls hl => ?_)
          refine lv_goto (tgt := 2) hx hb dX8_goesBy_55 (by decide) ?_
          have h := h.arr 3 (g := hgr (i + 1) F w) rfl (fun j _ => hgr_s j) rfl
          exact ih2  (i + 1) (by omega) (by first | assumption | omega) _ _ _ h (lv_sub hl [1, 0] rfl)
  have h := h.arr 3 (g := hgr 0 F w) rfl (fun j _ => by rw [hgr_0]) rfl
  exact L2 ((n - 0) + 1) 0 (by omega) (by first | assumption | omega) _ _ _ h (lv_sub hl [1, 0] rfl)

set_option maxHeartbeats 4000000 in
set_option maxRecDepth 100000 in
theorem c_X8_standing (l : Launch) (D : va_G) (cI cZ : ClassId) (kS vS : Nat) (p0 : Nat) (p1 : Nat) (p2 : Nat) (p3 : Nat) (p4 : Nat) (p5 : Nat) (p6 : Nat) (p7 : Nat) (p8 : Nat) (p9 : Nat) (p10 : Nat) (p11 : Nat) (p12 : Nat) (p13 : Nat) (p14 : Nat) (p15 : Nat) (p16 : Nat) (p17 : Nat) (n : Nat) (pgm : Int32) (rdm : Int32) (rdb : Int32) (stt : Int32) (bar : Int32) (hrs : Int32) (crd : Int32) (tof : Int32) (tmu : Int32) (bdn : Int32) (snm : Int32) (sdn : Int32) (kcs : Int32) (khr : Int32) (ksn : Int32) (hlg : Int64) (w : Nat → Int32) (hn5 : n ≤ 5) : CI l yX8_standing cX8_standing 3 .int D cI cZ kS vS 0 0 0 0 [.ref p0] [(p0, .inr (8, [.ref p1, .int pgm, .ref p2, .int rdm, .int rdb, .int stt, .int (nI n), .int bar, .int hrs, .int crd, .ref p3, .ref p4, .ref p5, .ref p6, .ref p7, .int tof, .int tmu, .ref p8, .ref p9, .int bdn, .ref p10, .int snm, .ref p11, .ref p12, .ref p13, .int sdn, .int kcs, .int khr, .int ksn, .ref p14, .ref p15, .ref p16, .ref p17, .long hlg])), (p5, .inl (cI, 5, .inl w))] (fun (r : Int32) (_ : Unit) => r = hsum w n) (fun (_ : Unit) => [(p0, .inr (8, [.ref p1, .int pgm, .ref p2, .int rdm, .int rdb, .int stt, .int (nI n), .int bar, .int hrs, .int crd, .ref p3, .ref p4, .ref p5, .ref p6, .ref p7, .int tof, .int tmu, .ref p8, .ref p9, .int bdn, .ref p10, .int snm, .ref p11, .ref p12, .ref p13, .int sdn, .int kcs, .int khr, .int ksn, .ref p14, .ref p15, .ref p16, .ref p17, .long hlg])), (p5, .inl (cI, 5, .inl w))]) := by
  refine CI_intro (by decide) (Nat.le_of_ble_eq_true rfl) ?_
  intro p e s m args below meth c A Q ls C h hret hl
  have C : CX p s m args c cX8_standing 3 RX8 D cI cZ kS vS A := C
  have hx := C.1.1
  have hb := C.1.2.1
  have hl : lv_has ls 3 [(0, .ref p0)] := hl
  refine lv_iconst (v := 0) hx hb dX8_standing_0 (by decide) ?_
  refine lv_istore_n (lv' := [(1, .int 0), (0, .ref p0)]) hx hb dX8_standing_1 rfl hl (by decide) rfl (fun ls hl => ?_)
  refine lv_iconst (v := 0) hx hb dX8_standing_2 (by decide) ?_
  refine lv_istore_n (lv' := [(2, .int 0), (1, .int 0), (0, .ref p0)]) hx hb dX8_standing_3 rfl hl (by decide) rfl (fun ls hl => ?_)
  have L4 : ∀ (fu : Nat) (i : Nat), (n - i) < fu → (hi : i ≤ n) → ∀ (H : Heap) (locs : List Loc) (ls : Array Slot), HS D A s H locs [(p0, .inr (8, [.ref p1, .int pgm, .ref p2, .int rdm, .int rdb, .int stt, .int (nI n), .int bar, .int hrs, .int crd, .ref p3, .ref p4, .ref p5, .ref p6, .ref p7, .int tof, .int tmu, .ref p8, .ref p9, .int bdn, .ref p10, .int snm, .ref p11, .ref p12, .ref p13, .int sdn, .int kcs, .int khr, .int ksn, .ref p14, .ref p15, .ref p16, .ref p17, .long hlg])), (p5, .inl (cI, 5, .inl w))] → lv_has ls 3 [(0, .ref p0), (1, .int (hsum w i)), (2, .int (nI i))] → W p l e (rmO 0 0 0 0) s m args below meth c H locs 0 0 Q (F0 m 4 ls []) := by
    intro fu
    induction fu with
    | zero => intro i hfu; exact absurd hfu (Nat.not_lt_zero _)
    | succ fu ih4 =>
      intro i hfu hi H locs ls h hl
      refine lv_iload_n hx hb dX8_standing_4 rfl (lv_at hl 2 rfl) ?_
      refine lv_aload_n hx hb dX8_standing_5 rfl (lv_at hl 0 rfl) ?_
      refine r_get C h fk8 0 6 rfl (by decide) mf_RX8_99 rfl dX8_standing_6 ?_
      refine lv_icmp_ge (tgt := 27) hx hb dX8_standing_9 (by decide) (fun c_9 => ?_) (fun c_9 => ?_)
      · skip
        have c_9 := (jle (a := n) (b := i) (by omega) (by omega)).mp c_9
        obtain rfl : n = i := by omega
        refine lv_iload_n hx hb dX8_standing_27 rfl (lv_at hl 1 rfl) ?_
        exact hret (r := hsum w n) () dX8_standing_28 h (rfl) (rfl)
      · skip
        have c_9 : ¬ n ≤ i := fun z => c_9 ((jle (a := n) (b := i) (by omega) (by omega)).mpr z)
        have hlt : i < n := by omega
        refine lv_iload_n hx hb dX8_standing_12 rfl (lv_at hl 1 rfl) ?_
        refine lv_aload_n hx hb dX8_standing_13 rfl (lv_at hl 0 rfl) ?_
        refine r_get C h fk8 0 12 rfl (by decide) mf_RX8_22 rfl dX8_standing_14 ?_
        refine lv_iload_n hx hb dX8_standing_17 rfl (lv_at hl 2 rfl) ?_
        refine r_ld C h 1 rfl i (rfl) (by omega) (by decide) (x := w i) (rfl) dX8_standing_18 ?_
        refine lv_iadd hx hb dX8_standing_19 ?_
        refine r_top (y := hsum w (i + 1)) (rfl) ?_
        refine lv_istore_n (lv' := [(1, .int (hsum w (i + 1))), (0, .ref p0), (2, .int (nI i))]) hx hb dX8_standing_20 rfl hl (by decide) rfl (fun ls hl => ?_)
        refine lv_iinc (v := nI (i + 1)) (lv' := [(2, .int (nI (i + 1))), (1, .int (hsum w (i + 1))), (0, .ref p0)]) hx hb dX8_standing_21 hl (k := 2) rfl (nI_1 i) (by decide) rfl (fun ls hl => ?_)
        refine lv_goto (tgt := 4) hx hb dX8_standing_24 (by decide) ?_
        exact ih4  (i + 1) (by omega) (by first | assumption | omega) _ _ _ h (lv_sub hl [2, 1, 0] rfl)
  exact L4 ((n - 0) + 1) 0 (by omega) (by first | assumption | omega) _ _ _ h (lv_sub hl [2, 1, 0] rfl)

set_option maxHeartbeats 4000000 in
set_option maxRecDepth 100000 in
theorem c_X8_takenAll (l : Launch) (D : va_G) (cI cZ : ClassId) (kS vS : Nat) (p0 : Nat) (p1 : Nat) (p2 : Nat) (p3 : Nat) (p4 : Nat) (p5 : Nat) (p6 : Nat) (p7 : Nat) (p8 : Nat) (p9 : Nat) (p10 : Nat) (p11 : Nat) (p12 : Nat) (p13 : Nat) (p14 : Nat) (p15 : Nat) (p16 : Nat) (p17 : Nat) (n : Nat) (pgm : Int32) (rdm : Int32) (rdb : Int32) (stt : Int32) (bar : Int32) (hrs : Int32) (crd : Int32) (tof : Int32) (tmu : Int32) (bdn : Int32) (snm : Int32) (sdn : Int32) (kcs : Int32) (khr : Int32) (ksn : Int32) (hlg : Int64) (tk : Nat → Int32) (hn5 : n ≤ 5) : CI l yX8_takenAll cX8_takenAll 3 .int D cI cZ kS vS 0 0 0 0 [.ref p0] [(p0, .inr (8, [.ref p1, .int pgm, .ref p2, .int rdm, .int rdb, .int stt, .int (nI n), .int bar, .int hrs, .int crd, .ref p3, .ref p4, .ref p5, .ref p6, .ref p7, .int tof, .int tmu, .ref p8, .ref p9, .int bdn, .ref p10, .int snm, .ref p11, .ref p12, .ref p13, .int sdn, .int kcs, .int khr, .int ksn, .ref p14, .ref p15, .ref p16, .ref p17, .long hlg])), (p7, .inl (cI, 5, .inl tk))] (fun (r : Int32) (_ : Unit) => r = hsum tk n) (fun (_ : Unit) => [(p0, .inr (8, [.ref p1, .int pgm, .ref p2, .int rdm, .int rdb, .int stt, .int (nI n), .int bar, .int hrs, .int crd, .ref p3, .ref p4, .ref p5, .ref p6, .ref p7, .int tof, .int tmu, .ref p8, .ref p9, .int bdn, .ref p10, .int snm, .ref p11, .ref p12, .ref p13, .int sdn, .int kcs, .int khr, .int ksn, .ref p14, .ref p15, .ref p16, .ref p17, .long hlg])), (p7, .inl (cI, 5, .inl tk))]) := by
  refine CI_intro (by decide) (Nat.le_of_ble_eq_true rfl) ?_
  intro p e s m args below meth c A Q ls C h hret hl
  have C : CX p s m args c cX8_takenAll 3 RX8 D cI cZ kS vS A := C
  have hx := C.1.1
  have hb := C.1.2.1
  have hl : lv_has ls 3 [(0, .ref p0)] := hl
  refine lv_iconst (v := 0) hx hb dX8_takenAll_0 (by decide) ?_
  refine lv_istore_n (lv' := [(1, .int 0), (0, .ref p0)]) hx hb dX8_takenAll_1 rfl hl (by decide) rfl (fun ls hl => ?_)
  refine lv_iconst (v := 0) hx hb dX8_takenAll_2 (by decide) ?_
  refine lv_istore_n (lv' := [(2, .int 0), (1, .int 0), (0, .ref p0)]) hx hb dX8_takenAll_3 rfl hl (by decide) rfl (fun ls hl => ?_)
  have L4 : ∀ (fu : Nat) (i : Nat), (n - i) < fu → (hi : i ≤ n) → ∀ (H : Heap) (locs : List Loc) (ls : Array Slot), HS D A s H locs [(p0, .inr (8, [.ref p1, .int pgm, .ref p2, .int rdm, .int rdb, .int stt, .int (nI n), .int bar, .int hrs, .int crd, .ref p3, .ref p4, .ref p5, .ref p6, .ref p7, .int tof, .int tmu, .ref p8, .ref p9, .int bdn, .ref p10, .int snm, .ref p11, .ref p12, .ref p13, .int sdn, .int kcs, .int khr, .int ksn, .ref p14, .ref p15, .ref p16, .ref p17, .long hlg])), (p7, .inl (cI, 5, .inl tk))] → lv_has ls 3 [(0, .ref p0), (1, .int (hsum tk i)), (2, .int (nI i))] → W p l e (rmO 0 0 0 0) s m args below meth c H locs 0 0 Q (F0 m 4 ls []) := by
    intro fu
    induction fu with
    | zero => intro i hfu; exact absurd hfu (Nat.not_lt_zero _)
    | succ fu ih4 =>
      intro i hfu hi H locs ls h hl
      refine lv_iload_n hx hb dX8_takenAll_4 rfl (lv_at hl 2 rfl) ?_
      refine lv_aload_n hx hb dX8_takenAll_5 rfl (lv_at hl 0 rfl) ?_
      refine r_get C h fk8 0 6 rfl (by decide) mf_RX8_99 rfl dX8_takenAll_6 ?_
      refine lv_icmp_ge (tgt := 27) hx hb dX8_takenAll_9 (by decide) (fun c_9 => ?_) (fun c_9 => ?_)
      · skip
        have c_9 := (jle (a := n) (b := i) (by omega) (by omega)).mp c_9
        obtain rfl : n = i := by omega
        refine lv_iload_n hx hb dX8_takenAll_27 rfl (lv_at hl 1 rfl) ?_
        exact hret (r := hsum tk n) () dX8_takenAll_28 h (rfl) (rfl)
      · skip
        have c_9 : ¬ n ≤ i := fun z => c_9 ((jle (a := n) (b := i) (by omega) (by omega)).mpr z)
        have hlt : i < n := by omega
        refine lv_iload_n hx hb dX8_takenAll_12 rfl (lv_at hl 1 rfl) ?_
        refine lv_aload_n hx hb dX8_takenAll_13 rfl (lv_at hl 0 rfl) ?_
        refine r_get C h fk8 0 14 rfl (by decide) mf_RX8_28 rfl dX8_takenAll_14 ?_
        refine lv_iload_n hx hb dX8_takenAll_17 rfl (lv_at hl 2 rfl) ?_
        refine r_ld C h 1 rfl i (rfl) (by omega) (by decide) (x := tk i) (rfl) dX8_takenAll_18 ?_
        refine lv_iadd hx hb dX8_takenAll_19 ?_
        refine r_top (y := hsum tk (i + 1)) (rfl) ?_
        refine lv_istore_n (lv' := [(1, .int (hsum tk (i + 1))), (0, .ref p0), (2, .int (nI i))]) hx hb dX8_takenAll_20 rfl hl (by decide) rfl (fun ls hl => ?_)
        refine lv_iinc (v := nI (i + 1)) (lv' := [(2, .int (nI (i + 1))), (1, .int (hsum tk (i + 1))), (0, .ref p0)]) hx hb dX8_takenAll_21 hl (k := 2) rfl (nI_1 i) (by decide) rfl (fun ls hl => ?_)
        refine lv_goto (tgt := 4) hx hb dX8_takenAll_24 (by decide) ?_
        exact ih4  (i + 1) (by omega) (by first | assumption | omega) _ _ _ h (lv_sub hl [2, 1, 0] rfl)
  exact L4 ((n - 0) + 1) 0 (by omega) (by first | assumption | omega) _ _ _ h (lv_sub hl [2, 1, 0] rfl)

set_option maxHeartbeats 4000000 in
set_option maxRecDepth 100000 in
theorem c_X8_layAside (l : Launch) (D : va_G) (cI cZ : ClassId) (kS vS : Nat) (p0 : Nat) (p1 : Nat) (p2 : Nat) (p3 : Nat) (p4 : Nat) (p5 : Nat) (p6 : Nat) (p7 : Nat) (p8 : Nat) (p9 : Nat) (p10 : Nat) (p11 : Nat) (p12 : Nat) (p13 : Nat) (p14 : Nat) (p15 : Nat) (p16 : Nat) (p17 : Nat) (n : Nat) (pgm : Int32) (rdm : Int32) (rdb : Int32) (stt : Int32) (bar : Int32) (hrs : Int32) (crd : Int32) (tof : Int32) (tmu : Int32) (bdn : Int32) (snm : Int32) (sdn : Int32) (kcs : Int32) (khr : Int32) (ksn : Int32) (hlg : Int64) (f1 : Nat → Int32) (f2 : Nat → Int32) (g1 : Nat → Int32) (g2 : Nat → Int32)  : CV l yX8_layAside cX8_layAside 1 D cI cZ kS vS 1 22 0 0 [.ref p0] [(p0, .inr (8, [.ref p1, .int pgm, .ref p2, .int rdm, .int rdb, .int stt, .int (nI n), .int bar, .int hrs, .int crd, .ref p3, .ref p4, .ref p5, .ref p6, .ref p7, .int tof, .int tmu, .ref p8, .ref p9, .int bdn, .ref p10, .int snm, .ref p11, .ref p12, .ref p13, .int sdn, .int kcs, .int khr, .int ksn, .ref p14, .ref p15, .ref p16, .ref p17, .long hlg])), (p5, .inl (cI, 5, .inl f1)), (p6, .inl (cI, 5, .inl f2)), (p8, .inl (cI, 5, .inl g1)), (p9, .inl (cI, 5, .inl g2))] (fun (_ : Unit) => True) (fun (_ : Unit) => [(p0, .inr (8, [.ref p1, .int pgm, .ref p2, .int rdm, .int rdb, .int stt, .int (nI n), .int bar, .int hrs, .int crd, .ref p3, .ref p4, .ref p5, .ref p6, .ref p7, .int tof, .int tmu, .ref p8, .ref p9, .int bdn, .ref p10, .int snm, .ref p11, .ref p12, .ref p13, .int sdn, .int kcs, .int khr, .int ksn, .ref p14, .ref p15, .ref p16, .ref p17, .long hlg])), (p5, .inl (cI, 5, .inl f1)), (p6, .inl (cI, 5, .inl f2)), (p8, .inl (cI, 5, .inl f1)), (p9, .inl (cI, 5, .inl f2))]) := by
  refine CV_intro (by decide) (Nat.le_of_ble_eq_true rfl) ?_
  intro p e s m args below meth c A Q ls C hini h hret hl
  have C : CX p s m args c cX8_layAside 1 RX8 D cI cZ kS vS A := C
  have hx := C.1.1
  have hb := C.1.2.1
  have hl : lv_has ls 1 [(0, .ref p0)] := hl
  refine lv_aload_n hx hb dX8_layAside_0 rfl (lv_at hl 0 rfl) ?_
  refine r_get C h fk8 0 12 rfl (by decide) mf_RX8_22 rfl dX8_layAside_1 ?_
  refine lv_aload_n hx hb dX8_layAside_4 rfl (lv_at hl 0 rfl) ?_
  refine r_get C h fk8 0 17 rfl (by decide) mf_RX8_31 rfl dX8_layAside_5 ?_
  refine k_Sv (rest := []) (as := [.ref p5, .ref p8]) (wc := [(p5, .inl (cI, 5, .inl f1)), (p8, .inl (cI, 5, .inl g1))]) (wr := [(p0, .inr (8, [.ref p1, .int pgm, .ref p2, .int rdm, .int rdb, .int stt, .int (nI n), .int bar, .int hrs, .int crd, .ref p3, .ref p4, .ref p5, .ref p6, .ref p7, .int tof, .int tmu, .ref p8, .ref p9, .int bdn, .ref p10, .int snm, .ref p11, .ref p12, .ref p13, .int sdn, .int kcs, .int khr, .int ksn, .ref p14, .ref p15, .ref p16, .ref p17, .long hlg])), (p6, .inl (cI, 5, .inl f2)), (p9, .inl (cI, 5, .inl g2))]) (isC := [1, 3]) (isR := [0, 2, 4]) (w2 := fun (_ : Unit) => [(p0, .inr (8, [.ref p1, .int pgm, .ref p2, .int rdm, .int rdb, .int stt, .int (nI n), .int bar, .int hrs, .int crd, .ref p3, .ref p4, .ref p5, .ref p6, .ref p7, .int tof, .int tmu, .ref p8, .ref p9, .int bdn, .ref p10, .int snm, .ref p11, .ref p12, .ref p13, .int sdn, .int kcs, .int khr, .int ksn, .ref p14, .ref p15, .ref p16, .ref p17, .long hlg])), (p5, .inl (cI, 5, .inl f1)), (p6, .inl (cI, 5, .inl f2)), (p8, .inl (cI, 5, .inl f1)), (p9, .inl (cI, 5, .inl g2))]) C h (c_X8_copy5 l D cI cZ kS vS p5 p8 f1 g1 ) wv_X8_copy rfl ⟨rfl, rfl, rfl, rfl, by decide⟩ ml_RX8_128 [0, 3, 1, 4, 2] rfl (fun _ => rfl) ⟨Nat.le_of_ble_eq_true rfl, Nat.le_of_ble_eq_true rfl⟩ ⟨Nat.le_of_ble_eq_true rfl, Nat.le_of_ble_eq_true rfl⟩ (Nat.le_of_ble_eq_true rfl) hl rfl dX8_layAside_8 (fun u H locs hq h => ?_)
  have h : HS D A s H locs [(p0, .inr (8, [.ref p1, .int pgm, .ref p2, .int rdm, .int rdb, .int stt, .int (nI n), .int bar, .int hrs, .int crd, .ref p3, .ref p4, .ref p5, .ref p6, .ref p7, .int tof, .int tmu, .ref p8, .ref p9, .int bdn, .ref p10, .int snm, .ref p11, .ref p12, .ref p13, .int sdn, .int kcs, .int khr, .int ksn, .ref p14, .ref p15, .ref p16, .ref p17, .long hlg])), (p5, .inl (cI, 5, .inl f1)), (p6, .inl (cI, 5, .inl f2)), (p8, .inl (cI, 5, .inl f1)), (p9, .inl (cI, 5, .inl g2))] := h
  have hq : True := hq
  refine lv_aload_n hx hb dX8_layAside_11 rfl (lv_at hl 0 rfl) ?_
  refine r_get C h fk8 0 13 rfl (by decide) mf_RX8_25 rfl dX8_layAside_12 ?_
  refine lv_aload_n hx hb dX8_layAside_15 rfl (lv_at hl 0 rfl) ?_
  refine r_get C h fk8 0 18 rfl (by decide) mf_RX8_34 rfl dX8_layAside_16 ?_
  refine k_Sv (rest := []) (as := [.ref p6, .ref p9]) (wc := [(p6, .inl (cI, 5, .inl f2)), (p9, .inl (cI, 5, .inl g2))]) (wr := [(p0, .inr (8, [.ref p1, .int pgm, .ref p2, .int rdm, .int rdb, .int stt, .int (nI n), .int bar, .int hrs, .int crd, .ref p3, .ref p4, .ref p5, .ref p6, .ref p7, .int tof, .int tmu, .ref p8, .ref p9, .int bdn, .ref p10, .int snm, .ref p11, .ref p12, .ref p13, .int sdn, .int kcs, .int khr, .int ksn, .ref p14, .ref p15, .ref p16, .ref p17, .long hlg])), (p5, .inl (cI, 5, .inl f1)), (p8, .inl (cI, 5, .inl f1))]) (isC := [2, 4]) (isR := [0, 1, 3]) (w2 := fun (_ : Unit) => [(p0, .inr (8, [.ref p1, .int pgm, .ref p2, .int rdm, .int rdb, .int stt, .int (nI n), .int bar, .int hrs, .int crd, .ref p3, .ref p4, .ref p5, .ref p6, .ref p7, .int tof, .int tmu, .ref p8, .ref p9, .int bdn, .ref p10, .int snm, .ref p11, .ref p12, .ref p13, .int sdn, .int kcs, .int khr, .int ksn, .ref p14, .ref p15, .ref p16, .ref p17, .long hlg])), (p5, .inl (cI, 5, .inl f1)), (p6, .inl (cI, 5, .inl f2)), (p8, .inl (cI, 5, .inl f1)), (p9, .inl (cI, 5, .inl f2))]) C h (c_X8_copy5 l D cI cZ kS vS p6 p9 f2 g2 ) wv_X8_copy rfl ⟨rfl, rfl, rfl, rfl, by decide⟩ ml_RX8_128 [0, 1, 3, 2, 4] rfl (fun _ => rfl) ⟨Nat.le_of_ble_eq_true rfl, Nat.le_of_ble_eq_true rfl⟩ ⟨Nat.le_of_ble_eq_true rfl, Nat.le_of_ble_eq_true rfl⟩ (Nat.le_of_ble_eq_true rfl) hl rfl dX8_layAside_19 (fun u H locs hq h => ?_)
  have h : HS D A s H locs [(p0, .inr (8, [.ref p1, .int pgm, .ref p2, .int rdm, .int rdb, .int stt, .int (nI n), .int bar, .int hrs, .int crd, .ref p3, .ref p4, .ref p5, .ref p6, .ref p7, .int tof, .int tmu, .ref p8, .ref p9, .int bdn, .ref p10, .int snm, .ref p11, .ref p12, .ref p13, .int sdn, .int kcs, .int khr, .int ksn, .ref p14, .ref p15, .ref p16, .ref p17, .long hlg])), (p5, .inl (cI, 5, .inl f1)), (p6, .inl (cI, 5, .inl f2)), (p8, .inl (cI, 5, .inl f1)), (p9, .inl (cI, 5, .inl f2))] := h
  have hq : True := hq
  exact hret () dX8_layAside_22 h (trivial)

set_option maxHeartbeats 4000000 in
set_option maxRecDepth 100000 in
theorem c_X8_layBack (l : Launch) (D : va_G) (cI cZ : ClassId) (kS vS : Nat) (p0 : Nat) (p1 : Nat) (p2 : Nat) (p3 : Nat) (p4 : Nat) (p5 : Nat) (p6 : Nat) (p7 : Nat) (p8 : Nat) (p9 : Nat) (p10 : Nat) (p11 : Nat) (p12 : Nat) (p13 : Nat) (p14 : Nat) (p15 : Nat) (p16 : Nat) (p17 : Nat) (n : Nat) (pgm : Int32) (rdm : Int32) (rdb : Int32) (stt : Int32) (bar : Int32) (hrs : Int32) (crd : Int32) (tof : Int32) (tmu : Int32) (bdn : Int32) (snm : Int32) (sdn : Int32) (kcs : Int32) (khr : Int32) (ksn : Int32) (hlg : Int64) (f1 : Nat → Int32) (f2 : Nat → Int32) (g1 : Nat → Int32) (g2 : Nat → Int32)  : CV l yX8_layBack cX8_layBack 1 D cI cZ kS vS 1 22 0 0 [.ref p0] [(p0, .inr (8, [.ref p1, .int pgm, .ref p2, .int rdm, .int rdb, .int stt, .int (nI n), .int bar, .int hrs, .int crd, .ref p3, .ref p4, .ref p5, .ref p6, .ref p7, .int tof, .int tmu, .ref p8, .ref p9, .int bdn, .ref p10, .int snm, .ref p11, .ref p12, .ref p13, .int sdn, .int kcs, .int khr, .int ksn, .ref p14, .ref p15, .ref p16, .ref p17, .long hlg])), (p8, .inl (cI, 5, .inl f1)), (p9, .inl (cI, 5, .inl f2)), (p5, .inl (cI, 5, .inl g1)), (p6, .inl (cI, 5, .inl g2))] (fun (_ : Unit) => True) (fun (_ : Unit) => [(p0, .inr (8, [.ref p1, .int pgm, .ref p2, .int rdm, .int rdb, .int stt, .int (nI n), .int bar, .int hrs, .int crd, .ref p3, .ref p4, .ref p5, .ref p6, .ref p7, .int tof, .int tmu, .ref p8, .ref p9, .int bdn, .ref p10, .int snm, .ref p11, .ref p12, .ref p13, .int sdn, .int kcs, .int khr, .int ksn, .ref p14, .ref p15, .ref p16, .ref p17, .long hlg])), (p8, .inl (cI, 5, .inl f1)), (p9, .inl (cI, 5, .inl f2)), (p5, .inl (cI, 5, .inl f1)), (p6, .inl (cI, 5, .inl f2))]) := by
  refine CV_intro (by decide) (Nat.le_of_ble_eq_true rfl) ?_
  intro p e s m args below meth c A Q ls C hini h hret hl
  have C : CX p s m args c cX8_layBack 1 RX8 D cI cZ kS vS A := C
  have hx := C.1.1
  have hb := C.1.2.1
  have hl : lv_has ls 1 [(0, .ref p0)] := hl
  refine lv_aload_n hx hb dX8_layBack_0 rfl (lv_at hl 0 rfl) ?_
  refine r_get C h fk8 0 17 rfl (by decide) mf_RX8_31 rfl dX8_layBack_1 ?_
  refine lv_aload_n hx hb dX8_layBack_4 rfl (lv_at hl 0 rfl) ?_
  refine r_get C h fk8 0 12 rfl (by decide) mf_RX8_22 rfl dX8_layBack_5 ?_
  refine k_Sv (rest := []) (as := [.ref p8, .ref p5]) (wc := [(p8, .inl (cI, 5, .inl f1)), (p5, .inl (cI, 5, .inl g1))]) (wr := [(p0, .inr (8, [.ref p1, .int pgm, .ref p2, .int rdm, .int rdb, .int stt, .int (nI n), .int bar, .int hrs, .int crd, .ref p3, .ref p4, .ref p5, .ref p6, .ref p7, .int tof, .int tmu, .ref p8, .ref p9, .int bdn, .ref p10, .int snm, .ref p11, .ref p12, .ref p13, .int sdn, .int kcs, .int khr, .int ksn, .ref p14, .ref p15, .ref p16, .ref p17, .long hlg])), (p9, .inl (cI, 5, .inl f2)), (p6, .inl (cI, 5, .inl g2))]) (isC := [1, 3]) (isR := [0, 2, 4]) (w2 := fun (_ : Unit) => [(p0, .inr (8, [.ref p1, .int pgm, .ref p2, .int rdm, .int rdb, .int stt, .int (nI n), .int bar, .int hrs, .int crd, .ref p3, .ref p4, .ref p5, .ref p6, .ref p7, .int tof, .int tmu, .ref p8, .ref p9, .int bdn, .ref p10, .int snm, .ref p11, .ref p12, .ref p13, .int sdn, .int kcs, .int khr, .int ksn, .ref p14, .ref p15, .ref p16, .ref p17, .long hlg])), (p8, .inl (cI, 5, .inl f1)), (p9, .inl (cI, 5, .inl f2)), (p5, .inl (cI, 5, .inl f1)), (p6, .inl (cI, 5, .inl g2))]) C h (c_X8_copy5 l D cI cZ kS vS p8 p5 f1 g1 ) wv_X8_copy rfl ⟨rfl, rfl, rfl, rfl, by decide⟩ ml_RX8_128 [0, 3, 1, 4, 2] rfl (fun _ => rfl) ⟨Nat.le_of_ble_eq_true rfl, Nat.le_of_ble_eq_true rfl⟩ ⟨Nat.le_of_ble_eq_true rfl, Nat.le_of_ble_eq_true rfl⟩ (Nat.le_of_ble_eq_true rfl) hl rfl dX8_layBack_8 (fun u H locs hq h => ?_)
  have h : HS D A s H locs [(p0, .inr (8, [.ref p1, .int pgm, .ref p2, .int rdm, .int rdb, .int stt, .int (nI n), .int bar, .int hrs, .int crd, .ref p3, .ref p4, .ref p5, .ref p6, .ref p7, .int tof, .int tmu, .ref p8, .ref p9, .int bdn, .ref p10, .int snm, .ref p11, .ref p12, .ref p13, .int sdn, .int kcs, .int khr, .int ksn, .ref p14, .ref p15, .ref p16, .ref p17, .long hlg])), (p8, .inl (cI, 5, .inl f1)), (p9, .inl (cI, 5, .inl f2)), (p5, .inl (cI, 5, .inl f1)), (p6, .inl (cI, 5, .inl g2))] := h
  have hq : True := hq
  refine lv_aload_n hx hb dX8_layBack_11 rfl (lv_at hl 0 rfl) ?_
  refine r_get C h fk8 0 18 rfl (by decide) mf_RX8_34 rfl dX8_layBack_12 ?_
  refine lv_aload_n hx hb dX8_layBack_15 rfl (lv_at hl 0 rfl) ?_
  refine r_get C h fk8 0 13 rfl (by decide) mf_RX8_25 rfl dX8_layBack_16 ?_
  refine k_Sv (rest := []) (as := [.ref p9, .ref p6]) (wc := [(p9, .inl (cI, 5, .inl f2)), (p6, .inl (cI, 5, .inl g2))]) (wr := [(p0, .inr (8, [.ref p1, .int pgm, .ref p2, .int rdm, .int rdb, .int stt, .int (nI n), .int bar, .int hrs, .int crd, .ref p3, .ref p4, .ref p5, .ref p6, .ref p7, .int tof, .int tmu, .ref p8, .ref p9, .int bdn, .ref p10, .int snm, .ref p11, .ref p12, .ref p13, .int sdn, .int kcs, .int khr, .int ksn, .ref p14, .ref p15, .ref p16, .ref p17, .long hlg])), (p8, .inl (cI, 5, .inl f1)), (p5, .inl (cI, 5, .inl f1))]) (isC := [2, 4]) (isR := [0, 1, 3]) (w2 := fun (_ : Unit) => [(p0, .inr (8, [.ref p1, .int pgm, .ref p2, .int rdm, .int rdb, .int stt, .int (nI n), .int bar, .int hrs, .int crd, .ref p3, .ref p4, .ref p5, .ref p6, .ref p7, .int tof, .int tmu, .ref p8, .ref p9, .int bdn, .ref p10, .int snm, .ref p11, .ref p12, .ref p13, .int sdn, .int kcs, .int khr, .int ksn, .ref p14, .ref p15, .ref p16, .ref p17, .long hlg])), (p8, .inl (cI, 5, .inl f1)), (p9, .inl (cI, 5, .inl f2)), (p5, .inl (cI, 5, .inl f1)), (p6, .inl (cI, 5, .inl f2))]) C h (c_X8_copy5 l D cI cZ kS vS p9 p6 f2 g2 ) wv_X8_copy rfl ⟨rfl, rfl, rfl, rfl, by decide⟩ ml_RX8_128 [0, 1, 3, 2, 4] rfl (fun _ => rfl) ⟨Nat.le_of_ble_eq_true rfl, Nat.le_of_ble_eq_true rfl⟩ ⟨Nat.le_of_ble_eq_true rfl, Nat.le_of_ble_eq_true rfl⟩ (Nat.le_of_ble_eq_true rfl) hl rfl dX8_layBack_19 (fun u H locs hq h => ?_)
  have h : HS D A s H locs [(p0, .inr (8, [.ref p1, .int pgm, .ref p2, .int rdm, .int rdb, .int stt, .int (nI n), .int bar, .int hrs, .int crd, .ref p3, .ref p4, .ref p5, .ref p6, .ref p7, .int tof, .int tmu, .ref p8, .ref p9, .int bdn, .ref p10, .int snm, .ref p11, .ref p12, .ref p13, .int sdn, .int kcs, .int khr, .int ksn, .ref p14, .ref p15, .ref p16, .ref p17, .long hlg])), (p8, .inl (cI, 5, .inl f1)), (p9, .inl (cI, 5, .inl f2)), (p5, .inl (cI, 5, .inl f1)), (p6, .inl (cI, 5, .inl f2))] := h
  have hq : True := hq
  exact hret () dX8_layBack_22 h (trivial)

set_option maxHeartbeats 4000000 in
set_option maxRecDepth 100000 in
theorem c_X8_placeOf (l : Launch) (D : va_G) (cI cZ : ClassId) (kS vS : Nat) (p0 : Nat) (p1 : Nat) (p2 : Nat) (p3 : Nat) (p4 : Nat) (p5 : Nat) (p6 : Nat) (p7 : Nat) (p8 : Nat) (p9 : Nat) (p10 : Nat) (p11 : Nat) (p12 : Nat) (p13 : Nat) (p14 : Nat) (p15 : Nat) (p16 : Nat) (p17 : Nat) (n : Nat) (pgm : Int32) (rdm : Int32) (rdb : Int32) (stt : Int32) (bar : Int32) (hrs : Int32) (crd : Int32) (tof : Int32) (tmu : Int32) (bdn : Int32) (snm : Int32) (sdn : Int32) (kcs : Int32) (khr : Int32) (ksn : Int32) (hlg : Int64) (ρ : Nat → Nat) (q : Nat) (hn2 : 2 ≤ n) (hn5 : n ≤ 5) (hpm : PM n ρ) (hq : q < n) : CI l yX8_placeOf cX8_placeOf 4 .int D cI cZ kS vS 0 0 0 0 [.ref p0, .int (nI (ρ q))] [(p0, .inr (8, [.ref p1, .int pgm, .ref p2, .int rdm, .int rdb, .int stt, .int (nI n), .int bar, .int hrs, .int crd, .ref p3, .ref p4, .ref p5, .ref p6, .ref p7, .int tof, .int tmu, .ref p8, .ref p9, .int bdn, .ref p10, .int snm, .ref p11, .ref p12, .ref p13, .int sdn, .int kcs, .int khr, .int ksn, .ref p14, .ref p15, .ref p16, .ref p17, .long hlg])), (p6, .inl (cI, 5, .inl (ro ρ)))] (fun (r : Int32) (_ : Unit) => r = nI q) (fun (_ : Unit) => [(p0, .inr (8, [.ref p1, .int pgm, .ref p2, .int rdm, .int rdb, .int stt, .int (nI n), .int bar, .int hrs, .int crd, .ref p3, .ref p4, .ref p5, .ref p6, .ref p7, .int tof, .int tmu, .ref p8, .ref p9, .int bdn, .ref p10, .int snm, .ref p11, .ref p12, .ref p13, .int sdn, .int kcs, .int khr, .int ksn, .ref p14, .ref p15, .ref p16, .ref p17, .long hlg])), (p6, .inl (cI, 5, .inl (ro ρ)))]) := by
  refine CI_intro (by decide) (Nat.le_of_ble_eq_true rfl) ?_
  intro p e s m args below meth c A Q ls C h hret hl
  have C : CX p s m args c cX8_placeOf 4 RX8 D cI cZ kS vS A := C
  have hx := C.1.1
  have hb := C.1.2.1
  have hl : lv_has ls 4 [(0, .ref p0), (1, .int (nI (ρ q)))] := hl
  have r0 := hpm.1 q hq
  refine lv_iconst (v := (-1)) hx hb dX8_placeOf_0 (by decide) ?_
  refine lv_istore_n (lv' := [(2, .int (-1)), (0, .ref p0), (1, .int (nI (ρ q)))]) hx hb dX8_placeOf_1 rfl hl (by decide) rfl (fun ls hl => ?_)
  refine lv_iconst (v := 0) hx hb dX8_placeOf_2 (by decide) ?_
  refine lv_istore_n (lv' := [(3, .int 0), (2, .int (-1)), (0, .ref p0), (1, .int (nI (ρ q)))]) hx hb dX8_placeOf_3 rfl hl (by decide) rfl (fun ls hl => ?_)
  have L4 : ∀ (fu : Nat) (i : Nat), (n - i) < fu → (hi : i ≤ n) → ∀ (H : Heap) (locs : List Loc) (ls : Array Slot), HS D A s H locs [(p0, .inr (8, [.ref p1, .int pgm, .ref p2, .int rdm, .int rdb, .int stt, .int (nI n), .int bar, .int hrs, .int crd, .ref p3, .ref p4, .ref p5, .ref p6, .ref p7, .int tof, .int tmu, .ref p8, .ref p9, .int bdn, .ref p10, .int snm, .ref p11, .ref p12, .ref p13, .int sdn, .int kcs, .int khr, .int ksn, .ref p14, .ref p15, .ref p16, .ref p17, .long hlg])), (p6, .inl (cI, 5, .inl (ro ρ)))] → lv_has ls 4 [(0, .ref p0), (1, .int (nI (ρ q))), (2, .int (pmo q i)), (3, .int (nI i))] → W p l e (rmO 0 0 0 0) s m args below meth c H locs 0 0 Q (F0 m 4 ls []) := by
    intro fu
    induction fu with
    | zero => intro i hfu; exact absurd hfu (Nat.not_lt_zero _)
    | succ fu ih4 =>
      intro i hfu hi H locs ls h hl
      refine lv_iload_n hx hb dX8_placeOf_4 rfl (lv_at hl 3 rfl) ?_
      refine lv_aload_n hx hb dX8_placeOf_5 rfl (lv_at hl 0 rfl) ?_
      refine r_get C h fk8 0 6 rfl (by decide) mf_RX8_99 rfl dX8_placeOf_6 ?_
      refine lv_icmp_ge (tgt := 34) hx hb dX8_placeOf_9 (by decide) (fun c_9 => ?_) (fun c_9 => ?_)
      · skip
        have c_9 := (jle (a := n) (b := i) (by omega) (by omega)).mp c_9
        obtain rfl : n = i := by omega
        have hl : lv_has ls 4 [(0, .ref p0), (1, .int (nI (ρ q))), (2, .int (nI q)), (3, .int (nI n))] := by rw [show nI q = pmo q n from (if_pos hq).symm]; exact hl
        refine lv_iload_n hx hb dX8_placeOf_34 rfl (lv_at hl 2 rfl) ?_
        exact hret (r := nI q) () dX8_placeOf_35 h (rfl) (rfl)
      · skip
        have c_9 : ¬ n ≤ i := fun z => c_9 ((jle (a := n) (b := i) (by omega) (by omega)).mpr z)
        have hlt : i < n := by omega
        have r1 := hpm.1 i hlt
        refine lv_aload_n hx hb dX8_placeOf_12 rfl (lv_at hl 0 rfl) ?_
        refine r_get C h fk8 0 13 rfl (by decide) mf_RX8_25 rfl dX8_placeOf_13 ?_
        refine lv_iload_n hx hb dX8_placeOf_16 rfl (lv_at hl 3 rfl) ?_
        refine r_ld C h 1 rfl i (rfl) (by omega) (by decide) (x := nI (ρ i)) (rfl) dX8_placeOf_17 ?_
        refine lv_iload_n hx hb dX8_placeOf_18 rfl (lv_at hl 1 rfl) ?_
        refine lv_icmp_ne (tgt := 26) hx hb dX8_placeOf_19 (by decide) (fun c_19 => ?_) (fun c_19 => ?_)
        · skip
          have c_19 : ¬ (ρ i) = (ρ q) := fun z => c_19 ((jeq (a := (ρ i)) (b := (ρ q)) (by omega) (by omega)).mpr z)
          have ep : pmo q i = pmo q (i + 1) := pmo_n (fun z => c_19 (by rw [z]))
          refine lv_iload_n hx hb dX8_placeOf_26 rfl (lv_at hl 2 rfl) ?_
          refine r_top (y := pmo q (i + 1)) (ep) ?_
          refine lv_istore_n (lv' := [(2, .int (pmo q (i + 1))), (0, .ref p0), (1, .int (nI (ρ q))), (3, .int (nI i))]) hx hb dX8_placeOf_27 rfl hl (by decide) rfl (fun ls hl => ?_)
          refine lv_iinc (v := nI (i + 1)) (lv' := [(3, .int (nI (i + 1))), (2, .int (pmo q (i + 1))), (0, .ref p0), (1, .int (nI (ρ q)))]) hx hb dX8_placeOf_28 hl (k := 3) rfl (nI_1 i) (by decide) rfl (fun ls hl => ?_)
          refine lv_goto (tgt := 4) hx hb dX8_placeOf_31 (by decide) ?_
          exact ih4  (i + 1) (by omega) (by first | assumption | omega) _ _ _ h (lv_sub hl [2, 3, 1, 0] rfl)
        · skip
          have c_19 := (jeq (a := (ρ i)) (b := (ρ q)) (by omega) (by omega)).mp c_19
          have ep : nI i = pmo q (i + 1) := by rw [hpm.2.1 _ _ hlt hq c_19]; exact pmo_e q
          refine lv_iload_n hx hb dX8_placeOf_22 rfl (lv_at hl 3 rfl) ?_
          refine lv_goto (tgt := 27) hx hb dX8_placeOf_23 (by decide) ?_
          refine r_top (y := pmo q (i + 1)) (ep) ?_
          refine lv_istore_n (lv' := [(2, .int (pmo q (i + 1))), (0, .ref p0), (1, .int (nI (ρ q))), (3, .int (nI i))]) hx hb dX8_placeOf_27 rfl hl (by decide) rfl (fun ls hl => ?_)
          refine lv_iinc (v := nI (i + 1)) (lv' := [(3, .int (nI (i + 1))), (2, .int (pmo q (i + 1))), (0, .ref p0), (1, .int (nI (ρ q)))]) hx hb dX8_placeOf_28 hl (k := 3) rfl (nI_1 i) (by decide) rfl (fun ls hl => ?_)
          refine lv_goto (tgt := 4) hx hb dX8_placeOf_31 (by decide) ?_
          exact ih4  (i + 1) (by omega) (by first | assumption | omega) _ _ _ h (lv_sub hl [2, 3, 1, 0] rfl)
  have hl : lv_has ls 4 [(3, .int 0), (2, .int (pmo q 0)), (0, .ref p0), (1, .int (nI (ρ q)))] := by rw [pmo_0]; exact hl
  exact L4 ((n - 0) + 1) 0 (by omega) (by first | assumption | omega) _ _ _ h (lv_sub hl [2, 3, 1, 0] rfl)

