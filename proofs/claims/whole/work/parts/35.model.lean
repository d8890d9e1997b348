set_option maxHeartbeats 4000000 in
set_option maxRecDepth 100000 in
theorem c_X8_letter (l : Launch) (D : va_G) (cI cZ : ClassId) (kS vS : Nat) (p0 : Nat) (p1 : Nat) (p2 : Nat) (p3 : Nat) (p4 : Nat) (p5 : Nat) (p6 : Nat) (p7 : Nat) (p8 : Nat) (p9 : Nat) (p10 : Nat) (p11 : Nat) (p12 : Nat) (p13 : Nat) (p14 : Nat) (p15 : Nat) (p16 : Nat) (p17 : Nat) (n : Nat) (rdm : Int32) (rdb : Int32) (stt : Int32) (bar : Int32) (hrs : Int32) (crd : Int32) (tof : Int32) (tmu : Int32) (bdn : Int32) (snm : Int32) (sdn : Int32) (kcs : Int32) (khr : Int32) (ksn : Int32) (hlg : Int64) (ps : Nat) (pg : Nat → Nat) (x : Int32) (hp24 : ps ≤ 24) : CI l yX8_letter cX8_letter 2 .int D cI cZ kS vS 1 25 0 0 [.ref p0, .int x] [(p0, .inr (8, [.ref p1, .int (nI ps), .ref p2, .int rdm, .int rdb, .int stt, .int (nI n), .int bar, .int hrs, .int crd, .ref p3, .ref p4, .ref p5, .ref p6, .ref p7, .int tof, .int tmu, .ref p8, .ref p9, .int bdn, .ref p10, .int snm, .ref p11, .ref p12, .ref p13, .int sdn, .int kcs, .int khr, .int ksn, .ref p14, .ref p15, .ref p16, .ref p17, .long hlg])), (p1, .inl (cI, 24, .inl (ro pg)))] (fun (r : Int32) (_ : Unit) => r = bf (wth x 1 126) (bf (decide (ps < 24)) (nI (ps + 1)) (-104)) (-102)) (fun (_ : Unit) => [(p0, .inr (8, [.ref p1, .int (nI (bf (ltk x ps) (ps + 1) ps)), .ref p2, .int rdm, .int rdb, .int stt, .int (nI n), .int bar, .int hrs, .int crd, .ref p3, .ref p4, .ref p5, .ref p6, .ref p7, .int tof, .int tmu, .ref p8, .ref p9, .int bdn, .ref p10, .int snm, .ref p11, .ref p12, .ref p13, .int sdn, .int kcs, .int khr, .int ksn, .ref p14, .ref p15, .ref p16, .ref p17, .long hlg])), (p1, .inl (cI, 24, .inl (ro (bf (ltk x ps) (un pg ps x.toNatClampNeg) pg))))]) := by
  refine CI_intro (by decide) (Nat.le_of_ble_eq_true rfl) ?_
  intro p e s m args below meth c A Q ls C h hret hl
  have C : CX p s m args c cX8_letter 2 RX8 D cI cZ kS vS A := C
  have hx := C.1.1
  have hb := C.1.2.1
  have hl : lv_has ls 2 [(0, .ref p0), (1, .int x)] := hl
  refine lv_iload_n hx hb dX8_letter_0 rfl (lv_at hl 1 rfl) ?_
  refine lv_i2l hx hb dX8_letter_1 rfl ?_
  refine lv_lconst (v := 1) hx hb dX8_letter_2 (by decide) ?_
  refine lv_ldc2 (v := 126) hx hb C.1.2.2.2.1 (C.1.2.2.2.2 _ mq_RX8_65) dX8_letter_3 ?_
  refine k_Si (rest := []) (as := [.long (Int32.toInt64 x), .long 1, .long 126]) (wc := []) (wr := [(p0, .inr (8, [.ref p1, .int (nI ps), .ref p2, .int rdm, .int rdb, .int stt, .int (nI n), .int bar, .int hrs, .int crd, .ref p3, .ref p4, .ref p5, .ref p6, .ref p7, .int tof, .int tmu, .ref p8, .ref p9, .int bdn, .ref p10, .int snm, .ref p11, .ref p12, .ref p13, .int sdn, .int kcs, .int khr, .int ksn, .ref p14, .ref p15, .ref p16, .ref p17, .long hlg])), (p1, .inl (cI, 24, .inl (ro pg)))]) (isC := []) (isR := [0, 1]) (w2 := fun (_ : Unit) => [(p0, .inr (8, [.ref p1, .int (nI ps), .ref p2, .int rdm, .int rdb, .int stt, .int (nI n), .int bar, .int hrs, .int crd, .ref p3, .ref p4, .ref p5, .ref p6, .ref p7, .int tof, .int tmu, .ref p8, .ref p9, .int bdn, .ref p10, .int snm, .ref p11, .ref p12, .ref p13, .int sdn, .int kcs, .int khr, .int ksn, .ref p14, .ref p15, .ref p16, .ref p17, .long hlg])), (p1, .inl (cI, 24, .inl (ro pg)))]) C h (c_X8_in l D cI cZ kS vS (Int32.toInt64 x) 1 126 ) wv_X8_in rfl ⟨rfl, rfl, rfl, rfl, by decide⟩ ml_RX8_67 [0, 1] rfl (fun _ => rfl) ⟨Nat.le_of_ble_eq_true rfl, Nat.le_of_ble_eq_true rfl⟩ ⟨Nat.le_of_ble_eq_true rfl, Nat.le_of_ble_eq_true rfl⟩ (Nat.le_of_ble_eq_true rfl) hl rfl dX8_letter_6 (fun r u H locs hq h => ?_)
  have h : HS D A s H locs [(p0, .inr (8, [.ref p1, .int (nI ps), .ref p2, .int rdm, .int rdb, .int stt, .int (nI n), .int bar, .int hrs, .int crd, .ref p3, .ref p4, .ref p5, .ref p6, .ref p7, .int tof, .int tmu, .ref p8, .ref p9, .int bdn, .ref p10, .int snm, .ref p11, .ref p12, .ref p13, .int sdn, .int kcs, .int khr, .int ksn, .ref p14, .ref p15, .ref p16, .ref p17, .long hlg])), (p1, .inl (cI, 24, .inl (ro pg)))] := h
  have hq : r = bI (lin (Int32.toInt64 x) 1 126) := hq
  have hq := hq.symm
  subst hq
  refine r_top (y := bI (wth x 1 126)) (congrArg bI (lin_w x (by decide) (by decide))) ?_
  refine lv_if_ne (tgt := 15) hx hb dX8_letter_9 (by decide) (fun c_9 => ?_) (fun c_9 => ?_)
  · skip
    have hb_9 : (wth x 1 126) = true := bI_n0.mp c_9
    refine lv_aload_n hx hb dX8_letter_15 rfl (lv_at hl 0 rfl) ?_
    refine r_get C h fk8 0 1 rfl (by decide) mf_RX8_71 rfl dX8_letter_16 ?_
    refine lv_bipush (v := 24) hx hb dX8_letter_19 (by decide) ?_
    refine lv_icmp_ne (tgt := 27) hx hb dX8_letter_21 (by decide) (fun c_21 => ?_) (fun c_21 => ?_)
    · skip
      have c_21 : ¬ ps = 24 := fun z => c_21 ((jeq (a := ps) (b := 24) (by omega) (by omega)).mpr z)
      have hps : ps < 24 := by omega
      have e24 : decide (ps < 24) = true := decide_eq_true hps
      obtain ⟨cd, hcd1, hcd2, rfl⟩ := wth_of (lo := 1) (hi := 126) hb_9 (by decide) (by decide)
      have hcl : (nI cd).toNatClampNeg = cd := nI_clamp (by omega)
      refine lv_aload_n hx hb dX8_letter_27 rfl (lv_at hl 0 rfl) ?_
      refine r_get C h fk8 0 0 rfl (by decide) mf_RX8_7 rfl dX8_letter_28 ?_
      refine lv_aload_n hx hb dX8_letter_31 rfl (lv_at hl 0 rfl) ?_
      refine r_get C h fk8 0 1 rfl (by decide) mf_RX8_71 rfl dX8_letter_32 ?_
      refine lv_iload_n hx hb dX8_letter_35 rfl (lv_at hl 1 rfl) ?_
      refine r_st C h 1 rfl ps (rfl) (by omega) (by decide) (g := ro (un pg ps cd)) (fun j _ => ro_un j) (ws' := [(p0, .inr (8, [.ref p1, .int (nI ps), .ref p2, .int rdm, .int rdb, .int stt, .int (nI n), .int bar, .int hrs, .int crd, .ref p3, .ref p4, .ref p5, .ref p6, .ref p7, .int tof, .int tmu, .ref p8, .ref p9, .int bdn, .ref p10, .int snm, .ref p11, .ref p12, .ref p13, .int sdn, .int kcs, .int khr, .int ksn, .ref p14, .ref p15, .ref p16, .ref p17, .long hlg])), (p1, .inl (cI, 24, .inl (ro (un pg ps cd))))]) rfl dX8_letter_36 (fun H locs h => ?_)
      refine lv_aload_n hx hb dX8_letter_37 rfl (lv_at hl 0 rfl) ?_
      refine lv_dup hx hb dX8_letter_38 rfl ?_
      refine r_get C h fk8 0 1 rfl (by decide) mf_RX8_71 rfl dX8_letter_39 ?_
      refine lv_iconst (v := 1) hx hb dX8_letter_42 (by decide) ?_
      refine lv_iadd hx hb dX8_letter_43 ?_
      refine r_top (y := nI (ps + 1)) (nI_add ps 1) ?_
      refine r_put C h fk8 0 1 rfl (by decide) mf_RX8_71 rfl (rfl) rfl (Nat.le_of_ble_eq_true rfl) (ws' := [(p0, .inr (8, [.ref p1, .int (nI (ps + 1)), .ref p2, .int rdm, .int rdb, .int stt, .int (nI n), .int bar, .int hrs, .int crd, .ref p3, .ref p4, .ref p5, .ref p6, .ref p7, .int tof, .int tmu, .ref p8, .ref p9, .int bdn, .ref p10, .int snm, .ref p11, .ref p12, .ref p13, .int sdn, .int kcs, .int khr, .int ksn, .ref p14, .ref p15, .ref p16, .ref p17, .long hlg])), (p1, .inl (cI, 24, .inl (ro (un pg ps cd))))]) rfl dX8_letter_44 (fun H locs h => ?_)
      refine lv_aload_n hx hb dX8_letter_47 rfl (lv_at hl 0 rfl) ?_
      refine r_get C h fk8 0 1 rfl (by decide) mf_RX8_71 rfl dX8_letter_48 ?_
      have h := h.arr 1 (g := ro (bf (ltk (nI cd) ps) (un pg ps (nI cd).toNatClampNeg) pg)) rfl (fun j _ => by rw [bf_t (ltk_t hb_9 e24), hcl]) rfl
      have ef : (nI (ps + 1)) = (nI (bf (ltk (nI cd) ps) (ps + 1) ps)) := by rw [bf_t (ltk_t hb_9 e24)] <;> rfl
      have h := HS.cg (ws' := [(p0, .inr (8, [.ref p1, .int (nI (bf (ltk (nI cd) ps) (ps + 1) ps)), .ref p2, .int rdm, .int rdb, .int stt, .int (nI n), .int bar, .int hrs, .int crd, .ref p3, .ref p4, .ref p5, .ref p6, .ref p7, .int tof, .int tmu, .ref p8, .ref p9, .int bdn, .ref p10, .int snm, .ref p11, .ref p12, .ref p13, .int sdn, .int kcs, .int khr, .int ksn, .ref p14, .ref p15, .ref p16, .ref p17, .long hlg])), (p1, .inl (cI, 24, .inl (ro (bf (ltk (nI cd) ps) (un pg ps (nI cd).toNatClampNeg) pg))))]) h (by rw [← ef] <;> rfl)
      exact hret (r := nI (ps + 1)) () dX8_letter_51 h (rfl) (by rw [bf_t hb_9, bf_t e24])
    · skip
      have c_21 := (jeq (a := ps) (b := 24) (by omega) (by omega)).mp c_21
      have e24 : decide (ps < 24) = false := decide_eq_false (by omega)
      refine lv_bipush (v := (-104)) hx hb dX8_letter_24 (by decide) ?_
      have h := h.arr 1 (g := ro (bf (ltk x ps) (un pg ps x.toNatClampNeg) pg)) rfl (fun j _ => by rw [bf_f (ltk_f2 e24)]) rfl
      have ef : (nI ps) = (nI (bf (ltk x ps) (ps + 1) ps)) := by rw [bf_f (ltk_f2 e24)] <;> rfl
      have h := HS.cg (ws' := [(p0, .inr (8, [.ref p1, .int (nI (bf (ltk x ps) (ps + 1) ps)), .ref p2, .int rdm, .int rdb, .int stt, .int (nI n), .int bar, .int hrs, .int crd, .ref p3, .ref p4, .ref p5, .ref p6, .ref p7, .int tof, .int tmu, .ref p8, .ref p9, .int bdn, .ref p10, .int snm, .ref p11, .ref p12, .ref p13, .int sdn, .int kcs, .int khr, .int ksn, .ref p14, .ref p15, .ref p16, .ref p17, .long hlg])), (p1, .inl (cI, 24, .inl (ro (bf (ltk x ps) (un pg ps x.toNatClampNeg) pg))))]) h (by rw [← ef] <;> rfl)
      exact hret (r := (-104)) () dX8_letter_26 h (rfl) (by rw [bf_t hb_9, bf_f e24])
  · skip
    have hb_9 : (wth x 1 126) = false := bI_0.mp c_9
    refine lv_bipush (v := (-102)) hx hb dX8_letter_12 (by decide) ?_
    have h := h.arr 1 (g := ro (bf (ltk x ps) (un pg ps x.toNatClampNeg) pg)) rfl (fun j _ => by rw [bf_f (ltk_f1 hb_9)]) rfl
    have ef : (nI ps) = (nI (bf (ltk x ps) (ps + 1) ps)) := by rw [bf_f (ltk_f1 hb_9)] <;> rfl
    have h := HS.cg (ws' := [(p0, .inr (8, [.ref p1, .int (nI (bf (ltk x ps) (ps + 1) ps)), .ref p2, .int rdm, .int rdb, .int stt, .int (nI n), .int bar, .int hrs, .int crd, .ref p3, .ref p4, .ref p5, .ref p6, .ref p7, .int tof, .int tmu, .ref p8, .ref p9, .int bdn, .ref p10, .int snm, .ref p11, .ref p12, .ref p13, .int sdn, .int kcs, .int khr, .int ksn, .ref p14, .ref p15, .ref p16, .ref p17, .long hlg])), (p1, .inl (cI, 24, .inl (ro (bf (ltk x ps) (un pg ps x.toNatClampNeg) pg))))]) h (by rw [← ef] <;> rfl)
    exact hret (r := (-102)) () dX8_letter_14 h (rfl) (by rw [bf_f hb_9])

set_option maxHeartbeats 4000000 in
set_option maxRecDepth 100000 in
theorem c_X8_blank (l : Launch) (D : va_G) (cI cZ : ClassId) (kS vS : Nat) (p0 : Nat) (p1 : Nat) (p2 : Nat) (p3 : Nat) (p4 : Nat) (p5 : Nat) (p6 : Nat) (p7 : Nat) (p8 : Nat) (p9 : Nat) (p10 : Nat) (p11 : Nat) (p12 : Nat) (p13 : Nat) (p14 : Nat) (p15 : Nat) (p16 : Nat) (p17 : Nat) (n : Nat) (rdm : Int32) (rdb : Int32) (stt : Int32) (bar : Int32) (hrs : Int32) (crd : Int32) (tof : Int32) (tmu : Int32) (bdn : Int32) (snm : Int32) (sdn : Int32) (kcs : Int32) (khr : Int32) (ksn : Int32) (hlg : Int64) (ps : Nat)  : CI l yX8_blank cX8_blank 2 .int D cI cZ kS vS 0 0 0 0 [.ref p0] [(p0, .inr (8, [.ref p1, .int (nI ps), .ref p2, .int rdm, .int rdb, .int stt, .int (nI n), .int bar, .int hrs, .int crd, .ref p3, .ref p4, .ref p5, .ref p6, .ref p7, .int tof, .int tmu, .ref p8, .ref p9, .int bdn, .ref p10, .int snm, .ref p11, .ref p12, .ref p13, .int sdn, .int kcs, .int khr, .int ksn, .ref p14, .ref p15, .ref p16, .ref p17, .long hlg]))] (fun (r : Int32) (_ : Unit) => r = nI ps) (fun (_ : Unit) => [(p0, .inr (8, [.ref p1, .int 0, .ref p2, .int rdm, .int rdb, .int stt, .int (nI n), .int bar, .int hrs, .int crd, .ref p3, .ref p4, .ref p5, .ref p6, .ref p7, .int tof, .int tmu, .ref p8, .ref p9, .int bdn, .ref p10, .int snm, .ref p11, .ref p12, .ref p13, .int sdn, .int kcs, .int khr, .int ksn, .ref p14, .ref p15, .ref p16, .ref p17, .long hlg]))]) := by
  refine CI_intro (by decide) (Nat.le_of_ble_eq_true rfl) ?_
  intro p e s m args below meth c A Q ls C h hret hl
  have C : CX p s m args c cX8_blank 2 RX8 D cI cZ kS vS A := C
  have hx := C.1.1
  have hb := C.1.2.1
  have hl : lv_has ls 2 [(0, .ref p0)] := hl
  refine lv_aload_n hx hb dX8_blank_0 rfl (lv_at hl 0 rfl) ?_
  refine r_get C h fk8 0 1 rfl (by decide) mf_RX8_71 rfl dX8_blank_1 ?_
  refine lv_istore_n (lv' := [(1, .int (nI ps)), (0, .ref p0)]) hx hb dX8_blank_4 rfl hl (by decide) rfl (fun ls hl => ?_)
  refine lv_aload_n hx hb dX8_blank_5 rfl (lv_at hl 1 rfl) ?_
  refine lv_iconst (v := 0) hx hb dX8_blank_6 (by decide) ?_
  refine r_put C h fk8 0 1 rfl (by decide) mf_RX8_71 rfl (rfl) rfl (Nat.le_of_ble_eq_true rfl) (ws' := [(p0, .inr (8, [.ref p1, .int 0, .ref p2, .int rdm, .int rdb, .int stt, .int (nI n), .int bar, .int hrs, .int crd, .ref p3, .ref p4, .ref p5, .ref p6, .ref p7, .int tof, .int tmu, .ref p8, .ref p9, .int bdn, .ref p10, .int snm, .ref p11, .ref p12, .ref p13, .int sdn, .int kcs, .int khr, .int ksn, .ref p14, .ref p15, .ref p16, .ref p17, .long hlg]))]) rfl dX8_blank_7 (fun H locs h => ?_)
  refine lv_iload_n hx hb dX8_blank_10 rfl (lv_at hl 0 rfl) ?_
  exact hret (r := nI ps) () dX8_blank_11 h (rfl) (rfl)

set_option maxHeartbeats 4000000 in
set_option maxRecDepth 100000 in
theorem c_X8_fault (l : Launch) (D : va_G) (cI cZ : ClassId) (kS vS : Nat) (p0 : Nat) (p1 : Nat) (p2 : Nat) (p3 : Nat) (p4 : Nat) (p5 : Nat) (p6 : Nat) (p7 : Nat) (p8 : Nat) (p9 : Nat) (p10 : Nat) (p11 : Nat) (p12 : Nat) (p13 : Nat) (p14 : Nat) (p15 : Nat) (p16 : Nat) (p17 : Nat) (n : Nat) (rdm : Int32) (rdb : Int32) (stt : Int32) (bar : Int32) (hrs : Int32) (crd : Int32) (tof : Int32) (tmu : Int32) (bdn : Int32) (snm : Int32) (sdn : Int32) (kcs : Int32) (khr : Int32) (ksn : Int32) (hlg : Int64) (ps : Nat) (pg : Nat → Nat) (rd : Nat → Int32) (hp24 : ps ≤ 24) (hlt : ∀ j, j < ps → pg j < 127) : CI l yX8_fault cX8_fault 1 .int D cI cZ kS vS 3 69 0 0 [.ref p0] [(p0, .inr (8, [.ref p1, .int (nI ps), .ref p2, .int rdm, .int rdb, .int stt, .int (nI n), .int bar, .int hrs, .int crd, .ref p3, .ref p4, .ref p5, .ref p6, .ref p7, .int tof, .int tmu, .ref p8, .ref p9, .int bdn, .ref p10, .int snm, .ref p11, .ref p12, .ref p13, .int sdn, .int kcs, .int khr, .int ksn, .ref p14, .ref p15, .ref p16, .ref p17, .long hlg])), (p1, .inl (cI, 24, .inl (ro pg))), (p2, .inl (cI, 15, .inl rd))] (fun (r : Int32) (u : Int32 × Int32 × Int32 × (Nat → Int32)) => r = nI (ff pg ps)) (fun (u : Int32 × Int32 × Int32 × (Nat → Int32)) => [(p0, .inr (8, [.ref p1, .int (nI ps), .ref p2, .int u.1, .int u.2.2.1, .int u.2.1, .int (nI n), .int bar, .int hrs, .int crd, .ref p3, .ref p4, .ref p5, .ref p6, .ref p7, .int tof, .int tmu, .ref p8, .ref p9, .int bdn, .ref p10, .int snm, .ref p11, .ref p12, .ref p13, .int sdn, .int kcs, .int khr, .int ksn, .ref p14, .ref p15, .ref p16, .ref p17, .long hlg])), (p1, .inl (cI, 24, .inl (ro pg))), (p2, .inl (cI, 15, .inl u.2.2.2))]) := by
  refine CI_intro (by decide) (Nat.le_of_ble_eq_true rfl) ?_
  intro p e s m args below meth c A Q ls C h hret hl
  have C : CX p s m args c cX8_fault 1 RX8 D cI cZ kS vS A := C
  have hx := C.1.1
  have hb := C.1.2.1
  have hl : lv_has ls 1 [(0, .ref p0)] := hl
  refine lv_aload_n hx hb dX8_fault_0 rfl (lv_at hl 0 rfl) ?_
  refine k_Vi (rest := []) (as := []) (wc := [(p0, .inr (8, [.ref p1, .int (nI ps), .ref p2, .int rdm, .int rdb, .int stt, .int (nI n), .int bar, .int hrs, .int crd, .ref p3, .ref p4, .ref p5, .ref p6, .ref p7, .int tof, .int tmu, .ref p8, .ref p9, .int bdn, .ref p10, .int snm, .ref p11, .ref p12, .ref p13, .int sdn, .int kcs, .int khr, .int ksn, .ref p14, .ref p15, .ref p16, .ref p17, .long hlg])), (p1, .inl (cI, 24, .inl (ro pg))), (p2, .inl (cI, 15, .inl rd))]) (wr := []) (isC := [0, 1, 2]) (isR := []) (w2 := fun (u : Int32 × Int32 × Int32 × (Nat → Int32)) => [(p0, .inr (8, [.ref p1, .int (nI ps), .ref p2, .int u.1, .int u.2.2.1, .int u.2.1, .int (nI n), .int bar, .int hrs, .int crd, .ref p3, .ref p4, .ref p5, .ref p6, .ref p7, .int tof, .int tmu, .ref p8, .ref p9, .int bdn, .ref p10, .int snm, .ref p11, .ref p12, .ref p13, .int sdn, .int kcs, .int khr, .int ksn, .ref p14, .ref p15, .ref p16, .ref p17, .long hlg])), (p1, .inl (cI, 24, .inl (ro pg))), (p2, .inl (cI, 15, .inl u.2.2.2))]) C h (c_X8_faultOf l D cI cZ kS vS p0 p1 p2 p3 p4 p5 p6 p7 p8 p9 p10 p11 p12 p13 p14 p15 p16 p17 n rdm rdb stt bar hrs crd tof tmu bdn snm sdn kcs khr ksn hlg ps pg rd hp24 hlt) wv_X8_faultOf rfl ⟨rfl, rfl, rfl, rfl, by decide⟩ fk8 0 rfl ml_RX8_95 [0, 1, 2] rfl (fun _ => rfl) ⟨Nat.le_of_ble_eq_true rfl, Nat.le_of_ble_eq_true rfl⟩ ⟨Nat.le_of_ble_eq_true rfl, Nat.le_of_ble_eq_true rfl⟩ (Nat.le_of_ble_eq_true rfl) hl rfl dX8_fault_1 (fun r u H locs hq h => ?_)
  obtain ⟨ur1, ust1, ub1, ud1⟩ := u
  have h : HS D A s H locs [(p0, .inr (8, [.ref p1, .int (nI ps), .ref p2, .int ur1, .int ub1, .int ust1, .int (nI n), .int bar, .int hrs, .int crd, .ref p3, .ref p4, .ref p5, .ref p6, .ref p7, .int tof, .int tmu, .ref p8, .ref p9, .int bdn, .ref p10, .int snm, .ref p11, .ref p12, .ref p13, .int sdn, .int kcs, .int khr, .int ksn, .ref p14, .ref p15, .ref p16, .ref p17, .long hlg])), (p1, .inl (cI, 24, .inl (ro pg))), (p2, .inl (cI, 15, .inl ud1))] := h
  have hq : r = nI (ff pg ps) ∧ (ff pg ps = ps → ur1 = nI (gR pg ps) ∧ ust1 = nI (gS pg ps) ∧ ub1 = gB pg rdb ps ∧ ud1 = gD pg rd ps) := hq
  obtain ⟨hr1, hq1⟩ := hq
  have hr1 := hr1.symm
  subst hr1
  exact hret (r := nI (ff pg ps)) (⟨ur1, ust1, ub1, ud1⟩) dX8_fault_4 h (rfl) (rfl)

set_option maxHeartbeats 4000000 in
set_option maxRecDepth 100000 in
theorem c_X8_coast (l : Launch) (D : va_G) (cI cZ : ClassId) (kS vS : Nat) (p0 : Nat) (p1 : Nat) (p2 : Nat) (p3 : Nat) (p4 : Nat) (p5 : Nat) (p6 : Nat) (p7 : Nat) (p8 : Nat) (p9 : Nat) (p10 : Nat) (p11 : Nat) (p12 : Nat) (p13 : Nat) (p14 : Nat) (p15 : Nat) (p16 : Nat) (p17 : Nat) (n : Nat) (rdm : Int32) (rdb : Int32) (stt : Int32) (bar : Int32) (hrs : Int32) (crd : Int32) (tof : Int32) (tmu : Int32) (bdn : Int32) (sdn : Int32) (kcs : Int32) (khr : Int32) (ksn : Int32) (hlg : Int64) (ps : Nat) (pg : Nat → Nat) (q : Nat) (rd : Nat → Int32) (w : Nat → Int32) (ρ : Nat → Nat) (K : Nat → Int32) (F : Nat → Int32) (tk : Nat → Int32) (hp24 : ps ≤ 24) (hlt : ∀ j, j < ps → pg j < 127) (hn : n = 0 ∨ (2 ≤ n ∧ n ≤ 5)) : CI l yX8_coast cX8_coast 2 .int D cI cZ kS vS 3 69 0 0 [.ref p0] [(p0, .inr (8, [.ref p1, .int (nI ps), .ref p2, .int rdm, .int rdb, .int stt, .int (nI n), .int bar, .int hrs, .int crd, .ref p3, .ref p4, .ref p5, .ref p6, .ref p7, .int tof, .int tmu, .ref p8, .ref p9, .int bdn, .ref p10, .int (nI q), .ref p11, .ref p12, .ref p13, .int sdn, .int kcs, .int khr, .int ksn, .ref p14, .ref p15, .ref p16, .ref p17, .long hlg])), (p1, .inl (cI, 24, .inl (ro pg))), (p2, .inl (cI, 15, .inl rd)), (p3, .inl (cI, 5, .inl K)), (p4, .inl (cI, 5, .inl F)), (p5, .inl (cI, 5, .inl w)), (p6, .inl (cI, 5, .inl (ro ρ))), (p7, .inl (cI, 5, .inl tk))] (fun (r : Int32) (u : Int32 × Int32 × Int32 × (Nat → Int32)) => r = bf (hcb pg ps) (nI (ps / 4)) (-103)) (fun (u : Int32 × Int32 × Int32 × (Nat → Int32)) => [(p0, .inr (8, [.ref p1, .int (nI (bf (hcb pg ps) (0) (ps))), .ref p2, .int u.1, .int u.2.2.1, .int u.2.1, .int (nI (bf (hcb pg ps) ((ps / 4)) (n))), .int (bf (hcb pg ps) (nI (pg (ps / 4 * 4)) - 48) (bar)), .int (bf (hcb pg ps) (0) (hrs)), .int (bf (hcb pg ps) (crd + 1) (crd)), .ref p3, .ref p4, .ref p5, .ref p6, .ref p7, .int tof, .int tmu, .ref p8, .ref p9, .int bdn, .ref p10, .int (nI (bf (hcb pg ps) (0) (q))), .ref p11, .ref p12, .ref p13, .int sdn, .int kcs, .int khr, .int ksn, .ref p14, .ref p15, .ref p16, .ref p17, .long hlg])), (p1, .inl (cI, 24, .inl (ro pg))), (p2, .inl (cI, 15, .inl u.2.2.2)), (p3, .inl (cI, 5, .inl (bf (hcb pg ps) (ffl (fun j => kb (pg (j * 4))) K (ps / 4)) (K)))), (p4, .inl (cI, 5, .inl (bf (hcb pg ps) (ffl (fun j => nI (pg (j * 4 + 2)) - 48) F (ps / 4)) (F)))), (p5, .inl (cI, 5, .inl (bf (hcb pg ps) (ffl (fun j => nI (pg (j * 4 + 1)) - 48) w (ps / 4)) (w)))), (p6, .inl (cI, 5, .inl (ro (bf (hcb pg ps) (idn (ps / 4) ρ) (ρ))))), (p7, .inl (cI, 5, .inl (bf (hcb pg ps) (ffl (fun _ => 0) tk (ps / 4)) (tk))))]) := by
  refine CI_intro (by decide) (Nat.le_of_ble_eq_true rfl) ?_
  intro p e s m args below meth c A Q ls C h hret hl
  have C : CX p s m args c cX8_coast 2 RX8 D cI cZ kS vS A := C
  have hx := C.1.1
  have hb := C.1.2.1
  have hl : lv_has ls 2 [(0, .ref p0)] := hl
  have hff := ff_le pg ps
  refine lv_aload_n hx hb dX8_coast_0 rfl (lv_at hl 0 rfl) ?_
  refine k_Vi (rest := []) (as := []) (wc := [(p0, .inr (8, [.ref p1, .int (nI ps), .ref p2, .int rdm, .int rdb, .int stt, .int (nI n), .int bar, .int hrs, .int crd, .ref p3, .ref p4, .ref p5, .ref p6, .ref p7, .int tof, .int tmu, .ref p8, .ref p9, .int bdn, .ref p10, .int (nI q), .ref p11, .ref p12, .ref p13, .int sdn, .int kcs, .int khr, .int ksn, .ref p14, .ref p15, .ref p16, .ref p17, .long hlg])), (p1, .inl (cI, 24, .inl (ro pg))), (p2, .inl (cI, 15, .inl rd))]) (wr := [(p3, .inl (cI, 5, .inl K)), (p4, .inl (cI, 5, .inl F)), (p5, .inl (cI, 5, .inl w)), (p6, .inl (cI, 5, .inl (ro ρ))), (p7, .inl (cI, 5, .inl tk))]) (isC := [0, 1, 2]) (isR := [3, 4, 5, 6, 7]) (w2 := fun (u : Int32 × Int32 × Int32 × (Nat → Int32)) => [(p0, .inr (8, [.ref p1, .int (nI ps), .ref p2, .int u.1, .int u.2.2.1, .int u.2.1, .int (nI n), .int bar, .int hrs, .int crd, .ref p3, .ref p4, .ref p5, .ref p6, .ref p7, .int tof, .int tmu, .ref p8, .ref p9, .int bdn, .ref p10, .int (nI q), .ref p11, .ref p12, .ref p13, .int sdn, .int kcs, .int khr, .int ksn, .ref p14, .ref p15, .ref p16, .ref p17, .long hlg])), (p1, .inl (cI, 24, .inl (ro pg))), (p2, .inl (cI, 15, .inl u.2.2.2)), (p3, .inl (cI, 5, .inl K)), (p4, .inl (cI, 5, .inl F)), (p5, .inl (cI, 5, .inl w)), (p6, .inl (cI, 5, .inl (ro ρ))), (p7, .inl (cI, 5, .inl tk))]) C h (c_X8_faultOf l D cI cZ kS vS p0 p1 p2 p3 p4 p5 p6 p7 p8 p9 p10 p11 p12 p13 p14 p15 p16 p17 n rdm rdb stt bar hrs crd tof tmu bdn (nI q) sdn kcs khr ksn hlg ps pg rd hp24 hlt) wv_X8_faultOf rfl ⟨rfl, rfl, rfl, rfl, by decide⟩ fk8 0 rfl ml_RX8_95 [5, 6, 7, 0, 1, 2, 3, 4] rfl (fun _ => rfl) ⟨Nat.le_of_ble_eq_true rfl, Nat.le_of_ble_eq_true rfl⟩ ⟨Nat.le_of_ble_eq_true rfl, Nat.le_of_ble_eq_true rfl⟩ (Nat.le_of_ble_eq_true rfl) hl rfl dX8_coast_1 (fun r u H locs hq h => ?_)
  obtain ⟨ur1, ust1, ub1, ud1⟩ := u
  have h : HS D A s H locs [(p0, .inr (8, [.ref p1, .int (nI ps), .ref p2, .int ur1, .int ub1, .int ust1, .int (nI n), .int bar, .int hrs, .int crd, .ref p3, .ref p4, .ref p5, .ref p6, .ref p7, .int tof, .int tmu, .ref p8, .ref p9, .int bdn, .ref p10, .int (nI q), .ref p11, .ref p12, .ref p13, .int sdn, .int kcs, .int khr, .int ksn, .ref p14, .ref p15, .ref p16, .ref p17, .long hlg])), (p1, .inl (cI, 24, .inl (ro pg))), (p2, .inl (cI, 15, .inl ud1)), (p3, .inl (cI, 5, .inl K)), (p4, .inl (cI, 5, .inl F)), (p5, .inl (cI, 5, .inl w)), (p6, .inl (cI, 5, .inl (ro ρ))), (p7, .inl (cI, 5, .inl tk))] := h
  have hq : r = nI (ff pg ps) ∧ (ff pg ps = ps → ur1 = nI (gR pg ps) ∧ ust1 = nI (gS pg ps) ∧ ub1 = gB pg rdb ps ∧ ud1 = gD pg rd ps) := hq
  obtain ⟨hr1, hq1⟩ := hq
  have hr1 := hr1.symm
  subst hr1
  have hqc := hq1
  refine lv_aload_n hx hb dX8_coast_4 rfl (lv_at hl 0 rfl) ?_
  refine r_get C h fk8 0 1 rfl (by decide) mf_RX8_71 rfl dX8_coast_5 ?_
  refine lv_icmp_lt (tgt := 19) hx hb dX8_coast_8 (by decide) (fun c_8 => ?_) (fun c_8 => ?_)
  · skip
    have c_8 := (jlt (a := (ff pg ps)) (b := ps) (by omega) (by omega)).mp c_8
    refine lv_bipush (v := (-103)) hx hb dX8_coast_19 (by decide) ?_
    have h := h.arr 3 (g := bf (hcb pg ps) (ffl (fun j => kb (pg (j * 4))) K (ps / 4)) (K)) rfl (fun j hj => by rw [bf_f (hcb_f1 (by omega))]) rfl
    have h := h.arr 4 (g := bf (hcb pg ps) (ffl (fun j => nI (pg (j * 4 + 2)) - 48) F (ps / 4)) (F)) rfl (fun j hj => by rw [bf_f (hcb_f1 (by omega))]) rfl
    have h := h.arr 5 (g := bf (hcb pg ps) (ffl (fun j => nI (pg (j * 4 + 1)) - 48) w (ps / 4)) (w)) rfl (fun j hj => by rw [bf_f (hcb_f1 (by omega))]) rfl
    have h := h.arr 6 (g := ro (bf (hcb pg ps) (idn (ps / 4) ρ) (ρ))) rfl (fun j hj => by rw [bf_f (hcb_f1 (by omega))]) rfl
    have h := h.arr 7 (g := bf (hcb pg ps) (ffl (fun _ => 0) tk (ps / 4)) (tk)) rfl (fun j hj => by rw [bf_f (hcb_f1 (by omega))]) rfl
    have ef : (nI ps) = (nI (bf (hcb pg ps) (0) (ps))) := by rw [bf_f (hcb_f1 (by omega))] <;> rfl
    have h := HS.cg (ws' := [(p0, .inr (8, [.ref p1, .int (nI (bf (hcb pg ps) (0) (ps))), .ref p2, .int ur1, .int ub1, .int ust1, .int (nI n), .int bar, .int hrs, .int crd, .ref p3, .ref p4, .ref p5, .ref p6, .ref p7, .int tof, .int tmu, .ref p8, .ref p9, .int bdn, .ref p10, .int (nI q), .ref p11, .ref p12, .ref p13, .int sdn, .int kcs, .int khr, .int ksn, .ref p14, .ref p15, .ref p16, .ref p17, .long hlg])), (p1, .inl (cI, 24, .inl (ro pg))), (p2, .inl (cI, 15, .inl ud1)), (p3, .inl (cI, 5, .inl (bf (hcb pg ps) (ffl (fun j => kb (pg (j * 4))) K (ps / 4)) (K)))), (p4, .inl (cI, 5, .inl (bf (hcb pg ps) (ffl (fun j => nI (pg (j * 4 + 2)) - 48) F (ps / 4)) (F)))), (p5, .inl (cI, 5, .inl (bf (hcb pg ps) (ffl (fun j => nI (pg (j * 4 + 1)) - 48) w (ps / 4)) (w)))), (p6, .inl (cI, 5, .inl (ro (bf (hcb pg ps) (idn (ps / 4) ρ) (ρ))))), (p7, .inl (cI, 5, .inl (bf (hcb pg ps) (ffl (fun _ => 0) tk (ps / 4)) (tk))))]) h (by rw [← ef] <;> rfl)
    have ef : (nI n) = (nI (bf (hcb pg ps) ((ps / 4)) (n))) := by rw [bf_f (hcb_f1 (by omega))] <;> rfl
    have h := HS.cg (ws' := [(p0, .inr (8, [.ref p1, .int (nI (bf (hcb pg ps) (0) (ps))), .ref p2, .int ur1, .int ub1, .int ust1, .int (nI (bf (hcb pg ps) ((ps / 4)) (n))), .int bar, .int hrs, .int crd, .ref p3, .ref p4, .ref p5, .ref p6, .ref p7, .int tof, .int tmu, .ref p8, .ref p9, .int bdn, .ref p10, .int (nI q), .ref p11, .ref p12, .ref p13, .int sdn, .int kcs, .int khr, .int ksn, .ref p14, .ref p15, .ref p16, .ref p17, .long hlg])), (p1, .inl (cI, 24, .inl (ro pg))), (p2, .inl (cI, 15, .inl ud1)), (p3, .inl (cI, 5, .inl (bf (hcb pg ps) (ffl (fun j => kb (pg (j * 4))) K (ps / 4)) (K)))), (p4, .inl (cI, 5, .inl (bf (hcb pg ps) (ffl (fun j => nI (pg (j * 4 + 2)) - 48) F (ps / 4)) (F)))), (p5, .inl (cI, 5, .inl (bf (hcb pg ps) (ffl (fun j => nI (pg (j * 4 + 1)) - 48) w (ps / 4)) (w)))), (p6, .inl (cI, 5, .inl (ro (bf (hcb pg ps) (idn (ps / 4) ρ) (ρ))))), (p7, .inl (cI, 5, .inl (bf (hcb pg ps) (ffl (fun _ => 0) tk (ps / 4)) (tk))))]) h (by rw [← ef] <;> rfl)
    have ef : bar = (bf (hcb pg ps) (nI (pg (ps / 4 * 4)) - 48) (bar)) := by rw [bf_f (hcb_f1 (by omega))] <;> rfl
    have h := HS.cg (ws' := [(p0, .inr (8, [.ref p1, .int (nI (bf (hcb pg ps) (0) (ps))), .ref p2, .int ur1, .int ub1, .int ust1, .int (nI (bf (hcb pg ps) ((ps / 4)) (n))), .int (bf (hcb pg ps) (nI (pg (ps / 4 * 4)) - 48) (bar)), .int hrs, .int crd, .ref p3, .ref p4, .ref p5, .ref p6, .ref p7, .int tof, .int tmu, .ref p8, .ref p9, .int bdn, .ref p10, .int (nI q), .ref p11, .ref p12, .ref p13, .int sdn, .int kcs, .int khr, .int ksn, .ref p14, .ref p15, .ref p16, .ref p17, .long hlg])), (p1, .inl (cI, 24, .inl (ro pg))), (p2, .inl (cI, 15, .inl ud1)), (p3, .inl (cI, 5, .inl (bf (hcb pg ps) (ffl (fun j => kb (pg (j * 4))) K (ps / 4)) (K)))), (p4, .inl (cI, 5, .inl (bf (hcb pg ps) (ffl (fun j => nI (pg (j * 4 + 2)) - 48) F (ps / 4)) (F)))), (p5, .inl (cI, 5, .inl (bf (hcb pg ps) (ffl (fun j => nI (pg (j * 4 + 1)) - 48) w (ps / 4)) (w)))), (p6, .inl (cI, 5, .inl (ro (bf (hcb pg ps) (idn (ps / 4) ρ) (ρ))))), (p7, .inl (cI, 5, .inl (bf (hcb pg ps) (ffl (fun _ => 0) tk (ps / 4)) (tk))))]) h (by rw [← ef] <;> rfl)
    have ef : hrs = (bf (hcb pg ps) (0) (hrs)) := by rw [bf_f (hcb_f1 (by omega))] <;> rfl
    have h := HS.cg (ws' := [(p0, .inr (8, [.ref p1, .int (nI (bf (hcb pg ps) (0) (ps))), .ref p2, .int ur1, .int ub1, .int ust1, .int (nI (bf (hcb pg ps) ((ps / 4)) (n))), .int (bf (hcb pg ps) (nI (pg (ps / 4 * 4)) - 48) (bar)), .int (bf (hcb pg ps) (0) (hrs)), .int crd, .ref p3, .ref p4, .ref p5, .ref p6, .ref p7, .int tof, .int tmu, .ref p8, .ref p9, .int bdn, .ref p10, .int (nI q), .ref p11, .ref p12, .ref p13, .int sdn, .int kcs, .int khr, .int ksn, .ref p14, .ref p15, .ref p16, .ref p17, .long hlg])), (p1, .inl (cI, 24, .inl (ro pg))), (p2, .inl (cI, 15, .inl ud1)), (p3, .inl (cI, 5, .inl (bf (hcb pg ps) (ffl (fun j => kb (pg (j * 4))) K (ps / 4)) (K)))), (p4, .inl (cI, 5, .inl (bf (hcb pg ps) (ffl (fun j => nI (pg (j * 4 + 2)) - 48) F (ps / 4)) (F)))), (p5, .inl (cI, 5, .inl (bf (hcb pg ps) (ffl (fun j => nI (pg (j * 4 + 1)) - 48) w (ps / 4)) (w)))), (p6, .inl (cI, 5, .inl (ro (bf (hcb pg ps) (idn (ps / 4) ρ) (ρ))))), (p7, .inl (cI, 5, .inl (bf (hcb pg ps) (ffl (fun _ => 0) tk (ps / 4)) (tk))))]) h (by rw [← ef] <;> rfl)
    have ef : crd = (bf (hcb pg ps) (crd + 1) (crd)) := by rw [bf_f (hcb_f1 (by omega))] <;> rfl
    have h := HS.cg (ws' := [(p0, .inr (8, [.ref p1, .int (nI (bf (hcb pg ps) (0) (ps))), .ref p2, .int ur1, .int ub1, .int ust1, .int (nI (bf (hcb pg ps) ((ps / 4)) (n))), .int (bf (hcb pg ps) (nI (pg (ps / 4 * 4)) - 48) (bar)), .int (bf (hcb pg ps) (0) (hrs)), .int (bf (hcb pg ps) (crd + 1) (crd)), .ref p3, .ref p4, .ref p5, .ref p6, .ref p7, .int tof, .int tmu, .ref p8, .ref p9, .int bdn, .ref p10, .int (nI q), .ref p11, .ref p12, .ref p13, .int sdn, .int kcs, .int khr, .int ksn, .ref p14, .ref p15, .ref p16, .ref p17, .long hlg])), (p1, .inl (cI, 24, .inl (ro pg))), (p2, .inl (cI, 15, .inl ud1)), (p3, .inl (cI, 5, .inl (bf (hcb pg ps) (ffl (fun j => kb (pg (j * 4))) K (ps / 4)) (K)))), (p4, .inl (cI, 5, .inl (bf (hcb pg ps) (ffl (fun j => nI (pg (j * 4 + 2)) - 48) F (ps / 4)) (F)))), (p5, .inl (cI, 5, .inl (bf (hcb pg ps) (ffl (fun j => nI (pg (j * 4 + 1)) - 48) w (ps / 4)) (w)))), (p6, .inl (cI, 5, .inl (ro (bf (hcb pg ps) (idn (ps / 4) ρ) (ρ))))), (p7, .inl (cI, 5, .inl (bf (hcb pg ps) (ffl (fun _ => 0) tk (ps / 4)) (tk))))]) h (by rw [← ef] <;> rfl)
    have ef : (nI q) = (nI (bf (hcb pg ps) (0) (q))) := by rw [bf_f (hcb_f1 (by omega))] <;> rfl
    have h := HS.cg (ws' := [(p0, .inr (8, [.ref p1, .int (nI (bf (hcb pg ps) (0) (ps))), .ref p2, .int ur1, .int ub1, .int ust1, .int (nI (bf (hcb pg ps) ((ps / 4)) (n))), .int (bf (hcb pg ps) (nI (pg (ps / 4 * 4)) - 48) (bar)), .int (bf (hcb pg ps) (0) (hrs)), .int (bf (hcb pg ps) (crd + 1) (crd)), .ref p3, .ref p4, .ref p5, .ref p6, .ref p7, .int tof, .int tmu, .ref p8, .ref p9, .int bdn, .ref p10, .int (nI (bf (hcb pg ps) (0) (q))), .ref p11, .ref p12, .ref p13, .int sdn, .int kcs, .int khr, .int ksn, .ref p14, .ref p15, .ref p16, .ref p17, .long hlg])), (p1, .inl (cI, 24, .inl (ro pg))), (p2, .inl (cI, 15, .inl ud1)), (p3, .inl (cI, 5, .inl (bf (hcb pg ps) (ffl (fun j => kb (pg (j * 4))) K (ps / 4)) (K)))), (p4, .inl (cI, 5, .inl (bf (hcb pg ps) (ffl (fun j => nI (pg (j * 4 + 2)) - 48) F (ps / 4)) (F)))), (p5, .inl (cI, 5, .inl (bf (hcb pg ps) (ffl (fun j => nI (pg (j * 4 + 1)) - 48) w (ps / 4)) (w)))), (p6, .inl (cI, 5, .inl (ro (bf (hcb pg ps) (idn (ps / 4) ρ) (ρ))))), (p7, .inl (cI, 5, .inl (bf (hcb pg ps) (ffl (fun _ => 0) tk (ps / 4)) (tk))))]) h (by rw [← ef] <;> rfl)
    exact hret (r := (-103)) (⟨ur1, ust1, ub1, ud1⟩) dX8_coast_21 h (rfl) (by rw [bf_f (hcb_f1 (by omega))])
  · skip
    have c_8 : ¬ (ff pg ps) < ps := fun z => c_8 ((jlt (a := (ff pg ps)) (b := ps) (by omega) (by omega)).mpr z)
    have ef : ff pg ps = ps := by omega
    obtain ⟨e1, e2, e3, e4⟩ := hqc ef
    subst e1
    subst e2
    subst e3
    subst e4
    have hS5 := gS_le (ff_all ef)
    refine lv_aload_n hx hb dX8_coast_11 rfl (lv_at hl 0 rfl) ?_
    refine r_get C h fk8 0 5 rfl (by decide) mf_RX8_74 rfl dX8_coast_12 ?_
    refine lv_iconst (v := 5) hx hb dX8_coast_15 (by decide) ?_
    refine lv_icmp_eq (tgt := 22) hx hb dX8_coast_16 (by decide) (fun c_16 => ?_) (fun c_16 => ?_)
    · skip
      have c_16 := (jeq (a := (gS pg ps)) (b := 5) (by omega) (by omega)).mp c_16
      have hcbt := hcb_t ef c_16
      obtain ⟨nm, hm2, hm5, hmp⟩ := (coast_n hcbt).2.2.2.2
      have ha := (coast_n hcbt).1
      have hs := (coast_n hcbt).2.2.1
      have hd2 : 2 ≤ ps / 4 := by omega
      have hd5 : ps / 4 ≤ 5 := by omega
      have hdp : ps / 4 * 4 + 1 = ps := by omega
      have eR : gR pg ps = ps / 4 := by rw [(gS_eq ps ha).2]; omega
      have ha4 : ∀ j, j < ps / 4 * 4 + 1 → fitb pg j = true := by rw [hdp]; exact ha
      have hs4 : sem pg (ps / 4 * 4 + 1) 2 = true := by rw [hdp]; exact hs
      have eB : gB pg rdb ps = nI (pg (ps / 4 * 4)) - 48 := by have h1 := gB_e (b := rdb) ha4 hs4 hd2; rw [hdp] at h1; exact h1
      have hD : ∀ r, r < ps / 4 → gD pg rd ps (3 * r) = kb (pg (r * 4)) ∧ gD pg rd ps (3 * r + 1) = nI (pg (r * 4 + 1)) - 48 ∧ gD pg rd ps (3 * r + 2) = nI (pg (r * 4 + 2)) - 48 := fun r hr => by have h1 := gD_e (d := rd) ha4 hs4 hd2 hr; rw [hdp] at h1; exact h1
      have ef : (nI (gR pg ps)) = (nI (ps / 4)) := by rw [eR]
      have h := HS.cg (ws' := [(p0, .inr (8, [.ref p1, .int (nI ps), .ref p2, .int (nI (ps / 4)), .int (gB pg rdb ps), .int (nI (gS pg ps)), .int (nI n), .int bar, .int hrs, .int crd, .ref p3, .ref p4, .ref p5, .ref p6, .ref p7, .int tof, .int tmu, .ref p8, .ref p9, .int bdn, .ref p10, .int (nI q), .ref p11, .ref p12, .ref p13, .int sdn, .int kcs, .int khr, .int ksn, .ref p14, .ref p15, .ref p16, .ref p17, .long hlg])), (p1, .inl (cI, 24, .inl (ro pg))), (p2, .inl (cI, 15, .inl (gD pg rd ps))), (p3, .inl (cI, 5, .inl K)), (p4, .inl (cI, 5, .inl F)), (p5, .inl (cI, 5, .inl w)), (p6, .inl (cI, 5, .inl (ro ρ))), (p7, .inl (cI, 5, .inl tk))]) h (by rw [← ef] <;> rfl)
      have ef : (gB pg rdb ps) = (nI (pg (ps / 4 * 4)) - 48) := eB
      have h := HS.cg (ws' := [(p0, .inr (8, [.ref p1, .int (nI ps), .ref p2, .int (nI (ps / 4)), .int (nI (pg (ps / 4 * 4)) - 48), .int (nI (gS pg ps)), .int (nI n), .int bar, .int hrs, .int crd, .ref p3, .ref p4, .ref p5, .ref p6, .ref p7, .int tof, .int tmu, .ref p8, .ref p9, .int bdn, .ref p10, .int (nI q), .ref p11, .ref p12, .ref p13, .int sdn, .int kcs, .int khr, .int ksn, .ref p14, .ref p15, .ref p16, .ref p17, .long hlg])), (p1, .inl (cI, 24, .inl (ro pg))), (p2, .inl (cI, 15, .inl (gD pg rd ps))), (p3, .inl (cI, 5, .inl K)), (p4, .inl (cI, 5, .inl F)), (p5, .inl (cI, 5, .inl w)), (p6, .inl (cI, 5, .inl (ro ρ))), (p7, .inl (cI, 5, .inl tk))]) h (by rw [← ef] <;> rfl)
      refine lv_aload_n hx hb dX8_coast_22 rfl (lv_at hl 0 rfl) ?_
      refine lv_aload_n hx hb dX8_coast_23 rfl (lv_at hl 0 rfl) ?_
      refine r_get C h fk8 0 3 rfl (by decide) mf_RX8_77 rfl dX8_coast_24 ?_
      refine r_put C h fk8 0 6 rfl (by decide) mf_RX8_99 rfl (rfl) rfl (Nat.le_of_ble_eq_true rfl) (ws' := [(p0, .inr (8, [.ref p1, .int (nI ps), .ref p2, .int (nI (ps / 4)), .int (nI (pg (ps / 4 * 4)) - 48), .int (nI (gS pg ps)), .int (nI (ps / 4)), .int bar, .int hrs, .int crd, .ref p3, .ref p4, .ref p5, .ref p6, .ref p7, .int tof, .int tmu, .ref p8, .ref p9, .int bdn, .ref p10, .int (nI q), .ref p11, .ref p12, .ref p13, .int sdn, .int kcs, .int khr, .int ksn, .ref p14, .ref p15, .ref p16, .ref p17, .long hlg])), (p1, .inl (cI, 24, .inl (ro pg))), (p2, .inl (cI, 15, .inl (gD pg rd ps))), (p3, .inl (cI, 5, .inl K)), (p4, .inl (cI, 5, .inl F)), (p5, .inl (cI, 5, .inl w)), (p6, .inl (cI, 5, .inl (ro ρ))), (p7, .inl (cI, 5, .inl tk))]) rfl dX8_coast_27 (fun H locs h => ?_)
      refine lv_iconst (v := 0) hx hb dX8_coast_30 (by decide) ?_
      refine lv_istore_n (lv' := [(1, .int 0), (0, .ref p0)]) hx hb dX8_coast_31 rfl hl (by decide) rfl (fun ls hl => ?_)
      have L32 : ∀ (fu : Nat) (i : Nat), (ps / 4 - i) < fu → (hi : i ≤ ps / 4) → ∀ (H : Heap) (locs : List Loc) (ls : Array Slot), HS D A s H locs [(p0, .inr (8, [.ref p1, .int (nI ps), .ref p2, .int (nI (ps / 4)), .int (nI (pg (ps / 4 * 4)) - 48), .int (nI (gS pg ps)), .int (nI (ps / 4)), .int bar, .int hrs, .int crd, .ref p3, .ref p4, .ref p5, .ref p6, .ref p7, .int tof, .int tmu, .ref p8, .ref p9, .int bdn, .ref p10, .int (nI q), .ref p11, .ref p12, .ref p13, .int sdn, .int kcs, .int khr, .int ksn, .ref p14, .ref p15, .ref p16, .ref p17, .long hlg])), (p1, .inl (cI, 24, .inl (ro pg))), (p2, .inl (cI, 15, .inl (gD pg rd ps))), (p3, .inl (cI, 5, .inl (ffl (fun j => kb (pg (j * 4))) K i))), (p4, .inl (cI, 5, .inl (ffl (fun j => nI (pg (j * 4 + 2)) - 48) F i))), (p5, .inl (cI, 5, .inl (ffl (fun j => nI (pg (j * 4 + 1)) - 48) w i))), (p6, .inl (cI, 5, .inl (ro (idn i ρ)))), (p7, .inl (cI, 5, .inl (ffl (fun _ => 0) tk i)))] → lv_has ls 2 [(0, .ref p0), (1, .int (nI i))] → W p l e (rmO 3 69 0 0) s m args below meth c H locs 0 0 Q (F0 m 32 ls []) := by
        intro fu
        induction fu with
        | zero => intro i hfu; exact absurd hfu (Nat.not_lt_zero _)
        | succ fu ih32 =>
          intro i hfu hi H locs ls h hl
          refine lv_iload_n hx hb dX8_coast_32 rfl (lv_at hl 1 rfl) ?_
          refine lv_aload_n hx hb dX8_coast_33 rfl (lv_at hl 0 rfl) ?_
          refine r_get C h fk8 0 6 rfl (by decide) mf_RX8_99 rfl dX8_coast_34 ?_
          refine lv_icmp_ge (tgt := 106) hx hb dX8_coast_37 (by decide) (fun c_37 => ?_) (fun c_37 => ?_)
          · skip
            have c_37 := (jle (a := (ps / 4)) (b := i) (by omega) (by omega)).mp c_37
            obtain rfl : ps / 4 = i := by omega
            refine lv_aload_n hx hb dX8_coast_106 rfl (lv_at hl 0 rfl) ?_
            refine lv_aload_n hx hb dX8_coast_107 rfl (lv_at hl 0 rfl) ?_
            refine r_get C h fk8 0 4 rfl (by decide) mf_RX8_88 rfl dX8_coast_108 ?_
            refine r_put C h fk8 0 7 rfl (by decide) mf_RX8_102 rfl (rfl) rfl (Nat.le_of_ble_eq_true rfl) (ws' := [(p0, .inr (8, [.ref p1, .int (nI ps), .ref p2, .int (nI (ps / 4)), .int (nI (pg (ps / 4 * 4)) - 48), .int (nI (gS pg ps)), .int (nI (ps / 4)), .int (nI (pg (ps / 4 * 4)) - 48), .int hrs, .int crd, .ref p3, .ref p4, .ref p5, .ref p6, .ref p7, .int tof, .int tmu, .ref p8, .ref p9, .int bdn, .ref p10, .int (nI q), .ref p11, .ref p12, .ref p13, .int sdn, .int kcs, .int khr, .int ksn, .ref p14, .ref p15, .ref p16, .ref p17, .long hlg])), (p1, .inl (cI, 24, .inl (ro pg))), (p2, .inl (cI, 15, .inl (gD pg rd ps))), (p3, .inl (cI, 5, .inl (ffl (fun j => kb (pg (j * 4))) K (ps / 4)))), (p4, .inl (cI, 5, .inl (ffl (fun j => nI (pg (j * 4 + 2)) - 48) F (ps / 4)))), (p5, .inl (cI, 5, .inl (ffl (fun j => nI (pg (j * 4 + 1)) - 48) w (ps / 4)))), (p6, .inl (cI, 5, .inl (ro (idn (ps / 4) ρ)))), (p7, .inl (cI, 5, .inl (ffl (fun _ => 0) tk (ps / 4))))]) rfl dX8_coast_111 (fun H locs h => ?_)
            refine lv_aload_n hx hb dX8_coast_114 rfl (lv_at hl 0 rfl) ?_
            refine lv_iconst (v := 0) hx hb dX8_coast_115 (by decide) ?_
            refine r_put C h fk8 0 8 rfl (by decide) mf_RX8_105 rfl (rfl) rfl (Nat.le_of_ble_eq_true rfl) (ws' := [(p0, .inr (8, [.ref p1, .int (nI ps), .ref p2, .int (nI (ps / 4)), .int (nI (pg (ps / 4 * 4)) - 48), .int (nI (gS pg ps)), .int (nI (ps / 4)), .int (nI (pg (ps / 4 * 4)) - 48), .int 0, .int crd, .ref p3, .ref p4, .ref p5, .ref p6, .ref p7, .int tof, .int tmu, .ref p8, .ref p9, .int bdn, .ref p10, .int (nI q), .ref p11, .ref p12, .ref p13, .int sdn, .int kcs, .int khr, .int ksn, .ref p14, .ref p15, .ref p16, .ref p17, .long hlg])), (p1, .inl (cI, 24, .inl (ro pg))), (p2, .inl (cI, 15, .inl (gD pg rd ps))), (p3, .inl (cI, 5, .inl (ffl (fun j => kb (pg (j * 4))) K (ps / 4)))), (p4, .inl (cI, 5, .inl (ffl (fun j => nI (pg (j * 4 + 2)) - 48) F (ps / 4)))), (p5, .inl (cI, 5, .inl (ffl (fun j => nI (pg (j * 4 + 1)) - 48) w (ps / 4)))), (p6, .inl (cI, 5, .inl (ro (idn (ps / 4) ρ)))), (p7, .inl (cI, 5, .inl (ffl (fun _ => 0) tk (ps / 4))))]) rfl dX8_coast_116 (fun H locs h => ?_)
            refine lv_aload_n hx hb dX8_coast_119 rfl (lv_at hl 0 rfl) ?_
            refine lv_iconst (v := 0) hx hb dX8_coast_120 (by decide) ?_
            refine r_put C h fk8 0 21 rfl (by decide) mf_RX8_108 rfl (rfl) rfl (Nat.le_of_ble_eq_true rfl) (ws' := [(p0, .inr (8, [.ref p1, .int (nI ps), .ref p2, .int (nI (ps / 4)), .int (nI (pg (ps / 4 * 4)) - 48), .int (nI (gS pg ps)), .int (nI (ps / 4)), .int (nI (pg (ps / 4 * 4)) - 48), .int 0, .int crd, .ref p3, .ref p4, .ref p5, .ref p6, .ref p7, .int tof, .int tmu, .ref p8, .ref p9, .int bdn, .ref p10, .int 0, .ref p11, .ref p12, .ref p13, .int sdn, .int kcs, .int khr, .int ksn, .ref p14, .ref p15, .ref p16, .ref p17, .long hlg])), (p1, .inl (cI, 24, .inl (ro pg))), (p2, .inl (cI, 15, .inl (gD pg rd ps))), (p3, .inl (cI, 5, .inl (ffl (fun j => kb (pg (j * 4))) K (ps / 4)))), (p4, .inl (cI, 5, .inl (ffl (fun j => nI (pg (j * 4 + 2)) - 48) F (ps / 4)))), (p5, .inl (cI, 5, .inl (ffl (fun j => nI (pg (j * 4 + 1)) - 48) w (ps / 4)))), (p6, .inl (cI, 5, .inl (ro (idn (ps / 4) ρ)))), (p7, .inl (cI, 5, .inl (ffl (fun _ => 0) tk (ps / 4))))]) rfl dX8_coast_121 (fun H locs h => ?_)
            refine lv_aload_n hx hb dX8_coast_124 rfl (lv_at hl 0 rfl) ?_
            refine lv_dup hx hb dX8_coast_125 rfl ?_
            refine r_get C h fk8 0 9 rfl (by decide) mf_RX8_111 rfl dX8_coast_126 ?_
            refine lv_iconst (v := 1) hx hb dX8_coast_129 (by decide) ?_
            refine lv_iadd hx hb dX8_coast_130 ?_
            refine r_put C h fk8 0 9 rfl (by decide) mf_RX8_111 rfl (rfl) rfl (Nat.le_of_ble_eq_true rfl) (ws' := [(p0, .inr (8, [.ref p1, .int (nI ps), .ref p2, .int (nI (ps / 4)), .int (nI (pg (ps / 4 * 4)) - 48), .int (nI (gS pg ps)), .int (nI (ps / 4)), .int (nI (pg (ps / 4 * 4)) - 48), .int 0, .int (crd + 1), .ref p3, .ref p4, .ref p5, .ref p6, .ref p7, .int tof, .int tmu, .ref p8, .ref p9, .int bdn, .ref p10, .int 0, .ref p11, .ref p12, .ref p13, .int sdn, .int kcs, .int khr, .int ksn, .ref p14, .ref p15, .ref p16, .ref p17, .long hlg])), (p1, .inl (cI, 24, .inl (ro pg))), (p2, .inl (cI, 15, .inl (gD pg rd ps))), (p3, .inl (cI, 5, .inl (ffl (fun j => kb (pg (j * 4))) K (ps / 4)))), (p4, .inl (cI, 5, .inl (ffl (fun j => nI (pg (j * 4 + 2)) - 48) F (ps / 4)))), (p5, .inl (cI, 5, .inl (ffl (fun j => nI (pg (j * 4 + 1)) - 48) w (ps / 4)))), (p6, .inl (cI, 5, .inl (ro (idn (ps / 4) ρ)))), (p7, .inl (cI, 5, .inl (ffl (fun _ => 0) tk (ps / 4))))]) rfl dX8_coast_131 (fun H locs h => ?_)
            refine lv_aload_n hx hb dX8_coast_134 rfl (lv_at hl 0 rfl) ?_
            refine lv_iconst (v := 0) hx hb dX8_coast_135 (by decide) ?_
            refine r_put C h fk8 0 1 rfl (by decide) mf_RX8_71 rfl (rfl) rfl (Nat.le_of_ble_eq_true rfl) (ws' := [(p0, .inr (8, [.ref p1, .int 0, .ref p2, .int (nI (ps / 4)), .int (nI (pg (ps / 4 * 4)) - 48), .int (nI (gS pg ps)), .int (nI (ps / 4)), .int (nI (pg (ps / 4 * 4)) - 48), .int 0, .int (crd + 1), .ref p3, .ref p4, .ref p5, .ref p6, .ref p7, .int tof, .int tmu, .ref p8, .ref p9, .int bdn, .ref p10, .int 0, .ref p11, .ref p12, .ref p13, .int sdn, .int kcs, .int khr, .int ksn, .ref p14, .ref p15, .ref p16, .ref p17, .long hlg])), (p1, .inl (cI, 24, .inl (ro pg))), (p2, .inl (cI, 15, .inl (gD pg rd ps))), (p3, .inl (cI, 5, .inl (ffl (fun j => kb (pg (j * 4))) K (ps / 4)))), (p4, .inl (cI, 5, .inl (ffl (fun j => nI (pg (j * 4 + 2)) - 48) F (ps / 4)))), (p5, .inl (cI, 5, .inl (ffl (fun j => nI (pg (j * 4 + 1)) - 48) w (ps / 4)))), (p6, .inl (cI, 5, .inl (ro (idn (ps / 4) ρ)))), (p7, .inl (cI, 5, .inl (ffl (fun _ => 0) tk (ps / 4))))]) rfl dX8_coast_136 (fun H locs h => ?_)
            refine lv_aload_n hx hb dX8_coast_139 rfl (lv_at hl 0 rfl) ?_
            refine r_get C h fk8 0 6 rfl (by decide) mf_RX8_99 rfl dX8_coast_140 ?_
            have h := h.arr 3 (g := bf (hcb pg ps) (ffl (fun j => kb (pg (j * 4))) K (ps / 4)) (K)) rfl (fun j hj => by rw [bf_t hcbt]) rfl
            have h := h.arr 4 (g := bf (hcb pg ps) (ffl (fun j => nI (pg (j * 4 + 2)) - 48) F (ps / 4)) (F)) rfl (fun j hj => by rw [bf_t hcbt]) rfl
            have h := h.arr 5 (g := bf (hcb pg ps) (ffl (fun j => nI (pg (j * 4 + 1)) - 48) w (ps / 4)) (w)) rfl (fun j hj => by rw [bf_t hcbt]) rfl
            have h := h.arr 6 (g := ro (bf (hcb pg ps) (idn (ps / 4) ρ) (ρ))) rfl (fun j hj => by rw [bf_t hcbt]) rfl
            have h := h.arr 7 (g := bf (hcb pg ps) (ffl (fun _ => 0) tk (ps / 4)) (tk)) rfl (fun j hj => by rw [bf_t hcbt]) rfl
            have ef : 0 = (nI (bf (hcb pg ps) (0) (ps))) := by rw [bf_t hcbt] <;> rfl
            have h := HS.cg (ws' := [(p0, .inr (8, [.ref p1, .int (nI (bf (hcb pg ps) (0) (ps))), .ref p2, .int (nI (ps / 4)), .int (nI (pg (ps / 4 * 4)) - 48), .int (nI (gS pg ps)), .int (nI (ps / 4)), .int (nI (pg (ps / 4 * 4)) - 48), .int 0, .int (crd + 1), .ref p3, .ref p4, .ref p5, .ref p6, .ref p7, .int tof, .int tmu, .ref p8, .ref p9, .int bdn, .ref p10, .int 0, .ref p11, .ref p12, .ref p13, .int sdn, .int kcs, .int khr, .int ksn, .ref p14, .ref p15, .ref p16, .ref p17, .long hlg])), (p1, .inl (cI, 24, .inl (ro pg))), (p2, .inl (cI, 15, .inl (gD pg rd ps))), (p3, .inl (cI, 5, .inl (bf (hcb pg ps) (ffl (fun j => kb (pg (j * 4))) K (ps / 4)) (K)))), (p4, .inl (cI, 5, .inl (bf (hcb pg ps) (ffl (fun j => nI (pg (j * 4 + 2)) - 48) F (ps / 4)) (F)))), (p5, .inl (cI, 5, .inl (bf (hcb pg ps) (ffl (fun j => nI (pg (j * 4 + 1)) - 48) w (ps / 4)) (w)))), (p6, .inl (cI, 5, .inl (ro (bf (hcb pg ps) (idn (ps / 4) ρ) (ρ))))), (p7, .inl (cI, 5, .inl (bf (hcb pg ps) (ffl (fun _ => 0) tk (ps / 4)) (tk))))]) h (by rw [← ef] <;> rfl)
            have ef : (nI (ps / 4)) = (nI (bf (hcb pg ps) ((ps / 4)) (n))) := by rw [bf_t hcbt] <;> rfl
            have h := HS.cg (ws' := [(p0, .inr (8, [.ref p1, .int (nI (bf (hcb pg ps) (0) (ps))), .ref p2, .int (nI (ps / 4)), .int (nI (pg (ps / 4 * 4)) - 48), .int (nI (gS pg ps)), .int (nI (bf (hcb pg ps) ((ps / 4)) (n))), .int (nI (pg (ps / 4 * 4)) - 48), .int 0, .int (crd + 1), .ref p3, .ref p4, .ref p5, .ref p6, .ref p7, .int tof, .int tmu, .ref p8, .ref p9, .int bdn, .ref p10, .int 0, .ref p11, .ref p12, .ref p13, .int sdn, .int kcs, .int khr, .int ksn, .ref p14, .ref p15, .ref p16, .ref p17, .long hlg])), (p1, .inl (cI, 24, .inl (ro pg))), (p2, .inl (cI, 15, .inl (gD pg rd ps))), (p3, .inl (cI, 5, .inl (bf (hcb pg ps) (ffl (fun j => kb (pg (j * 4))) K (ps / 4)) (K)))), (p4, .inl (cI, 5, .inl (bf (hcb pg ps) (ffl (fun j => nI (pg (j * 4 + 2)) - 48) F (ps / 4)) (F)))), (p5, .inl (cI, 5, .inl (bf (hcb pg ps) (ffl (fun j => nI (pg (j * 4 + 1)) - 48) w (ps / 4)) (w)))), (p6, .inl (cI, 5, .inl (ro (bf (hcb pg ps) (idn (ps / 4) ρ) (ρ))))), (p7, .inl (cI, 5, .inl (bf (hcb pg ps) (ffl (fun _ => 0) tk (ps / 4)) (tk))))]) h (by rw [← ef] <;> rfl)
            have ef : (nI (pg (ps / 4 * 4)) - 48) = (bf (hcb pg ps) (nI (pg (ps / 4 * 4)) - 48) (bar)) := by rw [bf_t hcbt] <;> rfl
            have h := HS.cg (ws' := [(p0, .inr (8, [.ref p1, .int (nI (bf (hcb pg ps) (0) (ps))), .ref p2, .int (nI (ps / 4)), .int (nI (pg (ps / 4 * 4)) - 48), .int (nI (gS pg ps)), .int (nI (bf (hcb pg ps) ((ps / 4)) (n))), .int (bf (hcb pg ps) (nI (pg (ps / 4 * 4)) - 48) (bar)), .int 0, .int (crd + 1), .ref p3, .ref p4, .ref p5, .ref p6, .ref p7, .int tof, .int tmu, .ref p8, .ref p9, .int bdn, .ref p10, .int 0, .ref p11, .ref p12, .ref p13, .int sdn, .int kcs, .int khr, .int ksn, .ref p14, .ref p15, .ref p16, .ref p17, .long hlg])), (p1, .inl (cI, 24, .inl (ro pg))), (p2, .inl (cI, 15, .inl (gD pg rd ps))), (p3, .inl (cI, 5, .inl (bf (hcb pg ps) (ffl (fun j => kb (pg (j * 4))) K (ps / 4)) (K)))), (p4, .inl (cI, 5, .inl (bf (hcb pg ps) (ffl (fun j => nI (pg (j * 4 + 2)) - 48) F (ps / 4)) (F)))), (p5, .inl (cI, 5, .inl (bf (hcb pg ps) (ffl (fun j => nI (pg (j * 4 + 1)) - 48) w (ps / 4)) (w)))), (p6, .inl (cI, 5, .inl (ro (bf (hcb pg ps) (idn (ps / 4) ρ) (ρ))))), (p7, .inl (cI, 5, .inl (bf (hcb pg ps) (ffl (fun _ => 0) tk (ps / 4)) (tk))))]) h (by rw [← ef] <;> rfl)
            have ef : 0 = (bf (hcb pg ps) (0) (hrs)) := by rw [bf_t hcbt] <;> rfl
            have h := HS.cg (ws' := [(p0, .inr (8, [.ref p1, .int (nI (bf (hcb pg ps) (0) (ps))), .ref p2, .int (nI (ps / 4)), .int (nI (pg (ps / 4 * 4)) - 48), .int (nI (gS pg ps)), .int (nI (bf (hcb pg ps) ((ps / 4)) (n))), .int (bf (hcb pg ps) (nI (pg (ps / 4 * 4)) - 48) (bar)), .int (bf (hcb pg ps) (0) (hrs)), .int (crd + 1), .ref p3, .ref p4, .ref p5, .ref p6, .ref p7, .int tof, .int tmu, .ref p8, .ref p9, .int bdn, .ref p10, .int 0, .ref p11, .ref p12, .ref p13, .int sdn, .int kcs, .int khr, .int ksn, .ref p14, .ref p15, .ref p16, .ref p17, .long hlg])), (p1, .inl (cI, 24, .inl (ro pg))), (p2, .inl (cI, 15, .inl (gD pg rd ps))), (p3, .inl (cI, 5, .inl (bf (hcb pg ps) (ffl (fun j => kb (pg (j * 4))) K (ps / 4)) (K)))), (p4, .inl (cI, 5, .inl (bf (hcb pg ps) (ffl (fun j => nI (pg (j * 4 + 2)) - 48) F (ps / 4)) (F)))), (p5, .inl (cI, 5, .inl (bf (hcb pg ps) (ffl (fun j => nI (pg (j * 4 + 1)) - 48) w (ps / 4)) (w)))), (p6, .inl (cI, 5, .inl (ro (bf (hcb pg ps) (idn (ps / 4) ρ) (ρ))))), (p7, .inl (cI, 5, .inl (bf (hcb pg ps) (ffl (fun _ => 0) tk (ps / 4)) (tk))))]) h (by rw [← ef] <;> rfl)
            have ef : (crd + 1) = (bf (hcb pg ps) (crd + 1) (crd)) := by rw [bf_t hcbt] <;> rfl
            have h := HS.cg (ws' := [(p0, .inr (8, [.ref p1, .int (nI (bf (hcb pg ps) (0) (ps))), .ref p2, .int (nI (ps / 4)), .int (nI (pg (ps / 4 * 4)) - 48), .int (nI (gS pg ps)), .int (nI (bf (hcb pg ps) ((ps / 4)) (n))), .int (bf (hcb pg ps) (nI (pg (ps / 4 * 4)) - 48) (bar)), .int (bf (hcb pg ps) (0) (hrs)), .int (bf (hcb pg ps) (crd + 1) (crd)), .ref p3, .ref p4, .ref p5, .ref p6, .ref p7, .int tof, .int tmu, .ref p8, .ref p9, .int bdn, .ref p10, .int 0, .ref p11, .ref p12, .ref p13, .int sdn, .int kcs, .int khr, .int ksn, .ref p14, .ref p15, .ref p16, .ref p17, .long hlg])), (p1, .inl (cI, 24, .inl (ro pg))), (p2, .inl (cI, 15, .inl (gD pg rd ps))), (p3, .inl (cI, 5, .inl (bf (hcb pg ps) (ffl (fun j => kb (pg (j * 4))) K (ps / 4)) (K)))), (p4, .inl (cI, 5, .inl (bf (hcb pg ps) (ffl (fun j => nI (pg (j * 4 + 2)) - 48) F (ps / 4)) (F)))), (p5, .inl (cI, 5, .inl (bf (hcb pg ps) (ffl (fun j => nI (pg (j * 4 + 1)) - 48) w (ps / 4)) (w)))), (p6, .inl (cI, 5, .inl (ro (bf (hcb pg ps) (idn (ps / 4) ρ) (ρ))))), (p7, .inl (cI, 5, .inl (bf (hcb pg ps) (ffl (fun _ => 0) tk (ps / 4)) (tk))))]) h (by rw [← ef] <;> rfl)
            have ef : 0 = (nI (bf (hcb pg ps) (0) (q))) := by rw [bf_t hcbt] <;> rfl
            have h := HS.cg (ws' := [(p0, .inr (8, [.ref p1, .int (nI (bf (hcb pg ps) (0) (ps))), .ref p2, .int (nI (ps / 4)), .int (nI (pg (ps / 4 * 4)) - 48), .int (nI (gS pg ps)), .int (nI (bf (hcb pg ps) ((ps / 4)) (n))), .int (bf (hcb pg ps) (nI (pg (ps / 4 * 4)) - 48) (bar)), .int (bf (hcb pg ps) (0) (hrs)), .int (bf (hcb pg ps) (crd + 1) (crd)), .ref p3, .ref p4, .ref p5, .ref p6, .ref p7, .int tof, .int tmu, .ref p8, .ref p9, .int bdn, .ref p10, .int (nI (bf (hcb pg ps) (0) (q))), .ref p11, .ref p12, .ref p13, .int sdn, .int kcs, .int khr, .int ksn, .ref p14, .ref p15, .ref p16, .ref p17, .long hlg])), (p1, .inl (cI, 24, .inl (ro pg))), (p2, .inl (cI, 15, .inl (gD pg rd ps))), (p3, .inl (cI, 5, .inl (bf (hcb pg ps) (ffl (fun j => kb (pg (j * 4))) K (ps / 4)) (K)))), (p4, .inl (cI, 5, .inl (bf (hcb pg ps) (ffl (fun j => nI (pg (j * 4 + 2)) - 48) F (ps / 4)) (F)))), (p5, .inl (cI, 5, .inl (bf (hcb pg ps) (ffl (fun j => nI (pg (j * 4 + 1)) - 48) w (ps / 4)) (w)))), (p6, .inl (cI, 5, .inl (ro (bf (hcb pg ps) (idn (ps / 4) ρ) (ρ))))), (p7, .inl (cI, 5, .inl (bf (hcb pg ps) (ffl (fun _ => 0) tk (ps / 4)) (tk))))]) h (by rw [← ef] <;> rfl)
            exact hret (r := nI (ps / 4)) (⟨nI (ps / 4), nI (gS pg ps), nI (pg (ps / 4 * 4)) - 48, gD pg rd ps⟩) dX8_coast_143 h (rfl) (by rw [bf_t hcbt])
          · skip
            have c_37 : ¬ (ps / 4) ≤ i := fun z => c_37 ((jle (a := (ps / 4)) (b := i) (by omega) (by omega)).mpr z)
            have hlt : i < ps / 4 := by omega
            refine lv_aload_n hx hb dX8_coast_40 rfl (lv_at hl 0 rfl) ?_
            refine r_get C h fk8 0 10 rfl (by decide) mf_RX8_16 rfl dX8_coast_41 ?_
            refine lv_iload_n hx hb dX8_coast_44 rfl (lv_at hl 1 rfl) ?_
            refine lv_aload_n hx hb dX8_coast_45 rfl (lv_at hl 0 rfl) ?_
            refine r_get C h fk8 0 2 rfl (by decide) mf_RX8_13 rfl dX8_coast_46 ?_
            refine lv_iconst (v := 3) hx hb dX8_coast_49 (by decide) ?_
            refine lv_iload_n hx hb dX8_coast_50 rfl (lv_at hl 1 rfl) ?_
            refine lv_imul hx hb dX8_coast_51 ?_
            refine r_top (y := nI (3 * i)) (pk_mul 3 i) ?_
            refine r_ld C h 2 rfl (3 * i) (rfl) (by omega) (by decide) (x := kb (pg (i * 4))) ((hD i hlt).1) dX8_coast_52 ?_
            refine r_st C h 3 rfl i (rfl) (by omega) (by decide) (g := upd (ffl (fun j => kb (pg (j * 4))) K i) i (kb (pg (i * 4)))) (fun _ _ => rfl) (ws' := [(p0, .inr (8, [.ref p1, .int (nI ps), .ref p2, .int (nI (ps / 4)), .int (nI (pg (ps / 4 * 4)) - 48), .int (nI (gS pg ps)), .int (nI (ps / 4)), .int bar, .int hrs, .int crd, .ref p3, .ref p4, .ref p5, .ref p6, .ref p7, .int tof, .int tmu, .ref p8, .ref p9, .int bdn, .ref p10, .int (nI q), .ref p11, .ref p12, .ref p13, .int sdn, .int kcs, .int khr, .int ksn, .ref p14, .ref p15, .ref p16, .ref p17, .long hlg])), (p1, .inl (cI, 24, .inl (ro pg))), (p2, .inl (cI, 15, .inl (gD pg rd ps))), (p3, .inl (cI, 5, .inl (upd (ffl (fun j => kb (pg (j * 4))) K i) i (kb (pg (i * 4)))))), (p4, .inl (cI, 5, .inl (ffl (fun j => nI (pg (j * 4 + 2)) - 48) F i))), (p5, .inl (cI, 5, .inl (ffl (fun j => nI (pg (j * 4 + 1)) - 48) w i))), (p6, .inl (cI, 5, .inl (ro (idn i ρ)))), (p7, .inl (cI, 5, .inl (ffl (fun _ => 0) tk i)))]) rfl dX8_coast_53 (fun H locs h => ?_)
            refine lv_aload_n hx hb dX8_coast_54 rfl (lv_at hl 0 rfl) ?_
            refine r_get C h fk8 0 12 rfl (by decide) mf_RX8_22 rfl dX8_coast_55 ?_
            refine lv_iload_n hx hb dX8_coast_58 rfl (lv_at hl 1 rfl) ?_
            refine lv_aload_n hx hb dX8_coast_59 rfl (lv_at hl 0 rfl) ?_
            refine r_get C h fk8 0 2 rfl (by decide) mf_RX8_13 rfl dX8_coast_60 ?_
            refine lv_iconst (v := 3) hx hb dX8_coast_63 (by decide) ?_
            refine lv_iload_n hx hb dX8_coast_64 rfl (lv_at hl 1 rfl) ?_
            refine lv_imul hx hb dX8_coast_65 ?_
            refine r_top (y := nI (3 * i)) (pk_mul 3 i) ?_
            refine lv_iconst (v := 1) hx hb dX8_coast_66 (by decide) ?_
            refine lv_iadd hx hb dX8_coast_67 ?_
            refine r_top (y := nI ((3 * i) + 1)) (nI_add (3 * i) 1) ?_
            refine r_ld C h 2 rfl ((3 * i) + 1) (rfl) (by omega) (by decide) (x := nI (pg (i * 4 + 1)) - 48) ((hD i hlt).2.1) dX8_coast_68 ?_
            refine r_st C h 5 rfl i (rfl) (by omega) (by decide) (g := upd (ffl (fun j => nI (pg (j * 4 + 1)) - 48) w i) i (nI (pg (i * 4 + 1)) - 48)) (fun _ _ => rfl) (ws' := [(p0, .inr (8, [.ref p1, .int (nI ps), .ref p2, .int (nI (ps / 4)), .int (nI (pg (ps / 4 * 4)) - 48), .int (nI (gS pg ps)), .int (nI (ps / 4)), .int bar, .int hrs, .int crd, .ref p3, .ref p4, .ref p5, .ref p6, .ref p7, .int tof, .int tmu, .ref p8, .ref p9, .int bdn, .ref p10, .int (nI q), .ref p11, .ref p12, .ref p13, .int sdn, .int kcs, .int khr, .int ksn, .ref p14, .ref p15, .ref p16, .ref p17, .long hlg])), (p1, .inl (cI, 24, .inl (ro pg))), (p2, .inl (cI, 15, .inl (gD pg rd ps))), (p3, .inl (cI, 5, .inl (upd (ffl (fun j => kb (pg (j * 4))) K i) i (kb (pg (i * 4)))))), (p4, .inl (cI, 5, .inl (ffl (fun j => nI (pg (j * 4 + 2)) - 48) F i))), (p5, .inl (cI, 5, .inl (upd (ffl (fun j => nI (pg (j * 4 + 1)) - 48) w i) i (nI (pg (i * 4 + 1)) - 48)))), (p6, .inl (cI, 5, .inl (ro (idn i ρ)))), (p7, .inl (cI, 5, .inl (ffl (fun _ => 0) tk i)))]) rfl dX8_coast_69 (fun H locs h => ?_)
            refine lv_aload_n hx hb dX8_coast_70 rfl (lv_at hl 0 rfl) ?_
            refine r_get C h fk8 0 11 rfl (by decide) mf_RX8_19 rfl dX8_coast_71 ?_
            refine lv_iload_n hx hb dX8_coast_74 rfl (lv_at hl 1 rfl) ?_
            refine lv_aload_n hx hb dX8_coast_75 rfl (lv_at hl 0 rfl) ?_
            refine r_get C h fk8 0 2 rfl (by decide) mf_RX8_13 rfl dX8_coast_76 ?_
            refine lv_iconst (v := 3) hx hb dX8_coast_79 (by decide) ?_
            refine lv_iload_n hx hb dX8_coast_80 rfl (lv_at hl 1 rfl) ?_
            refine lv_imul hx hb dX8_coast_81 ?_
            refine r_top (y := nI (3 * i)) (pk_mul 3 i) ?_
            refine lv_iconst (v := 2) hx hb dX8_coast_82 (by decide) ?_
            refine lv_iadd hx hb dX8_coast_83 ?_
            refine r_top (y := nI ((3 * i) + 2)) (nI_add (3 * i) 2) ?_
            refine r_ld C h 2 rfl ((3 * i) + 2) (rfl) (by omega) (by decide) (x := nI (pg (i * 4 + 2)) - 48) ((hD i hlt).2.2) dX8_coast_84 ?_
            refine r_st C h 4 rfl i (rfl) (by omega) (by decide) (g := upd (ffl (fun j => nI (pg (j * 4 + 2)) - 48) F i) i (nI (pg (i * 4 + 2)) - 48)) (fun _ _ => rfl) (ws' := [(p0, .inr (8, [.ref p1, .int (nI ps), .ref p2, .int (nI (ps / 4)), .int (nI (pg (ps / 4 * 4)) - 48), .int (nI (gS pg ps)), .int (nI (ps / 4)), .int bar, .int hrs, .int crd, .ref p3, .ref p4, .ref p5, .ref p6, .ref p7, .int tof, .int tmu, .ref p8, .ref p9, .int bdn, .ref p10, .int (nI q), .ref p11, .ref p12, .ref p13, .int sdn, .int kcs, .int khr, .int ksn, .ref p14, .ref p15, .ref p16, .ref p17, .long hlg])), (p1, .inl (cI, 24, .inl (ro pg))), (p2, .inl (cI, 15, .inl (gD pg rd ps))), (p3, .inl (cI, 5, .inl (upd (ffl (fun j => kb (pg (j * 4))) K i) i (kb (pg (i * 4)))))), (p4, .inl (cI, 5, .inl (upd (ffl (fun j => nI (pg (j * 4 + 2)) - 48) F i) i (nI (pg (i * 4 + 2)) - 48)))), (p5, .inl (cI, 5, .inl (upd (ffl (fun j => nI (pg (j * 4 + 1)) - 48) w i) i (nI (pg (i * 4 + 1)) - 48)))), (p6, .inl (cI, 5, .inl (ro (idn i ρ)))), (p7, .inl (cI, 5, .inl (ffl (fun _ => 0) tk i)))]) rfl dX8_coast_85 (fun H locs h => ?_)
            refine lv_aload_n hx hb dX8_coast_86 rfl (lv_at hl 0 rfl) ?_
            refine r_get C h fk8 0 13 rfl (by decide) mf_RX8_25 rfl dX8_coast_87 ?_
            refine lv_iload_n hx hb dX8_coast_90 rfl (lv_at hl 1 rfl) ?_
            refine lv_iload_n hx hb dX8_coast_91 rfl (lv_at hl 1 rfl) ?_
            refine r_st C h 6 rfl i (rfl) (by omega) (by decide) (g := ro (un (idn i ρ) i i)) (fun j _ => ro_un j) (ws' := [(p0, .inr (8, [.ref p1, .int (nI ps), .ref p2, .int (nI (ps / 4)), .int (nI (pg (ps / 4 * 4)) - 48), .int (nI (gS pg ps)), .int (nI (ps / 4)), .int bar, .int hrs, .int crd, .ref p3, .ref p4, .ref p5, .ref p6, .ref p7, .int tof, .int tmu, .ref p8, .ref p9, .int bdn, .ref p10, .int (nI q), .ref p11, .ref p12, .ref p13, .int sdn, .int kcs, .int khr, .int ksn, .ref p14, .ref p15, .ref p16, .ref p17, .long hlg])), (p1, .inl (cI, 24, .inl (ro pg))), (p2, .inl (cI, 15, .inl (gD pg rd ps))), (p3, .inl (cI, 5, .inl (upd (ffl (fun j => kb (pg (j * 4))) K i) i (kb (pg (i * 4)))))), (p4, .inl (cI, 5, .inl (upd (ffl (fun j => nI (pg (j * 4 + 2)) - 48) F i) i (nI (pg (i * 4 + 2)) - 48)))), (p5, .inl (cI, 5, .inl (upd (ffl (fun j => nI (pg (j * 4 + 1)) - 48) w i) i (nI (pg (i * 4 + 1)) - 48)))), (p6, .inl (cI, 5, .inl (ro (un (idn i ρ) i i)))), (p7, .inl (cI, 5, .inl (ffl (fun _ => 0) tk i)))]) rfl dX8_coast_92 (fun H locs h => ?_)
            refine lv_aload_n hx hb dX8_coast_93 rfl (lv_at hl 0 rfl) ?_
            refine r_get C h fk8 0 14 rfl (by decide) mf_RX8_28 rfl dX8_coast_94 ?_
            refine lv_iload_n hx hb dX8_coast_97 rfl (lv_at hl 1 rfl) ?_
            refine lv_iconst (v := 0) hx hb dX8_coast_98 (by decide) ?_
            refine r_st C h 7 rfl i (rfl) (by omega) (by decide) (g := upd (ffl (fun _ => 0) tk i) i 0) (fun _ _ => rfl) (ws' := [(p0, .inr (8, [.ref p1, .int (nI ps), .ref p2, .int (nI (ps / 4)), .int (nI (pg (ps / 4 * 4)) - 48), .int (nI (gS pg ps)), .int (nI (ps / 4)), .int bar, .int hrs, .int crd, .ref p3, .ref p4, .ref p5, .ref p6, .ref p7, .int tof, .int tmu, .ref p8, .ref p9, .int bdn, .ref p10, .int (nI q), .ref p11, .ref p12, .ref p13, .int sdn, .int kcs, .int khr, .int ksn, .ref p14, .ref p15, .ref p16, .ref p17, .long hlg])), (p1, .inl (cI, 24, .inl (ro pg))), (p2, .inl (cI, 15, .inl (gD pg rd ps))), (p3, .inl (cI, 5, .inl (upd (ffl (fun j => kb (pg (j * 4))) K i) i (kb (pg (i * 4)))))), (p4, .inl (cI, 5, .inl (upd (ffl (fun j => nI (pg (j * 4 + 2)) - 48) F i) i (nI (pg (i * 4 + 2)) - 48)))), (p5, .inl (cI, 5, .inl (upd (ffl (fun j => nI (pg (j * 4 + 1)) - 48) w i) i (nI (pg (i * 4 + 1)) - 48)))), (p6, .inl (cI, 5, .inl (ro (un (idn i ρ) i i)))), (p7, .inl (cI, 5, .inl (upd (ffl (fun _ => 0) tk i) i 0)))]) rfl dX8_coast_99 (fun H locs h => ?_)
            refine lv_iinc (v := nI (i + 1)) (lv' := [(1, .int (nI (i + 1))), (0, .ref p0)]) hx hb dX8_coast_100 hl (k := 1) rfl (nI_1 i) (by decide) rfl (fun ls hl => ?_)
            refine lv_goto (tgt := 32) hx hb dX8_coast_103 (by decide) ?_
            have h := h.arr 3 (g := ffl (fun j => kb (pg (j * 4))) K (i + 1)) rfl (fun j _ => ffl_s (fun j => kb (pg (j * 4))) K i j) rfl
            have h := h.arr 4 (g := ffl (fun j => nI (pg (j * 4 + 2)) - 48) F (i + 1)) rfl (fun j _ => ffl_s (fun j => nI (pg (j * 4 + 2)) - 48) F i j) rfl
            have h := h.arr 5 (g := ffl (fun j => nI (pg (j * 4 + 1)) - 48) w (i + 1)) rfl (fun j _ => ffl_s (fun j => nI (pg (j * 4 + 1)) - 48) w i j) rfl
            have h := h.arr 6 (g := ro (idn (i + 1) ρ)) rfl (fun j _ => congrArg nI (idn_s i j)) rfl
            have h := h.arr 7 (g := ffl (fun _ => 0) tk (i + 1)) rfl (fun j _ => ffl_s (fun _ => 0) tk i j) rfl
            exact ih32  (i + 1) (by omega) (by first | assumption | omega) _ _ _ h (lv_sub hl [1, 0] rfl)
      have h := h.arr 3 (g := ffl (fun j => kb (pg (j * 4))) K 0) rfl (fun j _ => ffl_0 _ K j) rfl
      have h := h.arr 4 (g := ffl (fun j => nI (pg (j * 4 + 2)) - 48) F 0) rfl (fun j _ => ffl_0 _ F j) rfl
      have h := h.arr 5 (g := ffl (fun j => nI (pg (j * 4 + 1)) - 48) w 0) rfl (fun j _ => ffl_0 _ w j) rfl
      have h := h.arr 6 (g := ro (idn 0 ρ)) rfl (fun j _ => congrArg nI (idn_0 ρ j)) rfl
      have h := h.arr 7 (g := ffl (fun _ => 0) tk 0) rfl (fun j _ => ffl_0 _ tk j) rfl
      exact L32 ((ps / 4 - 0) + 1) 0 (by omega) (by first | assumption | omega) _ _ _ h (lv_sub hl [1, 0] rfl)
    · skip
      have c_16 : ¬ (gS pg ps) = 5 := fun z => c_16 ((jeq (a := (gS pg ps)) (b := 5) (by omega) (by omega)).mpr z)
      refine lv_bipush (v := (-103)) hx hb dX8_coast_19 (by decide) ?_
      have h := h.arr 3 (g := bf (hcb pg ps) (ffl (fun j => kb (pg (j * 4))) K (ps / 4)) (K)) rfl (fun j hj => by rw [bf_f (hcb_f2 c_16)]) rfl
      have h := h.arr 4 (g := bf (hcb pg ps) (ffl (fun j => nI (pg (j * 4 + 2)) - 48) F (ps / 4)) (F)) rfl (fun j hj => by rw [bf_f (hcb_f2 c_16)]) rfl
      have h := h.arr 5 (g := bf (hcb pg ps) (ffl (fun j => nI (pg (j * 4 + 1)) - 48) w (ps / 4)) (w)) rfl (fun j hj => by rw [bf_f (hcb_f2 c_16)]) rfl
      have h := h.arr 6 (g := ro (bf (hcb pg ps) (idn (ps / 4) ρ) (ρ))) rfl (fun j hj => by rw [bf_f (hcb_f2 c_16)]) rfl
      have h := h.arr 7 (g := bf (hcb pg ps) (ffl (fun _ => 0) tk (ps / 4)) (tk)) rfl (fun j hj => by rw [bf_f (hcb_f2 c_16)]) rfl
      have ef : (nI ps) = (nI (bf (hcb pg ps) (0) (ps))) := by rw [bf_f (hcb_f2 c_16)] <;> rfl
      have h := HS.cg (ws' := [(p0, .inr (8, [.ref p1, .int (nI (bf (hcb pg ps) (0) (ps))), .ref p2, .int (nI (gR pg ps)), .int (gB pg rdb ps), .int (nI (gS pg ps)), .int (nI n), .int bar, .int hrs, .int crd, .ref p3, .ref p4, .ref p5, .ref p6, .ref p7, .int tof, .int tmu, .ref p8, .ref p9, .int bdn, .ref p10, .int (nI q), .ref p11, .ref p12, .ref p13, .int sdn, .int kcs, .int khr, .int ksn, .ref p14, .ref p15, .ref p16, .ref p17, .long hlg])), (p1, .inl (cI, 24, .inl (ro pg))), (p2, .inl (cI, 15, .inl (gD pg rd ps))), (p3, .inl (cI, 5, .inl (bf (hcb pg ps) (ffl (fun j => kb (pg (j * 4))) K (ps / 4)) (K)))), (p4, .inl (cI, 5, .inl (bf (hcb pg ps) (ffl (fun j => nI (pg (j * 4 + 2)) - 48) F (ps / 4)) (F)))), (p5, .inl (cI, 5, .inl (bf (hcb pg ps) (ffl (fun j => nI (pg (j * 4 + 1)) - 48) w (ps / 4)) (w)))), (p6, .inl (cI, 5, .inl (ro (bf (hcb pg ps) (idn (ps / 4) ρ) (ρ))))), (p7, .inl (cI, 5, .inl (bf (hcb pg ps) (ffl (fun _ => 0) tk (ps / 4)) (tk))))]) h (by rw [← ef] <;> rfl)
      have ef : (nI n) = (nI (bf (hcb pg ps) ((ps / 4)) (n))) := by rw [bf_f (hcb_f2 c_16)] <;> rfl
      have h := HS.cg (ws' := [(p0, .inr (8, [.ref p1, .int (nI (bf (hcb pg ps) (0) (ps))), .ref p2, .int (nI (gR pg ps)), .int (gB pg rdb ps), .int (nI (gS pg ps)), .int (nI (bf (hcb pg ps) ((ps / 4)) (n))), .int bar, .int hrs, .int crd, .ref p3, .ref p4, .ref p5, .ref p6, .ref p7, .int tof, .int tmu, .ref p8, .ref p9, .int bdn, .ref p10, .int (nI q), .ref p11, .ref p12, .ref p13, .int sdn, .int kcs, .int khr, .int ksn, .ref p14, .ref p15, .ref p16, .ref p17, .long hlg])), (p1, .inl (cI, 24, .inl (ro pg))), (p2, .inl (cI, 15, .inl (gD pg rd ps))), (p3, .inl (cI, 5, .inl (bf (hcb pg ps) (ffl (fun j => kb (pg (j * 4))) K (ps / 4)) (K)))), (p4, .inl (cI, 5, .inl (bf (hcb pg ps) (ffl (fun j => nI (pg (j * 4 + 2)) - 48) F (ps / 4)) (F)))), (p5, .inl (cI, 5, .inl (bf (hcb pg ps) (ffl (fun j => nI (pg (j * 4 + 1)) - 48) w (ps / 4)) (w)))), (p6, .inl (cI, 5, .inl (ro (bf (hcb pg ps) (idn (ps / 4) ρ) (ρ))))), (p7, .inl (cI, 5, .inl (bf (hcb pg ps) (ffl (fun _ => 0) tk (ps / 4)) (tk))))]) h (by rw [← ef] <;> rfl)
      have ef : bar = (bf (hcb pg ps) (nI (pg (ps / 4 * 4)) - 48) (bar)) := by rw [bf_f (hcb_f2 c_16)] <;> rfl
      have h := HS.cg (ws' := [(p0, .inr (8, [.ref p1, .int (nI (bf (hcb pg ps) (0) (ps))), .ref p2, .int (nI (gR pg ps)), .int (gB pg rdb ps), .int (nI (gS pg ps)), .int (nI (bf (hcb pg ps) ((ps / 4)) (n))), .int (bf (hcb pg ps) (nI (pg (ps / 4 * 4)) - 48) (bar)), .int hrs, .int crd, .ref p3, .ref p4, .ref p5, .ref p6, .ref p7, .int tof, .int tmu, .ref p8, .ref p9, .int bdn, .ref p10, .int (nI q), .ref p11, .ref p12, .ref p13, .int sdn, .int kcs, .int khr, .int ksn, .ref p14, .ref p15, .ref p16, .ref p17, .long hlg])), (p1, .inl (cI, 24, .inl (ro pg))), (p2, .inl (cI, 15, .inl (gD pg rd ps))), (p3, .inl (cI, 5, .inl (bf (hcb pg ps) (ffl (fun j => kb (pg (j * 4))) K (ps / 4)) (K)))), (p4, .inl (cI, 5, .inl (bf (hcb pg ps) (ffl (fun j => nI (pg (j * 4 + 2)) - 48) F (ps / 4)) (F)))), (p5, .inl (cI, 5, .inl (bf (hcb pg ps) (ffl (fun j => nI (pg (j * 4 + 1)) - 48) w (ps / 4)) (w)))), (p6, .inl (cI, 5, .inl (ro (bf (hcb pg ps) (idn (ps / 4) ρ) (ρ))))), (p7, .inl (cI, 5, .inl (bf (hcb pg ps) (ffl (fun _ => 0) tk (ps / 4)) (tk))))]) h (by rw [← ef] <;> rfl)
      have ef : hrs = (bf (hcb pg ps) (0) (hrs)) := by rw [bf_f (hcb_f2 c_16)] <;> rfl
      have h := HS.cg (ws' := [(p0, .inr (8, [.ref p1, .int (nI (bf (hcb pg ps) (0) (ps))), .ref p2, .int (nI (gR pg ps)), .int (gB pg rdb ps), .int (nI (gS pg ps)), .int (nI (bf (hcb pg ps) ((ps / 4)) (n))), .int (bf (hcb pg ps) (nI (pg (ps / 4 * 4)) - 48) (bar)), .int (bf (hcb pg ps) (0) (hrs)), .int crd, .ref p3, .ref p4, .ref p5, .ref p6, .ref p7, .int tof, .int tmu, .ref p8, .ref p9, .int bdn, .ref p10, .int (nI q), .ref p11, .ref p12, .ref p13, .int sdn, .int kcs, .int khr, .int ksn, .ref p14, .ref p15, .ref p16, .ref p17, .long hlg])), (p1, .inl (cI, 24, .inl (ro pg))), (p2, .inl (cI, 15, .inl (gD pg rd ps))), (p3, .inl (cI, 5, .inl (bf (hcb pg ps) (ffl (fun j => kb (pg (j * 4))) K (ps / 4)) (K)))), (p4, .inl (cI, 5, .inl (bf (hcb pg ps) (ffl (fun j => nI (pg (j * 4 + 2)) - 48) F (ps / 4)) (F)))), (p5, .inl (cI, 5, .inl (bf (hcb pg ps) (ffl (fun j => nI (pg (j * 4 + 1)) - 48) w (ps / 4)) (w)))), (p6, .inl (cI, 5, .inl (ro (bf (hcb pg ps) (idn (ps / 4) ρ) (ρ))))), (p7, .inl (cI, 5, .inl (bf (hcb pg ps) (ffl (fun _ => 0) tk (ps / 4)) (tk))))]) h (by rw [← ef] <;> rfl)
      have ef : crd = (bf (hcb pg ps) (crd + 1) (crd)) := by rw [bf_f (hcb_f2 c_16)] <;> rfl
      have h := HS.cg (ws' := [(p0, .inr (8, [.ref p1, .int (nI (bf (hcb pg ps) (0) (ps))), .ref p2, .int (nI (gR pg ps)), .int (gB pg rdb ps), .int (nI (gS pg ps)), .int (nI (bf (hcb pg ps) ((ps / 4)) (n))), .int (bf (hcb pg ps) (nI (pg (ps / 4 * 4)) - 48) (bar)), .int (bf (hcb pg ps) (0) (hrs)), .int (bf (hcb pg ps) (crd + 1) (crd)), .ref p3, .ref p4, .ref p5, .ref p6, .ref p7, .int tof, .int tmu, .ref p8, .ref p9, .int bdn, .ref p10, .int (nI q), .ref p11, .ref p12, .ref p13, .int sdn, .int kcs, .int khr, .int ksn, .ref p14, .ref p15, .ref p16, .ref p17, .long hlg])), (p1, .inl (cI, 24, .inl (ro pg))), (p2, .inl (cI, 15, .inl (gD pg rd ps))), (p3, .inl (cI, 5, .inl (bf (hcb pg ps) (ffl (fun j => kb (pg (j * 4))) K (ps / 4)) (K)))), (p4, .inl (cI, 5, .inl (bf (hcb pg ps) (ffl (fun j => nI (pg (j * 4 + 2)) - 48) F (ps / 4)) (F)))), (p5, .inl (cI, 5, .inl (bf (hcb pg ps) (ffl (fun j => nI (pg (j * 4 + 1)) - 48) w (ps / 4)) (w)))), (p6, .inl (cI, 5, .inl (ro (bf (hcb pg ps) (idn (ps / 4) ρ) (ρ))))), (p7, .inl (cI, 5, .inl (bf (hcb pg ps) (ffl (fun _ => 0) tk (ps / 4)) (tk))))]) h (by rw [← ef] <;> rfl)
      have ef : (nI q) = (nI (bf (hcb pg ps) (0) (q))) := by rw [bf_f (hcb_f2 c_16)] <;> rfl
      have h := HS.cg (ws' := [(p0, .inr (8, [.ref p1, .int (nI (bf (hcb pg ps) (0) (ps))), .ref p2, .int (nI (gR pg ps)), .int (gB pg rdb ps), .int (nI (gS pg ps)), .int (nI (bf (hcb pg ps) ((ps / 4)) (n))), .int (bf (hcb pg ps) (nI (pg (ps / 4 * 4)) - 48) (bar)), .int (bf (hcb pg ps) (0) (hrs)), .int (bf (hcb pg ps) (crd + 1) (crd)), .ref p3, .ref p4, .ref p5, .ref p6, .ref p7, .int tof, .int tmu, .ref p8, .ref p9, .int bdn, .ref p10, .int (nI (bf (hcb pg ps) (0) (q))), .ref p11, .ref p12, .ref p13, .int sdn, .int kcs, .int khr, .int ksn, .ref p14, .ref p15, .ref p16, .ref p17, .long hlg])), (p1, .inl (cI, 24, .inl (ro pg))), (p2, .inl (cI, 15, .inl (gD pg rd ps))), (p3, .inl (cI, 5, .inl (bf (hcb pg ps) (ffl (fun j => kb (pg (j * 4))) K (ps / 4)) (K)))), (p4, .inl (cI, 5, .inl (bf (hcb pg ps) (ffl (fun j => nI (pg (j * 4 + 2)) - 48) F (ps / 4)) (F)))), (p5, .inl (cI, 5, .inl (bf (hcb pg ps) (ffl (fun j => nI (pg (j * 4 + 1)) - 48) w (ps / 4)) (w)))), (p6, .inl (cI, 5, .inl (ro (bf (hcb pg ps) (idn (ps / 4) ρ) (ρ))))), (p7, .inl (cI, 5, .inl (bf (hcb pg ps) (ffl (fun _ => 0) tk (ps / 4)) (tk))))]) h (by rw [← ef] <;> rfl)
      exact hret (r := (-103)) (⟨nI (gR pg ps), nI (gS pg ps), gB pg rdb ps, gD pg rd ps⟩) dX8_coast_21 h (rfl) (by rw [bf_f (hcb_f2 c_16)])

set_option maxHeartbeats 4000000 in
set_option maxRecDepth 100000 in
theorem c_X8_tell (l : Launch) (D : va_G) (cI cZ : ClassId) (kS vS : Nat) (p0 : Nat) (p1 : Nat) (p2 : Nat) (p3 : Nat) (p4 : Nat) (p5 : Nat) (p6 : Nat) (p7 : Nat) (p8 : Nat) (p9 : Nat) (p10 : Nat) (p11 : Nat) (p12 : Nat) (p13 : Nat) (p14 : Nat) (p15 : Nat) (p16 : Nat) (p17 : Nat) (n : Nat) (pgm : Int32) (rdm : Int32) (rdb : Int32) (stt : Int32) (bar : Int32) (hrs : Int32) (crd : Int32) (tof : Int32) (tmu : Int32) (bdn : Int32) (sdn : Int32) (kcs : Int32) (khr : Int32) (ksn : Int32) (hlg : Int64) (w : Nat → Int32) (ρ : Nat → Nat) (K : Nat → Int32) (F : Nat → Int32) (tk : Nat → Int32) (sw : Nat → Int32) (ss : Nat → Int32) (q : Nat) (sh : Nat → Nat) (sr : Nat → Nat) (tb : Nat → Int32) (g : Nat → Int32) (y0 : Nat → Int32) (rr : Nat) (x : Int32) (hn2 : 2 ≤ n) (hn5 : n ≤ 5) (hpm : PM n ρ) (hK : ∀ j, j < n → K j = 0 ∨ K j = 1 ∨ K j = 2 ∨ K j = 3 ∨ K j = 4) (hq6 : q ≤ 6) (hsh : ∀ i, i < q → 1 ≤ sh i ∧ sh i ≤ 12) (hrn : rr < n) : CI l yX8_tell cX8_tell 3 .int D cI cZ kS vS 5 124 0 0 [.ref p0, .int (nI rr), .int x] [(p0, .inr (8, [.ref p1, .int pgm, .ref p2, .int rdm, .int rdb, .int stt, .int (nI n), .int bar, .int hrs, .int crd, .ref p3, .ref p4, .ref p5, .ref p6, .ref p7, .int tof, .int tmu, .ref p8, .ref p9, .int bdn, .ref p10, .int (nI q), .ref p11, .ref p12, .ref p13, .int sdn, .int kcs, .int khr, .int ksn, .ref p14, .ref p15, .ref p16, .ref p17, .long hlg])), (p3, .inl (cI, 5, .inl K)), (p4, .inl (cI, 5, .inl F)), (p5, .inl (cI, 5, .inl w)), (p6, .inl (cI, 5, .inl (ro ρ))), (p7, .inl (cI, 5, .inl tk)), (p8, .inl (cI, 5, .inl sw)), (p9, .inl (cI, 5, .inl ss)), (p11, .inl (cI, 18, .inl (sgt sh sr tb))), (p12, .inl (cI, 13, .inl g)), (p13, .inl (cI, 13, .inl y0))] (fun (r : Int32) (u : Int32 × Int32 × (Nat → Int32) × (Nat → Int32) × (Nat → Int32) × (Nat → Int32)) => r = bf (wth x 0 7) (rvv n K F bar w ρ tk sh sr tb q rr x) (-102)) (fun (u : Int32 × Int32 × (Nat → Int32) × (Nat → Int32) × (Nat → Int32) × (Nat → Int32)) => [(p0, .inr (8, [.ref p1, .int pgm, .ref p2, .int rdm, .int rdb, .int stt, .int (nI n), .int bar, .int hrs, .int crd, .ref p3, .ref p4, .ref p5, .ref p6, .ref p7, .int u.1, .int u.2.1, .ref p8, .ref p9, .int bdn, .ref p10, .int (nI q), .ref p11, .ref p12, .ref p13, .int sdn, .int kcs, .int khr, .int ksn, .ref p14, .ref p15, .ref p16, .ref p17, .long hlg])), (p3, .inl (cI, 5, .inl K)), (p4, .inl (cI, 5, .inl F)), (p5, .inl (cI, 5, .inl w)), (p6, .inl (cI, 5, .inl (ro ρ))), (p7, .inl (cI, 5, .inl tk)), (p8, .inl (cI, 5, .inl u.2.2.1)), (p9, .inl (cI, 5, .inl u.2.2.2.1)), (p11, .inl (cI, 18, .inl (sgt sh sr tb))), (p12, .inl (cI, 13, .inl u.2.2.2.2.1)), (p13, .inl (cI, 13, .inl u.2.2.2.2.2))]) := by
  refine CI_intro (by decide) (Nat.le_of_ble_eq_true rfl) ?_
  intro p e s m args below meth c A Q ls C h hret hl
  have C : CX p s m args c cX8_tell 3 RX8 D cI cZ kS vS A := C
  have hx := C.1.1
  have hb := C.1.2.1
  have hl : lv_has ls 3 [(0, .ref p0), (1, .int (nI rr)), (2, .int x)] := hl
  have hqe := plq_e hpm hrn
  refine lv_iload_n hx hb dX8_tell_0 rfl (lv_at hl 2 rfl) ?_
  by_cases k_1_0 : x = 0
  · skip
    refine r_top (y := 0) k_1_0 ?_
    refine lv_tableIn (tgt := 48) hx hb dX8_tell_1 (by decide) (by decide) rfl (by decide) ?_
    refine lv_aload_n hx hb dX8_tell_48 rfl (lv_at hl 0 rfl) ?_
    refine r_get C h fk8 0 10 rfl (by decide) mf_RX8_16 rfl dX8_tell_49 ?_
    refine lv_iload_n hx hb dX8_tell_52 rfl (lv_at hl 1 rfl) ?_
    refine r_ld C h 1 rfl rr (rfl) (by omega) (by decide) (x := K rr) (rfl) dX8_tell_53 ?_
    exact hret (r := K rr) (⟨tof, tmu, sw, ss, g, y0⟩) dX8_tell_54 h (rfl) (by rw [bf_t (show wth x 0 7 = true by rw [k_1_0]; decide)]; unfold rvv; rw [if_pos k_1_0])
  · skip
    by_cases k_1_1 : x = 1
    · skip
      refine r_top (y := 1) k_1_1 ?_
      refine lv_tableIn (tgt := 55) hx hb dX8_tell_1 (by decide) (by decide) rfl (by decide) ?_
      refine lv_aload_n hx hb dX8_tell_55 rfl (lv_at hl 0 rfl) ?_
      refine r_get C h fk8 0 12 rfl (by decide) mf_RX8_22 rfl dX8_tell_56 ?_
      refine lv_iload_n hx hb dX8_tell_59 rfl (lv_at hl 1 rfl) ?_
      refine r_ld C h 3 rfl rr (rfl) (by omega) (by decide) (x := w rr) (rfl) dX8_tell_60 ?_
      exact hret (r := w rr) (⟨tof, tmu, sw, ss, g, y0⟩) dX8_tell_61 h (rfl) (by rw [bf_t (show wth x 0 7 = true by rw [k_1_1]; decide)]; unfold rvv; rw [if_neg k_1_0, if_pos k_1_1])
    · skip
      by_cases k_1_2 : x = 2
      · skip
        refine r_top (y := 2) k_1_2 ?_
        refine lv_tableIn (tgt := 62) hx hb dX8_tell_1 (by decide) (by decide) rfl (by decide) ?_
        refine lv_aload_n hx hb dX8_tell_62 rfl (lv_at hl 0 rfl) ?_
        refine r_get C h fk8 0 11 rfl (by decide) mf_RX8_19 rfl dX8_tell_63 ?_
        refine lv_iload_n hx hb dX8_tell_66 rfl (lv_at hl 1 rfl) ?_
        refine r_ld C h 2 rfl rr (rfl) (by omega) (by decide) (x := F rr) (rfl) dX8_tell_67 ?_
        exact hret (r := F rr) (⟨tof, tmu, sw, ss, g, y0⟩) dX8_tell_68 h (rfl) (by rw [bf_t (show wth x 0 7 = true by rw [k_1_2]; decide)]; unfold rvv; rw [if_neg k_1_0, if_neg k_1_1, if_pos k_1_2])
      · skip
        by_cases k_1_3 : x = 3
        · skip
          refine r_top (y := 3) k_1_3 ?_
          refine lv_tableIn (tgt := 69) hx hb dX8_tell_1 (by decide) (by decide) rfl (by decide) ?_
          refine lv_aload_n hx hb dX8_tell_69 rfl (lv_at hl 0 rfl) ?_
          refine lv_iload_n hx hb dX8_tell_70 rfl (lv_at hl 1 rfl) ?_
          refine r_top (y := nI (ρ (plq n ρ rr))) (by rw [hqe.2]) ?_
          refine k_Vi (rest := []) (as := [.int (nI (ρ (plq n ρ rr)))]) (wc := [(p0, .inr (8, [.ref p1, .int pgm, .ref p2, .int rdm, .int rdb, .int stt, .int (nI n), .int bar, .int hrs, .int crd, .ref p3, .ref p4, .ref p5, .ref p6, .ref p7, .int tof, .int tmu, .ref p8, .ref p9, .int bdn, .ref p10, .int (nI q), .ref p11, .ref p12, .ref p13, .int sdn, .int kcs, .int khr, .int ksn, .ref p14, .ref p15, .ref p16, .ref p17, .long hlg])), (p6, .inl (cI, 5, .inl (ro ρ)))]) (wr := [(p3, .inl (cI, 5, .inl K)), (p4, .inl (cI, 5, .inl F)), (p5, .inl (cI, 5, .inl w)), (p7, .inl (cI, 5, .inl tk)), (p8, .inl (cI, 5, .inl sw)), (p9, .inl (cI, 5, .inl ss)), (p11, .inl (cI, 18, .inl (sgt sh sr tb))), (p12, .inl (cI, 13, .inl g)), (p13, .inl (cI, 13, .inl y0))]) (isC := [0, 4]) (isR := [1, 2, 3, 5, 6, 7, 8, 9, 10]) (w2 := fun (_ : Unit) => [(p0, .inr (8, [.ref p1, .int pgm, .ref p2, .int rdm, .int rdb, .int stt, .int (nI n), .int bar, .int hrs, .int crd, .ref p3, .ref p4, .ref p5, .ref p6, .ref p7, .int tof, .int tmu, .ref p8, .ref p9, .int bdn, .ref p10, .int (nI q), .ref p11, .ref p12, .ref p13, .int sdn, .int kcs, .int khr, .int ksn, .ref p14, .ref p15, .ref p16, .ref p17, .long hlg])), (p3, .inl (cI, 5, .inl K)), (p4, .inl (cI, 5, .inl F)), (p5, .inl (cI, 5, .inl w)), (p6, .inl (cI, 5, .inl (ro ρ))), (p7, .inl (cI, 5, .inl tk)), (p8, .inl (cI, 5, .inl sw)), (p9, .inl (cI, 5, .inl ss)), (p11, .inl (cI, 18, .inl (sgt sh sr tb))), (p12, .inl (cI, 13, .inl g)), (p13, .inl (cI, 13, .inl y0))]) C h (c_X8_placeOf l D cI cZ kS vS p0 p1 p2 p3 p4 p5 p6 p7 p8 p9 p10 p11 p12 p13 p14 p15 p16 p17 n pgm rdm rdb stt bar hrs crd tof tmu bdn (nI q) sdn kcs khr ksn hlg ρ (plq n ρ rr) hn2 hn5 hpm hqe.1) wv_X8_placeOf rfl ⟨rfl, rfl, rfl, rfl, by decide⟩ fk8 0 rfl ml_RX8_141 [9, 0, 1, 2, 10, 3, 4, 5, 6, 7, 8] rfl (fun _ => rfl) ⟨Nat.le_of_ble_eq_true rfl, Nat.le_of_ble_eq_true rfl⟩ ⟨Nat.le_of_ble_eq_true rfl, Nat.le_of_ble_eq_true rfl⟩ (Nat.le_of_ble_eq_true rfl) hl rfl dX8_tell_71 (fun r u H locs hq h => ?_)
          have h : HS D A s H locs [(p0, .inr (8, [.ref p1, .int pgm, .ref p2, .int rdm, .int rdb, .int stt, .int (nI n), .int bar, .int hrs, .int crd, .ref p3, .ref p4, .ref p5, .ref p6, .ref p7, .int tof, .int tmu, .ref p8, .ref p9, .int bdn, .ref p10, .int (nI q), .ref p11, .ref p12, .ref p13, .int sdn, .int kcs, .int khr, .int ksn, .ref p14, .ref p15, .ref p16, .ref p17, .long hlg])), (p3, .inl (cI, 5, .inl K)), (p4, .inl (cI, 5, .inl F)), (p5, .inl (cI, 5, .inl w)), (p6, .inl (cI, 5, .inl (ro ρ))), (p7, .inl (cI, 5, .inl tk)), (p8, .inl (cI, 5, .inl sw)), (p9, .inl (cI, 5, .inl ss)), (p11, .inl (cI, 18, .inl (sgt sh sr tb))), (p12, .inl (cI, 13, .inl g)), (p13, .inl (cI, 13, .inl y0))] := h
          have hq : r = nI (plq n ρ rr) := hq
          have hq := hq.symm
          subst hq
          exact hret (r := nI (plq n ρ rr)) (⟨tof, tmu, sw, ss, g, y0⟩) dX8_tell_74 h (rfl) (by rw [bf_t (show wth x 0 7 = true by rw [k_1_3]; decide)]; unfold rvv; rw [if_neg k_1_0, if_neg k_1_1, if_neg k_1_2, if_pos k_1_3])
        · skip
          by_cases k_1_4 : x = 4
          · skip
            refine r_top (y := 4) k_1_4 ?_
            refine lv_tableIn (tgt := 75) hx hb dX8_tell_1 (by decide) (by decide) rfl (by decide) ?_
            refine lv_aload_n hx hb dX8_tell_75 rfl (lv_at hl 0 rfl) ?_
            refine r_get C h fk8 0 14 rfl (by decide) mf_RX8_28 rfl dX8_tell_76 ?_
            refine lv_iload_n hx hb dX8_tell_79 rfl (lv_at hl 1 rfl) ?_
            refine r_ld C h 5 rfl rr (rfl) (by omega) (by decide) (x := tk rr) (rfl) dX8_tell_80 ?_
            exact hret (r := tk rr) (⟨tof, tmu, sw, ss, g, y0⟩) dX8_tell_81 h (rfl) (by rw [bf_t (show wth x 0 7 = true by rw [k_1_4]; decide)]; unfold rvv; rw [if_neg k_1_0, if_neg k_1_1, if_neg k_1_2, if_neg k_1_3, if_pos k_1_4])
          · skip
            by_cases k_1_5 : x = 5
            · skip
              refine r_top (y := 5) k_1_5 ?_
              refine lv_tableIn (tgt := 82) hx hb dX8_tell_1 (by decide) (by decide) rfl (by decide) ?_
              refine lv_aload_n hx hb dX8_tell_82 rfl (lv_at hl 0 rfl) ?_
              refine lv_iload_n hx hb dX8_tell_83 rfl (lv_at hl 1 rfl) ?_
              refine k_Vi (rest := []) (as := [.int (nI rr)]) (wc := [(p0, .inr (8, [.ref p1, .int pgm, .ref p2, .int rdm, .int rdb, .int stt, .int (nI n), .int bar, .int hrs, .int crd, .ref p3, .ref p4, .ref p5, .ref p6, .ref p7, .int tof, .int tmu, .ref p8, .ref p9, .int bdn, .ref p10, .int (nI q), .ref p11, .ref p12, .ref p13, .int sdn, .int kcs, .int khr, .int ksn, .ref p14, .ref p15, .ref p16, .ref p17, .long hlg])), (p3, .inl (cI, 5, .inl K)), (p4, .inl (cI, 5, .inl F)), (p5, .inl (cI, 5, .inl w)), (p6, .inl (cI, 5, .inl (ro ρ))), (p8, .inl (cI, 5, .inl sw)), (p9, .inl (cI, 5, .inl ss))]) (wr := [(p7, .inl (cI, 5, .inl tk)), (p11, .inl (cI, 18, .inl (sgt sh sr tb))), (p12, .inl (cI, 13, .inl g)), (p13, .inl (cI, 13, .inl y0))]) (isC := [0, 1, 2, 3, 4, 6, 7]) (isR := [5, 8, 9, 10]) (w2 := fun (u : Int32 × Int32) => [(p0, .inr (8, [.ref p1, .int pgm, .ref p2, .int rdm, .int rdb, .int stt, .int (nI n), .int bar, .int hrs, .int crd, .ref p3, .ref p4, .ref p5, .ref p6, .ref p7, .int u.1, .int u.2, .ref p8, .ref p9, .int bdn, .ref p10, .int (nI q), .ref p11, .ref p12, .ref p13, .int sdn, .int kcs, .int khr, .int ksn, .ref p14, .ref p15, .ref p16, .ref p17, .long hlg])), (p3, .inl (cI, 5, .inl K)), (p4, .inl (cI, 5, .inl F)), (p5, .inl (cI, 5, .inl w)), (p6, .inl (cI, 5, .inl (ro ρ))), (p7, .inl (cI, 5, .inl tk)), (p8, .inl (cI, 5, .inl w)), (p9, .inl (cI, 5, .inl (ro ρ))), (p11, .inl (cI, 18, .inl (sgt sh sr tb))), (p12, .inl (cI, 13, .inl g)), (p13, .inl (cI, 13, .inl y0))]) C h (c_X8_waitsOf l D cI cZ kS vS p0 p1 p2 p3 p4 p5 p6 p7 p8 p9 p10 p11 p12 p13 p14 p15 p16 p17 n pgm rdm rdb stt bar hrs crd tof tmu bdn (nI q) sdn kcs khr ksn hlg w ρ K F sw ss rr hn2 hn5 hpm hK) wv_X8_waitsOf rfl ⟨rfl, rfl, rfl, rfl, by decide⟩ fk8 0 rfl ml_RX8_144 [4, 5, 6, 7, 8, 0, 9, 10, 1, 2, 3] rfl (fun _ => rfl) ⟨Nat.le_of_ble_eq_true rfl, Nat.le_of_ble_eq_true rfl⟩ ⟨Nat.le_of_ble_eq_true rfl, Nat.le_of_ble_eq_true rfl⟩ (Nat.le_of_ble_eq_true rfl) hl rfl dX8_tell_84 (fun r u H locs hq h => ?_)
              obtain ⟨uo84, um84⟩ := u
              have h : HS D A s H locs [(p0, .inr (8, [.ref p1, .int pgm, .ref p2, .int rdm, .int rdb, .int stt, .int (nI n), .int bar, .int hrs, .int crd, .ref p3, .ref p4, .ref p5, .ref p6, .ref p7, .int uo84, .int um84, .ref p8, .ref p9, .int bdn, .ref p10, .int (nI q), .ref p11, .ref p12, .ref p13, .int sdn, .int kcs, .int khr, .int ksn, .ref p14, .ref p15, .ref p16, .ref p17, .long hlg])), (p3, .inl (cI, 5, .inl K)), (p4, .inl (cI, 5, .inl F)), (p5, .inl (cI, 5, .inl w)), (p6, .inl (cI, 5, .inl (ro ρ))), (p7, .inl (cI, 5, .inl tk)), (p8, .inl (cI, 5, .inl w)), (p9, .inl (cI, 5, .inl (ro ρ))), (p11, .inl (cI, 18, .inl (sgt sh sr tb))), (p12, .inl (cI, 13, .inl g)), (p13, .inl (cI, 13, .inl y0))] := h
              have hq : r = hwt n K F bar w ρ (nI rr) 60 0 := hq
              have hq := hq.symm
              subst hq
              exact hret (r := hwt n K F bar w ρ (nI rr) 60 0) (⟨uo84, um84, w, ro ρ, g, y0⟩) dX8_tell_87 h (rfl) (by rw [bf_t (show wth x 0 7 = true by rw [k_1_5]; decide)]; unfold rvv; rw [if_neg k_1_0, if_neg k_1_1, if_neg k_1_2, if_neg k_1_3, if_neg k_1_4, if_pos k_1_5])
            · skip
              by_cases k_1_6 : x = 6
              · skip
                refine r_top (y := 6) k_1_6 ?_
                refine lv_tableIn (tgt := 88) hx hb dX8_tell_1 (by decide) (by decide) rfl (by decide) ?_
                refine lv_aload_n hx hb dX8_tell_88 rfl (lv_at hl 0 rfl) ?_
                refine lv_iload_n hx hb dX8_tell_89 rfl (lv_at hl 1 rfl) ?_
                refine k_Vi (rest := []) (as := [.int (nI rr)]) (wc := [(p0, .inr (8, [.ref p1, .int pgm, .ref p2, .int rdm, .int rdb, .int stt, .int (nI n), .int bar, .int hrs, .int crd, .ref p3, .ref p4, .ref p5, .ref p6, .ref p7, .int tof, .int tmu, .ref p8, .ref p9, .int bdn, .ref p10, .int (nI q), .ref p11, .ref p12, .ref p13, .int sdn, .int kcs, .int khr, .int ksn, .ref p14, .ref p15, .ref p16, .ref p17, .long hlg])), (p3, .inl (cI, 5, .inl K)), (p4, .inl (cI, 5, .inl F)), (p5, .inl (cI, 5, .inl w)), (p6, .inl (cI, 5, .inl (ro ρ))), (p8, .inl (cI, 5, .inl sw)), (p9, .inl (cI, 5, .inl ss)), (p11, .inl (cI, 18, .inl (sgt sh sr tb))), (p12, .inl (cI, 13, .inl g))]) (wr := [(p7, .inl (cI, 5, .inl tk)), (p13, .inl (cI, 13, .inl y0))]) (isC := [0, 1, 2, 3, 4, 6, 7, 8, 9]) (isR := [5, 10]) (w2 := fun (u : Int32 × Int32 × (Nat → Int32) × (Nat → Int32) × (Nat → Int32)) => [(p0, .inr (8, [.ref p1, .int pgm, .ref p2, .int rdm, .int rdb, .int stt, .int (nI n), .int bar, .int hrs, .int crd, .ref p3, .ref p4, .ref p5, .ref p6, .ref p7, .int u.1, .int u.2.1, .ref p8, .ref p9, .int bdn, .ref p10, .int (nI q), .ref p11, .ref p12, .ref p13, .int sdn, .int kcs, .int khr, .int ksn, .ref p14, .ref p15, .ref p16, .ref p17, .long hlg])), (p3, .inl (cI, 5, .inl K)), (p4, .inl (cI, 5, .inl F)), (p5, .inl (cI, 5, .inl w)), (p6, .inl (cI, 5, .inl (ro ρ))), (p7, .inl (cI, 5, .inl tk)), (p8, .inl (cI, 5, .inl u.2.2.1)), (p9, .inl (cI, 5, .inl u.2.2.2.1)), (p11, .inl (cI, 18, .inl (sgt sh sr tb))), (p12, .inl (cI, 13, .inl u.2.2.2.2)), (p13, .inl (cI, 13, .inl y0))]) C h (c_X8_muchOf l D cI cZ kS vS p0 p1 p2 p3 p4 p5 p6 p7 p8 p9 p10 p11 p12 p13 p14 p15 p16 p17 n pgm rdm rdb stt bar hrs crd tof tmu bdn sdn kcs khr ksn hlg w ρ K F sw ss q sh sr tb g rr hn2 hn5 hpm hK hq6 hsh hrn) wv_X8_muchOf rfl ⟨rfl, rfl, rfl, rfl, by decide⟩ fk8 0 rfl ml_RX8_147 [2, 3, 4, 5, 6, 0, 7, 8, 9, 10, 1] rfl (fun _ => rfl) ⟨Nat.le_of_ble_eq_true rfl, Nat.le_of_ble_eq_true rfl⟩ ⟨Nat.le_of_ble_eq_true rfl, Nat.le_of_ble_eq_true rfl⟩ (Nat.le_of_ble_eq_true rfl) hl rfl dX8_tell_90 (fun r u H locs hq h => ?_)
                obtain ⟨uo90, um90, usw90, uss90, ug90⟩ := u
                have h : HS D A s H locs [(p0, .inr (8, [.ref p1, .int pgm, .ref p2, .int rdm, .int rdb, .int stt, .int (nI n), .int bar, .int hrs, .int crd, .ref p3, .ref p4, .ref p5, .ref p6, .ref p7, .int uo90, .int um90, .ref p8, .ref p9, .int bdn, .ref p10, .int (nI q), .ref p11, .ref p12, .ref p13, .int sdn, .int kcs, .int khr, .int ksn, .ref p14, .ref p15, .ref p16, .ref p17, .long hlg])), (p3, .inl (cI, 5, .inl K)), (p4, .inl (cI, 5, .inl F)), (p5, .inl (cI, 5, .inl w)), (p6, .inl (cI, 5, .inl (ro ρ))), (p7, .inl (cI, 5, .inl tk)), (p8, .inl (cI, 5, .inl usw90)), (p9, .inl (cI, 5, .inl uss90)), (p11, .inl (cI, 18, .inl (sgt sh sr tb))), (p12, .inl (cI, 13, .inl ug90)), (p13, .inl (cI, 13, .inl y0))] := h
                have hq : r = hbt n K F bar w ρ sh sr tb q rr 10 := hq
                have hq := hq.symm
                subst hq
                exact hret (r := hbt n K F bar w ρ sh sr tb q rr 10) (⟨uo90, um90, usw90, uss90, ug90, y0⟩) dX8_tell_93 h (rfl) (by rw [bf_t (show wth x 0 7 = true by rw [k_1_6]; decide)]; unfold rvv; rw [if_neg k_1_0, if_neg k_1_1, if_neg k_1_2, if_neg k_1_3, if_neg k_1_4, if_neg k_1_5, if_pos k_1_6])
              · skip
                by_cases k_1_7 : x = 7
                · skip
                  refine r_top (y := 7) k_1_7 ?_
                  refine lv_tableIn (tgt := 94) hx hb dX8_tell_1 (by decide) (by decide) rfl (by decide) ?_
                  refine lv_aload_n hx hb dX8_tell_94 rfl (lv_at hl 0 rfl) ?_
                  refine lv_iload_n hx hb dX8_tell_95 rfl (lv_at hl 1 rfl) ?_
                  refine k_Vi (rest := []) (as := [.int (nI rr)]) (wc := [(p0, .inr (8, [.ref p1, .int pgm, .ref p2, .int rdm, .int rdb, .int stt, .int (nI n), .int bar, .int hrs, .int crd, .ref p3, .ref p4, .ref p5, .ref p6, .ref p7, .int tof, .int tmu, .ref p8, .ref p9, .int bdn, .ref p10, .int (nI q), .ref p11, .ref p12, .ref p13, .int sdn, .int kcs, .int khr, .int ksn, .ref p14, .ref p15, .ref p16, .ref p17, .long hlg])), (p3, .inl (cI, 5, .inl K)), (p4, .inl (cI, 5, .inl F)), (p5, .inl (cI, 5, .inl w)), (p6, .inl (cI, 5, .inl (ro ρ))), (p8, .inl (cI, 5, .inl sw)), (p9, .inl (cI, 5, .inl ss)), (p11, .inl (cI, 18, .inl (sgt sh sr tb))), (p12, .inl (cI, 13, .inl g)), (p13, .inl (cI, 13, .inl y0))]) (wr := [(p7, .inl (cI, 5, .inl tk))]) (isC := [0, 1, 2, 3, 4, 6, 7, 8, 9, 10]) (isR := [5]) (w2 := fun (u : Int32 × Int32 × (Nat → Int32) × (Nat → Int32) × (Nat → Int32) × (Nat → Int32)) => [(p0, .inr (8, [.ref p1, .int pgm, .ref p2, .int rdm, .int rdb, .int stt, .int (nI n), .int bar, .int hrs, .int crd, .ref p3, .ref p4, .ref p5, .ref p6, .ref p7, .int u.1, .int u.2.1, .ref p8, .ref p9, .int bdn, .ref p10, .int (nI q), .ref p11, .ref p12, .ref p13, .int sdn, .int kcs, .int khr, .int ksn, .ref p14, .ref p15, .ref p16, .ref p17, .long hlg])), (p3, .inl (cI, 5, .inl K)), (p4, .inl (cI, 5, .inl F)), (p5, .inl (cI, 5, .inl w)), (p6, .inl (cI, 5, .inl (ro ρ))), (p7, .inl (cI, 5, .inl tk)), (p8, .inl (cI, 5, .inl u.2.2.1)), (p9, .inl (cI, 5, .inl u.2.2.2.1)), (p11, .inl (cI, 18, .inl (sgt sh sr tb))), (p12, .inl (cI, 13, .inl u.2.2.2.2.1)), (p13, .inl (cI, 13, .inl u.2.2.2.2.2))]) C h (c_X8_lookOf l D cI cZ kS vS p0 p1 p2 p3 p4 p5 p6 p7 p8 p9 p10 p11 p12 p13 p14 p15 p16 p17 n pgm rdm rdb stt bar hrs crd tof tmu bdn sdn kcs khr ksn hlg w ρ K F sw ss q sh sr tb g y0 rr hn2 hn5 hpm hK hq6 hsh hrn) wv_X8_lookOf rfl ⟨rfl, rfl, rfl, rfl, by decide⟩ fk8 0 rfl ml_RX8_150 [1, 2, 3, 4, 5, 0, 6, 7, 8, 9, 10] rfl (fun _ => rfl) ⟨Nat.le_of_ble_eq_true rfl, Nat.le_of_ble_eq_true rfl⟩ ⟨Nat.le_of_ble_eq_true rfl, Nat.le_of_ble_eq_true rfl⟩ (Nat.le_of_ble_eq_true rfl) hl rfl dX8_tell_96 (fun r u H locs hq h => ?_)
                  obtain ⟨uo96, um96, usw96, uss96, ug96, uy96⟩ := u
                  have h : HS D A s H locs [(p0, .inr (8, [.ref p1, .int pgm, .ref p2, .int rdm, .int rdb, .int stt, .int (nI n), .int bar, .int hrs, .int crd, .ref p3, .ref p4, .ref p5, .ref p6, .ref p7, .int uo96, .int um96, .ref p8, .ref p9, .int bdn, .ref p10, .int (nI q), .ref p11, .ref p12, .ref p13, .int sdn, .int kcs, .int khr, .int ksn, .ref p14, .ref p15, .ref p16, .ref p17, .long hlg])), (p3, .inl (cI, 5, .inl K)), (p4, .inl (cI, 5, .inl F)), (p5, .inl (cI, 5, .inl w)), (p6, .inl (cI, 5, .inl (ro ρ))), (p7, .inl (cI, 5, .inl tk)), (p8, .inl (cI, 5, .inl usw96)), (p9, .inl (cI, 5, .inl uss96)), (p11, .inl (cI, 18, .inl (sgt sh sr tb))), (p12, .inl (cI, 13, .inl ug96)), (p13, .inl (cI, 13, .inl uy96))] := h
                  have hq : r = if hct n K F bar w ρ sh sr tb q rr 10 = 0 then -1 else (hbs (hct n K F bar w ρ sh sr tb q rr 10) (hys n K F bar w ρ sh sr tb q rr 10) (hct n K F bar w ρ sh sr tb q rr 10 + 1) 12).1 := hq
                  have hq := hq.symm
                  subst hq
                  exact hret (r := if hct n K F bar w ρ sh sr tb q rr 10 = 0 then -1 else (hbs (hct n K F bar w ρ sh sr tb q rr 10) (hys n K F bar w ρ sh sr tb q rr 10) (hct n K F bar w ρ sh sr tb q rr 10 + 1) 12).1) (⟨uo96, um96, usw96, uss96, ug96, uy96⟩) dX8_tell_99 h (rfl) (by rw [bf_t (show wth x 0 7 = true by rw [k_1_7]; decide)]; unfold rvv; rw [if_neg k_1_0, if_neg k_1_1, if_neg k_1_2, if_neg k_1_3, if_neg k_1_4, if_neg k_1_5, if_neg k_1_6])
                · skip
                  have e7 : wth x 0 7 = false := wth_d (hi := 7) (by decide) (fun k hk => by
                    rcases (show k = 0 ∨ k = 1 ∨ k = 2 ∨ k = 3 ∨ k = 4 ∨ k = 5 ∨ k = 6 ∨ k = 7 by omega) with e | e | e | e | e | e | e | e <;> subst e
                    · exact k_1_0
                    · exact k_1_1
                    · exact k_1_2
                    · exact k_1_3
                    · exact k_1_4
                    · exact k_1_5
                    · exact k_1_6
                    · exact k_1_7)
                  have hO : (x).toInt < 0 ∨ 7 < (x).toInt := by
                    have zk_1_0 := lv_neT (a := 0) k_1_0 (by decide)
                    have zk_1_1 := lv_neT (a := 1) k_1_1 (by decide)
                    have zk_1_2 := lv_neT (a := 2) k_1_2 (by decide)
                    have zk_1_3 := lv_neT (a := 3) k_1_3 (by decide)
                    have zk_1_4 := lv_neT (a := 4) k_1_4 (by decide)
                    have zk_1_5 := lv_neT (a := 5) k_1_5 (by decide)
                    have zk_1_6 := lv_neT (a := 6) k_1_6 (by decide)
                    have zk_1_7 := lv_neT (a := 7) k_1_7 (by decide)
                    omega
                  refine lv_tableOut (tgt := 100) hx hb dX8_tell_1 hO (by decide) ?_
                  refine lv_bipush (v := (-102)) hx hb dX8_tell_100 (by decide) ?_
                  exact hret (r := (-102)) (⟨tof, tmu, sw, ss, g, y0⟩) dX8_tell_102 h (rfl) (by rw [bf_f e7])

set_option maxHeartbeats 4000000 in
set_option maxRecDepth 100000 in
theorem c_X8_river (l : Launch) (D : va_G) (cI cZ : ClassId) (kS vS : Nat) (p0 : Nat) (p1 : Nat) (p2 : Nat) (p3 : Nat) (p4 : Nat) (p5 : Nat) (p6 : Nat) (p7 : Nat) (p8 : Nat) (p9 : Nat) (p10 : Nat) (p11 : Nat) (p12 : Nat) (p13 : Nat) (p14 : Nat) (p15 : Nat) (p16 : Nat) (p17 : Nat) (n : Nat) (pgm : Int32) (rdm : Int32) (rdb : Int32) (stt : Int32) (bar : Int32) (hrs : Int32) (crd : Int32) (tof : Int32) (tmu : Int32) (bdn : Int32) (sdn : Int32) (kcs : Int32) (khr : Int32) (ksn : Int32) (hlg : Int64) (w : Nat → Int32) (ρ : Nat → Nat) (K : Nat → Int32) (F : Nat → Int32) (tk : Nat → Int32) (sw : Nat → Int32) (ss : Nat → Int32) (q : Nat) (sh : Nat → Nat) (sr : Nat → Nat) (tb : Nat → Int32) (g : Nat → Int32) (y0 : Nat → Int32) (x : Int32) (y : Int32) (hn : n = 0 ∨ (2 ≤ n ∧ n ≤ 5)) (hpm : PM n ρ) (hK : ∀ j, j < n → K j = 0 ∨ K j = 1 ∨ K j = 2 ∨ K j = 3 ∨ K j = 4) (hq6 : q ≤ 6) (hsh : ∀ i, i < q → 1 ≤ sh i ∧ sh i ≤ 12) : CI l yX8_river cX8_river 3 .int D cI cZ kS vS 6 146 0 0 [.ref p0, .int x, .int y] [(p0, .inr (8, [.ref p1, .int pgm, .ref p2, .int rdm, .int rdb, .int stt, .int (nI n), .int bar, .int hrs, .int crd, .ref p3, .ref p4, .ref p5, .ref p6, .ref p7, .int tof, .int tmu, .ref p8, .ref p9, .int bdn, .ref p10, .int (nI q), .ref p11, .ref p12, .ref p13, .int sdn, .int kcs, .int khr, .int ksn, .ref p14, .ref p15, .ref p16, .ref p17, .long hlg])), (p3, .inl (cI, 5, .inl K)), (p4, .inl (cI, 5, .inl F)), (p5, .inl (cI, 5, .inl w)), (p6, .inl (cI, 5, .inl (ro ρ))), (p7, .inl (cI, 5, .inl tk)), (p8, .inl (cI, 5, .inl sw)), (p9, .inl (cI, 5, .inl ss)), (p11, .inl (cI, 18, .inl (sgt sh sr tb))), (p12, .inl (cI, 13, .inl g)), (p13, .inl (cI, 13, .inl y0))] (fun (r : Int32) (u : Int32 × Int32 × (Nat → Int32) × (Nat → Int32) × (Nat → Int32) × (Nat → Int32)) => r = bf (hin (nI n) x) (bf (wth y 0 7) (rvv n K F bar w ρ tk sh sr tb q x.toNatClampNeg y) (-102)) (-101)) (fun (u : Int32 × Int32 × (Nat → Int32) × (Nat → Int32) × (Nat → Int32) × (Nat → Int32)) => [(p0, .inr (8, [.ref p1, .int pgm, .ref p2, .int rdm, .int rdb, .int stt, .int (nI n), .int bar, .int hrs, .int crd, .ref p3, .ref p4, .ref p5, .ref p6, .ref p7, .int u.1, .int u.2.1, .ref p8, .ref p9, .int bdn, .ref p10, .int (nI q), .ref p11, .ref p12, .ref p13, .int sdn, .int kcs, .int khr, .int ksn, .ref p14, .ref p15, .ref p16, .ref p17, .long hlg])), (p3, .inl (cI, 5, .inl K)), (p4, .inl (cI, 5, .inl F)), (p5, .inl (cI, 5, .inl w)), (p6, .inl (cI, 5, .inl (ro ρ))), (p7, .inl (cI, 5, .inl tk)), (p8, .inl (cI, 5, .inl u.2.2.1)), (p9, .inl (cI, 5, .inl u.2.2.2.1)), (p11, .inl (cI, 18, .inl (sgt sh sr tb))), (p12, .inl (cI, 13, .inl u.2.2.2.2.1)), (p13, .inl (cI, 13, .inl u.2.2.2.2.2))]) := by
  refine CI_intro (by decide) (Nat.le_of_ble_eq_true rfl) ?_
  intro p e s m args below meth c A Q ls C h hret hl
  have C : CX p s m args c cX8_river 3 RX8 D cI cZ kS vS A := C
  have hx := C.1.1
  have hb := C.1.2.1
  have hl : lv_has ls 3 [(0, .ref p0), (1, .int x), (2, .int y)] := hl
  have hn5 : n ≤ 5 := by omega
  refine lv_aload_n hx hb dX8_river_0 rfl (lv_at hl 0 rfl) ?_
  refine lv_iload_n hx hb dX8_river_1 rfl (lv_at hl 1 rfl) ?_
  refine k_Vi (rest := []) (as := [.int x]) (wc := [(p0, .inr (8, [.ref p1, .int pgm, .ref p2, .int rdm, .int rdb, .int stt, .int (nI n), .int bar, .int hrs, .int crd, .ref p3, .ref p4, .ref p5, .ref p6, .ref p7, .int tof, .int tmu, .ref p8, .ref p9, .int bdn, .ref p10, .int (nI q), .ref p11, .ref p12, .ref p13, .int sdn, .int kcs, .int khr, .int ksn, .ref p14, .ref p15, .ref p16, .ref p17, .long hlg]))]) (wr := [(p3, .inl (cI, 5, .inl K)), (p4, .inl (cI, 5, .inl F)), (p5, .inl (cI, 5, .inl w)), (p6, .inl (cI, 5, .inl (ro ρ))), (p7, .inl (cI, 5, .inl tk)), (p8, .inl (cI, 5, .inl sw)), (p9, .inl (cI, 5, .inl ss)), (p11, .inl (cI, 18, .inl (sgt sh sr tb))), (p12, .inl (cI, 13, .inl g)), (p13, .inl (cI, 13, .inl y0))]) (isC := [0]) (isR := [1, 2, 3, 4, 5, 6, 7, 8, 9, 10]) (w2 := fun (_ : Unit) => [(p0, .inr (8, [.ref p1, .int pgm, .ref p2, .int rdm, .int rdb, .int stt, .int (nI n), .int bar, .int hrs, .int crd, .ref p3, .ref p4, .ref p5, .ref p6, .ref p7, .int tof, .int tmu, .ref p8, .ref p9, .int bdn, .ref p10, .int (nI q), .ref p11, .ref p12, .ref p13, .int sdn, .int kcs, .int khr, .int ksn, .ref p14, .ref p15, .ref p16, .ref p17, .long hlg])), (p3, .inl (cI, 5, .inl K)), (p4, .inl (cI, 5, .inl F)), (p5, .inl (cI, 5, .inl w)), (p6, .inl (cI, 5, .inl (ro ρ))), (p7, .inl (cI, 5, .inl tk)), (p8, .inl (cI, 5, .inl sw)), (p9, .inl (cI, 5, .inl ss)), (p11, .inl (cI, 18, .inl (sgt sh sr tb))), (p12, .inl (cI, 13, .inl g)), (p13, .inl (cI, 13, .inl y0))]) C h (c_X8_isRiver l D cI cZ kS vS p0 p1 p2 p3 p4 p5 p6 p7 p8 p9 p10 p11 p12 p13 p14 p15 p16 p17 n pgm rdm rdb stt bar hrs crd tof tmu bdn (nI q) sdn kcs khr ksn hlg x hn5) wv_X8_isRiver rfl ⟨rfl, rfl, rfl, rfl, by decide⟩ fk8 0 rfl ml_RX8_153 [10, 0, 1, 2, 3, 4, 5, 6, 7, 8, 9] rfl (fun _ => rfl) ⟨Nat.le_of_ble_eq_true rfl, Nat.le_of_ble_eq_true rfl⟩ ⟨Nat.le_of_ble_eq_true rfl, Nat.le_of_ble_eq_true rfl⟩ (Nat.le_of_ble_eq_true rfl) hl rfl dX8_river_2 (fun r u H locs hq h => ?_)
  have h : HS D A s H locs [(p0, .inr (8, [.ref p1, .int pgm, .ref p2, .int rdm, .int rdb, .int stt, .int (nI n), .int bar, .int hrs, .int crd, .ref p3, .ref p4, .ref p5, .ref p6, .ref p7, .int tof, .int tmu, .ref p8, .ref p9, .int bdn, .ref p10, .int (nI q), .ref p11, .ref p12, .ref p13, .int sdn, .int kcs, .int khr, .int ksn, .ref p14, .ref p15, .ref p16, .ref p17, .long hlg])), (p3, .inl (cI, 5, .inl K)), (p4, .inl (cI, 5, .inl F)), (p5, .inl (cI, 5, .inl w)), (p6, .inl (cI, 5, .inl (ro ρ))), (p7, .inl (cI, 5, .inl tk)), (p8, .inl (cI, 5, .inl sw)), (p9, .inl (cI, 5, .inl ss)), (p11, .inl (cI, 18, .inl (sgt sh sr tb))), (p12, .inl (cI, 13, .inl g)), (p13, .inl (cI, 13, .inl y0))] := h
  have hq : r = bI (hin (nI n) x) := hq
  have hq := hq.symm
  subst hq
  refine lv_if_eq (tgt := 17) hx hb dX8_river_5 (by decide) (fun c_5 => ?_) (fun c_5 => ?_)
  · skip
    have hb_5 : (hin (nI n) x) = false := bI_0.mp c_5
    refine lv_bipush (v := (-101)) hx hb dX8_river_17 (by decide) ?_
    exact hret (r := (-101)) (⟨tof, tmu, sw, ss, g, y0⟩) dX8_river_19 h (rfl) (by rw [bf_f hb_5])
  · skip
    have hb_5 : (hin (nI n) x) = true := bI_n0.mp c_5
    obtain ⟨k0, hk0, rfl⟩ := hin_of hb_5 (by omega)
    have hcl : (nI k0).toNatClampNeg = k0 := nI_clamp (by omega)
    have hn2 : 2 ≤ n := by omega
    refine lv_aload_n hx hb dX8_river_8 rfl (lv_at hl 0 rfl) ?_
    refine lv_iload_n hx hb dX8_river_9 rfl (lv_at hl 1 rfl) ?_
    refine lv_iload_n hx hb dX8_river_10 rfl (lv_at hl 2 rfl) ?_
    refine k_Vi (rest := []) (as := [.int (nI k0), .int y]) (wc := [(p0, .inr (8, [.ref p1, .int pgm, .ref p2, .int rdm, .int rdb, .int stt, .int (nI n), .int bar, .int hrs, .int crd, .ref p3, .ref p4, .ref p5, .ref p6, .ref p7, .int tof, .int tmu, .ref p8, .ref p9, .int bdn, .ref p10, .int (nI q), .ref p11, .ref p12, .ref p13, .int sdn, .int kcs, .int khr, .int ksn, .ref p14, .ref p15, .ref p16, .ref p17, .long hlg])), (p3, .inl (cI, 5, .inl K)), (p4, .inl (cI, 5, .inl F)), (p5, .inl (cI, 5, .inl w)), (p6, .inl (cI, 5, .inl (ro ρ))), (p7, .inl (cI, 5, .inl tk)), (p8, .inl (cI, 5, .inl sw)), (p9, .inl (cI, 5, .inl ss)), (p11, .inl (cI, 18, .inl (sgt sh sr tb))), (p12, .inl (cI, 13, .inl g)), (p13, .inl (cI, 13, .inl y0))]) (wr := []) (isC := [0, 1, 2, 3, 4, 5, 6, 7, 8, 9, 10]) (isR := []) (w2 := fun (u : Int32 × Int32 × (Nat → Int32) × (Nat → Int32) × (Nat → Int32) × (Nat → Int32)) => [(p0, .inr (8, [.ref p1, .int pgm, .ref p2, .int rdm, .int rdb, .int stt, .int (nI n), .int bar, .int hrs, .int crd, .ref p3, .ref p4, .ref p5, .ref p6, .ref p7, .int u.1, .int u.2.1, .ref p8, .ref p9, .int bdn, .ref p10, .int (nI q), .ref p11, .ref p12, .ref p13, .int sdn, .int kcs, .int khr, .int ksn, .ref p14, .ref p15, .ref p16, .ref p17, .long hlg])), (p3, .inl (cI, 5, .inl K)), (p4, .inl (cI, 5, .inl F)), (p5, .inl (cI, 5, .inl w)), (p6, .inl (cI, 5, .inl (ro ρ))), (p7, .inl (cI, 5, .inl tk)), (p8, .inl (cI, 5, .inl u.2.2.1)), (p9, .inl (cI, 5, .inl u.2.2.2.1)), (p11, .inl (cI, 18, .inl (sgt sh sr tb))), (p12, .inl (cI, 13, .inl u.2.2.2.2.1)), (p13, .inl (cI, 13, .inl u.2.2.2.2.2))]) C h (c_X8_tell l D cI cZ kS vS p0 p1 p2 p3 p4 p5 p6 p7 p8 p9 p10 p11 p12 p13 p14 p15 p16 p17 n pgm rdm rdb stt bar hrs crd tof tmu bdn sdn kcs khr ksn hlg w ρ K F tk sw ss q sh sr tb g y0 k0 y hn2 hn5 hpm hK hq6 hsh hk0) wv_X8_tell rfl ⟨rfl, rfl, rfl, rfl, by decide⟩ fk8 0 rfl ml_RX8_156 [0, 1, 2, 3, 4, 5, 6, 7, 8, 9, 10] rfl (fun _ => rfl) ⟨Nat.le_of_ble_eq_true rfl, Nat.le_of_ble_eq_true rfl⟩ ⟨Nat.le_of_ble_eq_true rfl, Nat.le_of_ble_eq_true rfl⟩ (Nat.le_of_ble_eq_true rfl) hl rfl dX8_river_11 (fun r u H locs hq h => ?_)
    obtain ⟨uo11, um11, usw11, uss11, ug11, uy11⟩ := u
    have h : HS D A s H locs [(p0, .inr (8, [.ref p1, .int pgm, .ref p2, .int rdm, .int rdb, .int stt, .int (nI n), .int bar, .int hrs, .int crd, .ref p3, .ref p4, .ref p5, .ref p6, .ref p7, .int uo11, .int um11, .ref p8, .ref p9, .int bdn, .ref p10, .int (nI q), .ref p11, .ref p12, .ref p13, .int sdn, .int kcs, .int khr, .int ksn, .ref p14, .ref p15, .ref p16, .ref p17, .long hlg])), (p3, .inl (cI, 5, .inl K)), (p4, .inl (cI, 5, .inl F)), (p5, .inl (cI, 5, .inl w)), (p6, .inl (cI, 5, .inl (ro ρ))), (p7, .inl (cI, 5, .inl tk)), (p8, .inl (cI, 5, .inl usw11)), (p9, .inl (cI, 5, .inl uss11)), (p11, .inl (cI, 18, .inl (sgt sh sr tb))), (p12, .inl (cI, 13, .inl ug11)), (p13, .inl (cI, 13, .inl uy11))] := h
    have hq : r = bf (wth y 0 7) (rvv n K F bar w ρ tk sh sr tb q k0 y) (-102) := hq
    have hq := hq.symm
    subst hq
    refine lv_goto (tgt := 19) hx hb dX8_river_14 (by decide) ?_
    exact hret (r := bf (wth y 0 7) (rvv n K F bar w ρ tk sh sr tb q k0 y) (-102)) (⟨uo11, um11, usw11, uss11, ug11, uy11⟩) dX8_river_19 h (rfl) (by rw [bf_t hb_5, hcl])

set_option maxHeartbeats 4000000 in
set_option maxRecDepth 100000 in
theorem c_X8_as (l : Launch) (D : va_G) (cI cZ : ClassId) (kS vS : Nat) (p0 : Nat) (p1 : Nat) (p2 : Nat) (p3 : Nat) (p4 : Nat) (p5 : Nat) (p6 : Nat) (p7 : Nat) (p8 : Nat) (p9 : Nat) (p10 : Nat) (p11 : Nat) (p12 : Nat) (p13 : Nat) (p14 : Nat) (p15 : Nat) (p16 : Nat) (p17 : Nat) (n : Nat) (pgm : Int32) (rdm : Int32) (rdb : Int32) (stt : Int32) (bar : Int32) (hrs : Int32) (crd : Int32) (tof : Int32) (tmu : Int32) (bdn : Int32) (snm : Int32) (sdn : Int32) (kcs : Int32) (khr : Int32) (ksn : Int32) (hlg : Int64) (K : Nat → Int32) (x : Int32) (k : Int32) (hn : n = 0 ∨ (2 ≤ n ∧ n ≤ 5)) : CI l yX8_as cX8_as 4 .int D cI cZ kS vS 2 46 0 0 [.ref p0, .int x, .int k] [(p0, .inr (8, [.ref p1, .int pgm, .ref p2, .int rdm, .int rdb, .int stt, .int (nI n), .int bar, .int hrs, .int crd, .ref p3, .ref p4, .ref p5, .ref p6, .ref p7, .int tof, .int tmu, .ref p8, .ref p9, .int bdn, .ref p10, .int snm, .ref p11, .ref p12, .ref p13, .int sdn, .int kcs, .int khr, .int ksn, .ref p14, .ref p15, .ref p16, .ref p17, .long hlg])), (p3, .inl (cI, 5, .inl K))] (fun (r : Int32) (_ : Unit) => r = bf (hin (nI n) x) (bf (wth k 0 4) (bf (suc (K x.toNatClampNeg) k) x (-1)) (-102)) (-101)) (fun (_ : Unit) => [(p0, .inr (8, [.ref p1, .int pgm, .ref p2, .int rdm, .int rdb, .int stt, .int (nI n), .int bar, .int hrs, .int crd, .ref p3, .ref p4, .ref p5, .ref p6, .ref p7, .int tof, .int tmu, .ref p8, .ref p9, .int bdn, .ref p10, .int snm, .ref p11, .ref p12, .ref p13, .int sdn, .int kcs, .int khr, .int ksn, .ref p14, .ref p15, .ref p16, .ref p17, .long hlg])), (p3, .inl (cI, 5, .inl K))]) := by
  refine CI_intro (by decide) (Nat.le_of_ble_eq_true rfl) ?_
  intro p e s m args below meth c A Q ls C h hret hl
  have C : CX p s m args c cX8_as 4 RX8 D cI cZ kS vS A := C
  have hx := C.1.1
  have hb := C.1.2.1
  have hl : lv_has ls 4 [(0, .ref p0), (1, .int x), (2, .int k)] := hl
  have hn5 : n ≤ 5 := by omega
  refine lv_aload_n hx hb dX8_as_0 rfl (lv_at hl 0 rfl) ?_
  refine lv_iload_n hx hb dX8_as_1 rfl (lv_at hl 1 rfl) ?_
  refine k_Vi (rest := []) (as := [.int x]) (wc := [(p0, .inr (8, [.ref p1, .int pgm, .ref p2, .int rdm, .int rdb, .int stt, .int (nI n), .int bar, .int hrs, .int crd, .ref p3, .ref p4, .ref p5, .ref p6, .ref p7, .int tof, .int tmu, .ref p8, .ref p9, .int bdn, .ref p10, .int snm, .ref p11, .ref p12, .ref p13, .int sdn, .int kcs, .int khr, .int ksn, .ref p14, .ref p15, .ref p16, .ref p17, .long hlg]))]) (wr := [(p3, .inl (cI, 5, .inl K))]) (isC := [0]) (isR := [1]) (w2 := fun (_ : Unit) => [(p0, .inr (8, [.ref p1, .int pgm, .ref p2, .int rdm, .int rdb, .int stt, .int (nI n), .int bar, .int hrs, .int crd, .ref p3, .ref p4, .ref p5, .ref p6, .ref p7, .int tof, .int tmu, .ref p8, .ref p9, .int bdn, .ref p10, .int snm, .ref p11, .ref p12, .ref p13, .int sdn, .int kcs, .int khr, .int ksn, .ref p14, .ref p15, .ref p16, .ref p17, .long hlg])), (p3, .inl (cI, 5, .inl K))]) C h (c_X8_isRiver l D cI cZ kS vS p0 p1 p2 p3 p4 p5 p6 p7 p8 p9 p10 p11 p12 p13 p14 p15 p16 p17 n pgm rdm rdb stt bar hrs crd tof tmu bdn snm sdn kcs khr ksn hlg x hn5) wv_X8_isRiver rfl ⟨rfl, rfl, rfl, rfl, by decide⟩ fk8 0 rfl ml_RX8_153 [1, 0] rfl (fun _ => rfl) ⟨Nat.le_of_ble_eq_true rfl, Nat.le_of_ble_eq_true rfl⟩ ⟨Nat.le_of_ble_eq_true rfl, Nat.le_of_ble_eq_true rfl⟩ (Nat.le_of_ble_eq_true rfl) hl rfl dX8_as_2 (fun r u H locs hq h => ?_)
  have h : HS D A s H locs [(p0, .inr (8, [.ref p1, .int pgm, .ref p2, .int rdm, .int rdb, .int stt, .int (nI n), .int bar, .int hrs, .int crd, .ref p3, .ref p4, .ref p5, .ref p6, .ref p7, .int tof, .int tmu, .ref p8, .ref p9, .int bdn, .ref p10, .int snm, .ref p11, .ref p12, .ref p13, .int sdn, .int kcs, .int khr, .int ksn, .ref p14, .ref p15, .ref p16, .ref p17, .long hlg])), (p3, .inl (cI, 5, .inl K))] := h
  have hq : r = bI (hin (nI n) x) := hq
  have hq := hq.symm
  subst hq
  refine lv_if_ne (tgt := 11) hx hb dX8_as_5 (by decide) (fun c_5 => ?_) (fun c_5 => ?_)
  · skip
    have hb_5 : (hin (nI n) x) = true := bI_n0.mp c_5
    obtain ⟨k0, hk0, rfl⟩ := hin_of hb_5 (by omega)
    have hcl : (nI k0).toNatClampNeg = k0 := nI_clamp (by omega)
    have hn2 : 2 ≤ n := by omega
    refine lv_iload_n hx hb dX8_as_11 rfl (lv_at hl 2 rfl) ?_
    refine lv_i2l hx hb dX8_as_12 rfl ?_
    refine lv_lconst (v := 0) hx hb dX8_as_13 (by decide) ?_
    refine lv_ldc2 (v := 4) hx hb C.1.2.2.2.1 (C.1.2.2.2.2 _ mq_RX8_160) dX8_as_14 ?_
    refine k_Si (rest := []) (as := [.long (Int32.toInt64 k), .long 0, .long 4]) (wc := []) (wr := [(p0, .inr (8, [.ref p1, .int pgm, .ref p2, .int rdm, .int rdb, .int stt, .int (nI n), .int bar, .int hrs, .int crd, .ref p3, .ref p4, .ref p5, .ref p6, .ref p7, .int tof, .int tmu, .ref p8, .ref p9, .int bdn, .ref p10, .int snm, .ref p11, .ref p12, .ref p13, .int sdn, .int kcs, .int khr, .int ksn, .ref p14, .ref p15, .ref p16, .ref p17, .long hlg])), (p3, .inl (cI, 5, .inl K))]) (isC := []) (isR := [0, 1]) (w2 := fun (_ : Unit) => [(p0, .inr (8, [.ref p1, .int pgm, .ref p2, .int rdm, .int rdb, .int stt, .int (nI n), .int bar, .int hrs, .int crd, .ref p3, .ref p4, .ref p5, .ref p6, .ref p7, .int tof, .int tmu, .ref p8, .ref p9, .int bdn, .ref p10, .int snm, .ref p11, .ref p12, .ref p13, .int sdn, .int kcs, .int khr, .int ksn, .ref p14, .ref p15, .ref p16, .ref p17, .long hlg])), (p3, .inl (cI, 5, .inl K))]) C h (c_X8_in l D cI cZ kS vS (Int32.toInt64 k) 0 4 ) wv_X8_in rfl ⟨rfl, rfl, rfl, rfl, by decide⟩ ml_RX8_67 [0, 1] rfl (fun _ => rfl) ⟨Nat.le_of_ble_eq_true rfl, Nat.le_of_ble_eq_true rfl⟩ ⟨Nat.le_of_ble_eq_true rfl, Nat.le_of_ble_eq_true rfl⟩ (Nat.le_of_ble_eq_true rfl) hl rfl dX8_as_17 (fun r u H locs hq h => ?_)
    have h : HS D A s H locs [(p0, .inr (8, [.ref p1, .int pgm, .ref p2, .int rdm, .int rdb, .int stt, .int (nI n), .int bar, .int hrs, .int crd, .ref p3, .ref p4, .ref p5, .ref p6, .ref p7, .int tof, .int tmu, .ref p8, .ref p9, .int bdn, .ref p10, .int snm, .ref p11, .ref p12, .ref p13, .int sdn, .int kcs, .int khr, .int ksn, .ref p14, .ref p15, .ref p16, .ref p17, .long hlg])), (p3, .inl (cI, 5, .inl K))] := h
    have hq : r = bI (lin (Int32.toInt64 k) 0 4) := hq
    have hq := hq.symm
    subst hq
    refine r_top (y := bI (wth k 0 4)) (congrArg bI (lin_w k (by decide) (by decide))) ?_
    refine lv_if_ne (tgt := 26) hx hb dX8_as_20 (by decide) (fun c_20 => ?_) (fun c_20 => ?_)
    · skip
      have hb_20 : (wth k 0 4) = true := bI_n0.mp c_20
      refine lv_iload_n hx hb dX8_as_26 rfl (lv_at hl 2 rfl) ?_
      refine lv_if_eq (tgt := 55) hx hb dX8_as_27 (by decide) (fun c_27 => ?_) (fun c_27 => ?_)
      · skip
        refine lv_iconst (v := 1) hx hb dX8_as_55 (by decide) ?_
        refine lv_goto (tgt := 60) hx hb dX8_as_56 (by decide) ?_
        refine lv_istore_n (lv' := [(3, .int 1), (0, .ref p0), (1, .int (nI k0)), (2, .int k)]) hx hb dX8_as_60 rfl hl (by decide) rfl (fun ls hl => ?_)
        refine lv_iload_n hx hb dX8_as_61 rfl (lv_at hl 0 rfl) ?_
        refine lv_if_eq (tgt := 69) hx hb dX8_as_62 (by decide) (fun c_62 => ?_) (fun c_62 => ?_)
        · skip
          have c_62 := (jeq (a := 1) (b := 0) (by omega) (by omega)).mp c_62
          exact absurd c_62 (by decide)
        · skip
          have c_62 : ¬ 1 = 0 := fun z => c_62 ((jeq (a := 1) (b := 0) (by omega) (by omega)).mpr z)
          refine lv_iload_n hx hb dX8_as_65 rfl (lv_at hl 2 rfl) ?_
          refine lv_goto (tgt := 70) hx hb dX8_as_66 (by decide) ?_
          exact hret (r := nI k0) () dX8_as_70 h (rfl) (by rw [bf_t hb_5, hcl, bf_t hb_20, bf_t (show suc (K k0) k = true by unfold suc; rw [decide_eq_true c_27]; rfl)])
      · skip
        refine lv_iload_n hx hb dX8_as_30 rfl (lv_at hl 2 rfl) ?_
        refine lv_aload_n hx hb dX8_as_31 rfl (lv_at hl 0 rfl) ?_
        refine r_get C h fk8 0 10 rfl (by decide) mf_RX8_16 rfl dX8_as_32 ?_
        refine lv_iload_n hx hb dX8_as_35 rfl (lv_at hl 1 rfl) ?_
        refine r_ld C h 1 rfl k0 (rfl) (by omega) (by decide) (x := K k0) (rfl) dX8_as_36 ?_
        refine lv_icmp_eq (tgt := 55) hx hb dX8_as_37 (by decide) (fun c_37 => ?_) (fun c_37 => ?_)
        · skip
          refine lv_iconst (v := 1) hx hb dX8_as_55 (by decide) ?_
          refine lv_goto (tgt := 60) hx hb dX8_as_56 (by decide) ?_
          refine lv_istore_n (lv' := [(3, .int 1), (0, .ref p0), (1, .int (nI k0)), (2, .int k)]) hx hb dX8_as_60 rfl hl (by decide) rfl (fun ls hl => ?_)
          refine lv_iload_n hx hb dX8_as_61 rfl (lv_at hl 0 rfl) ?_
          refine lv_if_eq (tgt := 69) hx hb dX8_as_62 (by decide) (fun c_62 => ?_) (fun c_62 => ?_)
          · skip
            have c_62 := (jeq (a := 1) (b := 0) (by omega) (by omega)).mp c_62
            exact absurd c_62 (by decide)
          · skip
            have c_62 : ¬ 1 = 0 := fun z => c_62 ((jeq (a := 1) (b := 0) (by omega) (by omega)).mpr z)
            refine lv_iload_n hx hb dX8_as_65 rfl (lv_at hl 2 rfl) ?_
            refine lv_goto (tgt := 70) hx hb dX8_as_66 (by decide) ?_
            exact hret (r := nI k0) () dX8_as_70 h (rfl) (by rw [bf_t hb_5, hcl, bf_t hb_20, bf_t (show suc (K k0) k = true by unfold suc; rw [decide_eq_false c_27, decide_eq_true c_37]; rfl)])
        · skip
          refine lv_iload_n hx hb dX8_as_40 rfl (lv_at hl 2 rfl) ?_
          refine lv_iconst (v := 1) hx hb dX8_as_41 (by decide) ?_
          refine lv_icmp_ne (tgt := 59) hx hb dX8_as_42 (by decide) (fun c_42 => ?_) (fun c_42 => ?_)
          · skip
            refine lv_iconst (v := 0) hx hb dX8_as_59 (by decide) ?_
            refine lv_istore_n (lv' := [(3, .int 0), (0, .ref p0), (1, .int (nI k0)), (2, .int k)]) hx hb dX8_as_60 rfl hl (by decide) rfl (fun ls hl => ?_)
            refine lv_iload_n hx hb dX8_as_61 rfl (lv_at hl 0 rfl) ?_
            refine lv_if_eq (tgt := 69) hx hb dX8_as_62 (by decide) (fun c_62 => ?_) (fun c_62 => ?_)
            · skip
              have c_62 := (jeq (a := 0) (b := 0) (by omega) (by omega)).mp c_62
              refine lv_iconst (v := (-1)) hx hb dX8_as_69 (by decide) ?_
              exact hret (r := (-1)) () dX8_as_70 h (rfl) (by rw [bf_t hb_5, hcl, bf_t hb_20, bf_f (show suc (K k0) k = false by unfold suc; rw [decide_eq_false c_27, decide_eq_false c_37, decide_eq_false c_42]; rfl)])
            · skip
              have c_62 : ¬ 0 = 0 := fun z => c_62 ((jeq (a := 0) (b := 0) (by omega) (by omega)).mpr z)
              exact absurd rfl c_62
          · skip
            refine lv_aload_n hx hb dX8_as_45 rfl (lv_at hl 0 rfl) ?_
            refine r_get C h fk8 0 10 rfl (by decide) mf_RX8_16 rfl dX8_as_46 ?_
            refine lv_iload_n hx hb dX8_as_49 rfl (lv_at hl 1 rfl) ?_
            refine r_ld C h 1 rfl k0 (rfl) (by omega) (by decide) (x := K k0) (rfl) dX8_as_50 ?_
            refine lv_iconst (v := 4) hx hb dX8_as_51 (by decide) ?_
            refine lv_icmp_ne (tgt := 59) hx hb dX8_as_52 (by decide) (fun c_52 => ?_) (fun c_52 => ?_)
            · skip
              refine lv_iconst (v := 0) hx hb dX8_as_59 (by decide) ?_
              refine lv_istore_n (lv' := [(3, .int 0), (0, .ref p0), (1, .int (nI k0)), (2, .int k)]) hx hb dX8_as_60 rfl hl (by decide) rfl (fun ls hl => ?_)
              refine lv_iload_n hx hb dX8_as_61 rfl (lv_at hl 0 rfl) ?_
              refine lv_if_eq (tgt := 69) hx hb dX8_as_62 (by decide) (fun c_62 => ?_) (fun c_62 => ?_)
              · skip
                have c_62 := (jeq (a := 0) (b := 0) (by omega) (by omega)).mp c_62
                refine lv_iconst (v := (-1)) hx hb dX8_as_69 (by decide) ?_
                exact hret (r := (-1)) () dX8_as_70 h (rfl) (by rw [bf_t hb_5, hcl, bf_t hb_20, bf_f (show suc (K k0) k = false by unfold suc; rw [decide_eq_false c_27, decide_eq_false c_37, decide_eq_true c_42, decide_eq_false c_52]; rfl)])
              · skip
                have c_62 : ¬ 0 = 0 := fun z => c_62 ((jeq (a := 0) (b := 0) (by omega) (by omega)).mpr z)
                exact absurd rfl c_62
            · skip
              refine lv_iconst (v := 1) hx hb dX8_as_55 (by decide) ?_
              refine lv_goto (tgt := 60) hx hb dX8_as_56 (by decide) ?_
              refine lv_istore_n (lv' := [(3, .int 1), (0, .ref p0), (1, .int (nI k0)), (2, .int k)]) hx hb dX8_as_60 rfl hl (by decide) rfl (fun ls hl => ?_)
              refine lv_iload_n hx hb dX8_as_61 rfl (lv_at hl 0 rfl) ?_
              refine lv_if_eq (tgt := 69) hx hb dX8_as_62 (by decide) (fun c_62 => ?_) (fun c_62 => ?_)
              · skip
                have c_62 := (jeq (a := 1) (b := 0) (by omega) (by omega)).mp c_62
                exact absurd c_62 (by decide)
              · skip
                have c_62 : ¬ 1 = 0 := fun z => c_62 ((jeq (a := 1) (b := 0) (by omega) (by omega)).mpr z)
                refine lv_iload_n hx hb dX8_as_65 rfl (lv_at hl 2 rfl) ?_
                refine lv_goto (tgt := 70) hx hb dX8_as_66 (by decide) ?_
                exact hret (r := nI k0) () dX8_as_70 h (rfl) (by rw [bf_t hb_5, hcl, bf_t hb_20, bf_t (show suc (K k0) k = true by unfold suc; rw [decide_eq_false c_27, decide_eq_false c_37, decide_eq_true c_42, decide_eq_true c_52]; rfl)])
    · skip
      have hb_20 : (wth k 0 4) = false := bI_0.mp c_20
      refine lv_bipush (v := (-102)) hx hb dX8_as_23 (by decide) ?_
      exact hret (r := (-102)) () dX8_as_25 h (rfl) (by rw [bf_t hb_5, bf_f hb_20])
  · skip
    have hb_5 : (hin (nI n) x) = false := bI_0.mp c_5
    refine lv_bipush (v := (-101)) hx hb dX8_as_8 (by decide) ?_
    exact hret (r := (-101)) () dX8_as_10 h (rfl) (by rw [bf_f hb_5])

set_option maxHeartbeats 4000000 in
set_option maxRecDepth 100000 in
theorem c_X8_row (l : Launch) (D : va_G) (cI cZ : ClassId) (kS vS : Nat) (p0 : Nat) (p1 : Nat) (p2 : Nat) (p3 : Nat) (p4 : Nat) (p5 : Nat) (p6 : Nat) (p7 : Nat) (p8 : Nat) (p9 : Nat) (p10 : Nat) (p11 : Nat) (p12 : Nat) (p13 : Nat) (p14 : Nat) (p15 : Nat) (p16 : Nat) (p17 : Nat) (n : Nat) (pgm : Int32) (rdm : Int32) (rdb : Int32) (stt : Int32) (bar : Int32) (hrs : Int32) (crd : Int32) (tof : Int32) (tmu : Int32) (bdn : Int32) (snm : Int32) (sdn : Int32) (kcs : Int32) (khr : Int32) (ksn : Int32) (hlg : Int64) (ρ : Nat → Nat) (x : Int32) (hn : n = 0 ∨ (2 ≤ n ∧ n ≤ 5)) : CI l yX8_row cX8_row 2 .int D cI cZ kS vS 2 46 0 0 [.ref p0, .int x] [(p0, .inr (8, [.ref p1, .int pgm, .ref p2, .int rdm, .int rdb, .int stt, .int (nI n), .int bar, .int hrs, .int crd, .ref p3, .ref p4, .ref p5, .ref p6, .ref p7, .int tof, .int tmu, .ref p8, .ref p9, .int bdn, .ref p10, .int snm, .ref p11, .ref p12, .ref p13, .int sdn, .int kcs, .int khr, .int ksn, .ref p14, .ref p15, .ref p16, .ref p17, .long hlg])), (p6, .inl (cI, 5, .inl (ro ρ)))] (fun (r : Int32) (_ : Unit) => r = bf (hin (nI n) x) (nI (ρ x.toNatClampNeg)) (-101)) (fun (_ : Unit) => [(p0, .inr (8, [.ref p1, .int pgm, .ref p2, .int rdm, .int rdb, .int stt, .int (nI n), .int bar, .int hrs, .int crd, .ref p3, .ref p4, .ref p5, .ref p6, .ref p7, .int tof, .int tmu, .ref p8, .ref p9, .int bdn, .ref p10, .int snm, .ref p11, .ref p12, .ref p13, .int sdn, .int kcs, .int khr, .int ksn, .ref p14, .ref p15, .ref p16, .ref p17, .long hlg])), (p6, .inl (cI, 5, .inl (ro ρ)))]) := by
  refine CI_intro (by decide) (Nat.le_of_ble_eq_true rfl) ?_
  intro p e s m args below meth c A Q ls C h hret hl
  have C : CX p s m args c cX8_row 2 RX8 D cI cZ kS vS A := C
  have hx := C.1.1
  have hb := C.1.2.1
  have hl : lv_has ls 2 [(0, .ref p0), (1, .int x)] := hl
  have hn5 : n ≤ 5 := by omega
  refine lv_aload_n hx hb dX8_row_0 rfl (lv_at hl 0 rfl) ?_
  refine lv_iload_n hx hb dX8_row_1 rfl (lv_at hl 1 rfl) ?_
  refine k_Vi (rest := []) (as := [.int x]) (wc := [(p0, .inr (8, [.ref p1, .int pgm, .ref p2, .int rdm, .int rdb, .int stt, .int (nI n), .int bar, .int hrs, .int crd, .ref p3, .ref p4, .ref p5, .ref p6, .ref p7, .int tof, .int tmu, .ref p8, .ref p9, .int bdn, .ref p10, .int snm, .ref p11, .ref p12, .ref p13, .int sdn, .int kcs, .int khr, .int ksn, .ref p14, .ref p15, .ref p16, .ref p17, .long hlg]))]) (wr := [(p6, .inl (cI, 5, .inl (ro ρ)))]) (isC := [0]) (isR := [1]) (w2 := fun (_ : Unit) => [(p0, .inr (8, [.ref p1, .int pgm, .ref p2, .int rdm, .int rdb, .int stt, .int (nI n), .int bar, .int hrs, .int crd, .ref p3, .ref p4, .ref p5, .ref p6, .ref p7, .int tof, .int tmu, .ref p8, .ref p9, .int bdn, .ref p10, .int snm, .ref p11, .ref p12, .ref p13, .int sdn, .int kcs, .int khr, .int ksn, .ref p14, .ref p15, .ref p16, .ref p17, .long hlg])), (p6, .inl (cI, 5, .inl (ro ρ)))]) C h (c_X8_isRiver l D cI cZ kS vS p0 p1 p2 p3 p4 p5 p6 p7 p8 p9 p10 p11 p12 p13 p14 p15 p16 p17 n pgm rdm rdb stt bar hrs crd tof tmu bdn snm sdn kcs khr ksn hlg x hn5) wv_X8_isRiver rfl ⟨rfl, rfl, rfl, rfl, by decide⟩ fk8 0 rfl ml_RX8_153 [1, 0] rfl (fun _ => rfl) ⟨Nat.le_of_ble_eq_true rfl, Nat.le_of_ble_eq_true rfl⟩ ⟨Nat.le_of_ble_eq_true rfl, Nat.le_of_ble_eq_true rfl⟩ (Nat.le_of_ble_eq_true rfl) hl rfl dX8_row_2 (fun r u H locs hq h => ?_)
  have h : HS D A s H locs [(p0, .inr (8, [.ref p1, .int pgm, .ref p2, .int rdm, .int rdb, .int stt, .int (nI n), .int bar, .int hrs, .int crd, .ref p3, .ref p4, .ref p5, .ref p6, .ref p7, .int tof, .int tmu, .ref p8, .ref p9, .int bdn, .ref p10, .int snm, .ref p11, .ref p12, .ref p13, .int sdn, .int kcs, .int khr, .int ksn, .ref p14, .ref p15, .ref p16, .ref p17, .long hlg])), (p6, .inl (cI, 5, .inl (ro ρ)))] := h
  have hq : r = bI (hin (nI n) x) := hq
  have hq := hq.symm
  subst hq
  refine lv_if_eq (tgt := 17) hx hb dX8_row_5 (by decide) (fun c_5 => ?_) (fun c_5 => ?_)
  · skip
    have hb_5 : (hin (nI n) x) = false := bI_0.mp c_5
    refine lv_bipush (v := (-101)) hx hb dX8_row_17 (by decide) ?_
    exact hret (r := (-101)) () dX8_row_19 h (rfl) (by rw [bf_f hb_5])
  · skip
    have hb_5 : (hin (nI n) x) = true := bI_n0.mp c_5
    obtain ⟨k0, hk0, rfl⟩ := hin_of hb_5 (by omega)
    have hcl : (nI k0).toNatClampNeg = k0 := nI_clamp (by omega)
    have hn2 : 2 ≤ n := by omega
    refine lv_aload_n hx hb dX8_row_8 rfl (lv_at hl 0 rfl) ?_
    refine r_get C h fk8 0 13 rfl (by decide) mf_RX8_25 rfl dX8_row_9 ?_
    refine lv_iload_n hx hb dX8_row_12 rfl (lv_at hl 1 rfl) ?_
    refine r_ld C h 1 rfl k0 (rfl) (by omega) (by decide) (x := nI (ρ k0)) (rfl) dX8_row_13 ?_
    refine lv_goto (tgt := 19) hx hb dX8_row_14 (by decide) ?_
    exact hret (r := nI (ρ k0)) () dX8_row_19 h (rfl) (by rw [bf_t hb_5, hcl])

set_option maxHeartbeats 4000000 in
set_option maxRecDepth 100000 in
theorem c_X8_hour (l : Launch) (D : va_G) (cI cZ : ClassId) (kS vS : Nat) (p0 : Nat) (p1 : Nat) (p2 : Nat) (p3 : Nat) (p4 : Nat) (p5 : Nat) (p6 : Nat) (p7 : Nat) (p8 : Nat) (p9 : Nat) (p10 : Nat) (p11 : Nat) (p12 : Nat) (p13 : Nat) (p14 : Nat) (p15 : Nat) (p16 : Nat) (p17 : Nat) (n : Nat) (pgm : Int32) (rdm : Int32) (rdb : Int32) (stt : Int32) (bar : Int32) (hrs : Int32) (crd : Int32) (tof : Int32) (tmu : Int32) (bdn : Int32) (snm : Int32) (sdn : Int32) (kcs : Int32) (khr : Int32) (ksn : Int32) (hlg : Int64) (w : Nat → Int32) (ρ : Nat → Nat) (K : Nat → Int32) (F : Nat → Int32) (tk : Nat → Int32) (hn : n = 0 ∨ (2 ≤ n ∧ n ≤ 5)) (hpm : PM n ρ) (hK : ∀ j, j < n → K j = 0 ∨ K j = 1 ∨ K j = 2 ∨ K j = 3 ∨ K j = 4) (hmz : 2 ≤ n → 0 ≤ hmm n K F bar w ρ) : CI l yX8_hour cX8_hour 1 .int D cI cZ kS vS 2 48 0 0 [.ref p0] [(p0, .inr (8, [.ref p1, .int pgm, .ref p2, .int rdm, .int rdb, .int stt, .int (nI n), .int bar, .int hrs, .int crd, .ref p3, .ref p4, .ref p5, .ref p6, .ref p7, .int tof, .int tmu, .ref p8, .ref p9, .int bdn, .ref p10, .int snm, .ref p11, .ref p12, .ref p13, .int sdn, .int kcs, .int khr, .int ksn, .ref p14, .ref p15, .ref p16, .ref p17, .long hlg])), (p3, .inl (cI, 5, .inl K)), (p4, .inl (cI, 5, .inl F)), (p5, .inl (cI, 5, .inl w)), (p6, .inl (cI, 5, .inl (ro ρ))), (p7, .inl (cI, 5, .inl tk))] (fun (r : Int32) (u : Int32 × Int32) => r = bf (!decide (n = 0)) (hmm n K F bar w ρ) (-103)) (fun (u : Int32 × Int32) => [(p0, .inr (8, [.ref p1, .int pgm, .ref p2, .int rdm, .int rdb, .int stt, .int (nI n), .int bar, .int (bf (!decide (n = 0)) (hrs + 1) hrs), .int crd, .ref p3, .ref p4, .ref p5, .ref p6, .ref p7, .int u.1, .int u.2, .ref p8, .ref p9, .int bdn, .ref p10, .int snm, .ref p11, .ref p12, .ref p13, .int sdn, .int kcs, .int khr, .int ksn, .ref p14, .ref p15, .ref p16, .ref p17, .long hlg])), (p3, .inl (cI, 5, .inl K)), (p4, .inl (cI, 5, .inl F)), (p5, .inl (cI, 5, .inl (bf (!decide (n = 0)) (hww n K F bar w ρ) w))), (p6, .inl (cI, 5, .inl (ro (bf (!decide (n = 0)) (hrr n K F bar w ρ) ρ)))), (p7, .inl (cI, 5, .inl (bf (!decide (n = 0)) (htt n K F bar w ρ tk) tk)))]) := by
  refine CI_intro (by decide) (Nat.le_of_ble_eq_true rfl) ?_
  intro p e s m args below meth c A Q ls C h hret hl
  have C : CX p s m args c cX8_hour 1 RX8 D cI cZ kS vS A := C
  have hx := C.1.1
  have hb := C.1.2.1
  have hl : lv_has ls 1 [(0, .ref p0)] := hl
  have hn5 : n ≤ 5 := by omega
  refine lv_aload_n hx hb dX8_hour_0 rfl (lv_at hl 0 rfl) ?_
  refine k_Vi (rest := []) (as := []) (wc := [(p0, .inr (8, [.ref p1, .int pgm, .ref p2, .int rdm, .int rdb, .int stt, .int (nI n), .int bar, .int hrs, .int crd, .ref p3, .ref p4, .ref p5, .ref p6, .ref p7, .int tof, .int tmu, .ref p8, .ref p9, .int bdn, .ref p10, .int snm, .ref p11, .ref p12, .ref p13, .int sdn, .int kcs, .int khr, .int ksn, .ref p14, .ref p15, .ref p16, .ref p17, .long hlg]))]) (wr := [(p3, .inl (cI, 5, .inl K)), (p4, .inl (cI, 5, .inl F)), (p5, .inl (cI, 5, .inl w)), (p6, .inl (cI, 5, .inl (ro ρ))), (p7, .inl (cI, 5, .inl tk))]) (isC := [0]) (isR := [1, 2, 3, 4, 5]) (w2 := fun (_ : Unit) => [(p0, .inr (8, [.ref p1, .int pgm, .ref p2, .int rdm, .int rdb, .int stt, .int (nI n), .int bar, .int hrs, .int crd, .ref p3, .ref p4, .ref p5, .ref p6, .ref p7, .int tof, .int tmu, .ref p8, .ref p9, .int bdn, .ref p10, .int snm, .ref p11, .ref p12, .ref p13, .int sdn, .int kcs, .int khr, .int ksn, .ref p14, .ref p15, .ref p16, .ref p17, .long hlg])), (p3, .inl (cI, 5, .inl K)), (p4, .inl (cI, 5, .inl F)), (p5, .inl (cI, 5, .inl w)), (p6, .inl (cI, 5, .inl (ro ρ))), (p7, .inl (cI, 5, .inl tk))]) C h (c_X8_lacks l D cI cZ kS vS p0 p1 p2 p3 p4 p5 p6 p7 p8 p9 p10 p11 p12 p13 p14 p15 p16 p17 n pgm rdm rdb stt bar hrs crd tof tmu bdn snm sdn kcs khr ksn hlg hn5) wv_X8_lacks rfl ⟨rfl, rfl, rfl, rfl, by decide⟩ fk8 0 rfl ml_RX8_162 [5, 0, 1, 2, 3, 4] rfl (fun _ => rfl) ⟨Nat.le_of_ble_eq_true rfl, Nat.le_of_ble_eq_true rfl⟩ ⟨Nat.le_of_ble_eq_true rfl, Nat.le_of_ble_eq_true rfl⟩ (Nat.le_of_ble_eq_true rfl) hl rfl dX8_hour_1 (fun r u H locs hq h => ?_)
  have h : HS D A s H locs [(p0, .inr (8, [.ref p1, .int pgm, .ref p2, .int rdm, .int rdb, .int stt, .int (nI n), .int bar, .int hrs, .int crd, .ref p3, .ref p4, .ref p5, .ref p6, .ref p7, .int tof, .int tmu, .ref p8, .ref p9, .int bdn, .ref p10, .int snm, .ref p11, .ref p12, .ref p13, .int sdn, .int kcs, .int khr, .int ksn, .ref p14, .ref p15, .ref p16, .ref p17, .long hlg])), (p3, .inl (cI, 5, .inl K)), (p4, .inl (cI, 5, .inl F)), (p5, .inl (cI, 5, .inl w)), (p6, .inl (cI, 5, .inl (ro ρ))), (p7, .inl (cI, 5, .inl tk))] := h
  have hq : r = bI (decide (n = 0)) := hq
  have hq := hq.symm
  subst hq
  refine lv_if_eq (tgt := 10) hx hb dX8_hour_4 (by decide) (fun c_4 => ?_) (fun c_4 => ?_)
  · skip
    have hb_4 : (decide (n = 0)) = false := bI_0.mp c_4
    have eD : (!decide (n = 0)) = true := nt_f hb_4
    have hn0 := isr_n eD
    have hn2 : 2 ≤ n := by omega
    have hm0 := hmz hn2
    have hfl := hfi_lt (K := K) (F := F) (w := w) hpm hn2
    refine lv_aload_n hx hb dX8_hour_10 rfl (lv_at hl 0 rfl) ?_
    refine k_Vv (rest := []) (as := []) (wc := [(p0, .inr (8, [.ref p1, .int pgm, .ref p2, .int rdm, .int rdb, .int stt, .int (nI n), .int bar, .int hrs, .int crd, .ref p3, .ref p4, .ref p5, .ref p6, .ref p7, .int tof, .int tmu, .ref p8, .ref p9, .int bdn, .ref p10, .int snm, .ref p11, .ref p12, .ref p13, .int sdn, .int kcs, .int khr, .int ksn, .ref p14, .ref p15, .ref p16, .ref p17, .long hlg])), (p3, .inl (cI, 5, .inl K)), (p4, .inl (cI, 5, .inl F)), (p5, .inl (cI, 5, .inl w)), (p6, .inl (cI, 5, .inl (ro ρ)))]) (wr := [(p7, .inl (cI, 5, .inl tk))]) (isC := [0, 1, 2, 3, 4]) (isR := [5]) (w2 := fun (_ : Unit) => [(p0, .inr (8, [.ref p1, .int pgm, .ref p2, .int rdm, .int rdb, .int stt, .int (nI n), .int bar, .int hrs, .int crd, .ref p3, .ref p4, .ref p5, .ref p6, .ref p7, .int (hoo n K F bar w ρ), .int (hmm n K F bar w ρ), .ref p8, .ref p9, .int bdn, .ref p10, .int snm, .ref p11, .ref p12, .ref p13, .int sdn, .int kcs, .int khr, .int ksn, .ref p14, .ref p15, .ref p16, .ref p17, .long hlg])), (p3, .inl (cI, 5, .inl K)), (p4, .inl (cI, 5, .inl F)), (p5, .inl (cI, 5, .inl (hww n K F bar w ρ))), (p6, .inl (cI, 5, .inl (ro (hrr n K F bar w ρ)))), (p7, .inl (cI, 5, .inl tk))]) C h (c_X8_goesBy l D cI cZ kS vS p0 p1 p2 p3 p4 p5 p6 p7 p8 p9 p10 p11 p12 p13 p14 p15 p16 p17 n pgm rdm rdb stt bar hrs crd tof tmu bdn snm sdn kcs khr ksn hlg w ρ K F hn2 hn5 hpm hK) wv_X8_goesBy rfl ⟨rfl, rfl, rfl, rfl, by decide⟩ fk8 0 rfl ml_RX8_135 [1, 2, 3, 4, 5, 0] rfl (fun _ => rfl) ⟨Nat.le_of_ble_eq_true rfl, Nat.le_of_ble_eq_true rfl⟩ ⟨Nat.le_of_ble_eq_true rfl, Nat.le_of_ble_eq_true rfl⟩ (Nat.le_of_ble_eq_true rfl) hl rfl dX8_hour_11 (fun u H locs hq h => ?_)
    have h : HS D A s H locs [(p0, .inr (8, [.ref p1, .int pgm, .ref p2, .int rdm, .int rdb, .int stt, .int (nI n), .int bar, .int hrs, .int crd, .ref p3, .ref p4, .ref p5, .ref p6, .ref p7, .int (hoo n K F bar w ρ), .int (hmm n K F bar w ρ), .ref p8, .ref p9, .int bdn, .ref p10, .int snm, .ref p11, .ref p12, .ref p13, .int sdn, .int kcs, .int khr, .int ksn, .ref p14, .ref p15, .ref p16, .ref p17, .long hlg])), (p3, .inl (cI, 5, .inl K)), (p4, .inl (cI, 5, .inl F)), (p5, .inl (cI, 5, .inl (hww n K F bar w ρ))), (p6, .inl (cI, 5, .inl (ro (hrr n K F bar w ρ)))), (p7, .inl (cI, 5, .inl tk))] := h
    have hq : True := hq
    refine lv_aload_n hx hb dX8_hour_14 rfl (lv_at hl 0 rfl) ?_
    refine r_get C h fk8 0 15 rfl (by decide) mf_RX8_121 rfl dX8_hour_15 ?_
    refine lv_iconst (v := (-1)) hx hb dX8_hour_18 (by decide) ?_
    refine lv_icmp_eq (tgt := 38) hx hb dX8_hour_19 (by decide) (fun c_19 => ?_) (fun c_19 => ?_)
    · skip
      refine lv_aload_n hx hb dX8_hour_38 rfl (lv_at hl 0 rfl) ?_
      refine lv_dup hx hb dX8_hour_39 rfl ?_
      refine r_get C h fk8 0 8 rfl (by decide) mf_RX8_105 rfl dX8_hour_40 ?_
      refine lv_iconst (v := 1) hx hb dX8_hour_43 (by decide) ?_
      refine lv_iadd hx hb dX8_hour_44 ?_
      refine r_put C h fk8 0 8 rfl (by decide) mf_RX8_105 rfl (rfl) rfl (Nat.le_of_ble_eq_true rfl) (ws' := [(p0, .inr (8, [.ref p1, .int pgm, .ref p2, .int rdm, .int rdb, .int stt, .int (nI n), .int bar, .int (hrs + 1), .int crd, .ref p3, .ref p4, .ref p5, .ref p6, .ref p7, .int (hoo n K F bar w ρ), .int (hmm n K F bar w ρ), .ref p8, .ref p9, .int bdn, .ref p10, .int snm, .ref p11, .ref p12, .ref p13, .int sdn, .int kcs, .int khr, .int ksn, .ref p14, .ref p15, .ref p16, .ref p17, .long hlg])), (p3, .inl (cI, 5, .inl K)), (p4, .inl (cI, 5, .inl F)), (p5, .inl (cI, 5, .inl (hww n K F bar w ρ))), (p6, .inl (cI, 5, .inl (ro (hrr n K F bar w ρ)))), (p7, .inl (cI, 5, .inl tk))]) rfl dX8_hour_45 (fun H locs h => ?_)
      refine lv_aload_n hx hb dX8_hour_48 rfl (lv_at hl 0 rfl) ?_
      refine r_get C h fk8 0 16 rfl (by decide) mf_RX8_118 rfl dX8_hour_49 ?_
      have h := h.arr 3 (g := bf (!decide (n = 0)) (hww n K F bar w ρ) w) rfl (fun j hj => by rw [bf_t eD]) rfl
      have h := h.arr 4 (g := ro (bf (!decide (n = 0)) (hrr n K F bar w ρ) ρ)) rfl (fun j hj => by rw [bf_t eD]) rfl
      have h := h.arr 5 (g := bf (!decide (n = 0)) (htt n K F bar w ρ tk) tk) rfl (fun j _ => by rw [bf_t eD]; exact htt_id (hoo_t c_19 (by omega) hm0) j) rfl
      have ef : (hrs + 1) = (bf (!decide (n = 0)) (hrs + 1) hrs) := by rw [bf_t eD] <;> rfl
      have h := HS.cg (ws' := [(p0, .inr (8, [.ref p1, .int pgm, .ref p2, .int rdm, .int rdb, .int stt, .int (nI n), .int bar, .int (bf (!decide (n = 0)) (hrs + 1) hrs), .int crd, .ref p3, .ref p4, .ref p5, .ref p6, .ref p7, .int (hoo n K F bar w ρ), .int (hmm n K F bar w ρ), .ref p8, .ref p9, .int bdn, .ref p10, .int snm, .ref p11, .ref p12, .ref p13, .int sdn, .int kcs, .int khr, .int ksn, .ref p14, .ref p15, .ref p16, .ref p17, .long hlg])), (p3, .inl (cI, 5, .inl K)), (p4, .inl (cI, 5, .inl F)), (p5, .inl (cI, 5, .inl (bf (!decide (n = 0)) (hww n K F bar w ρ) w))), (p6, .inl (cI, 5, .inl (ro (bf (!decide (n = 0)) (hrr n K F bar w ρ) ρ)))), (p7, .inl (cI, 5, .inl (bf (!decide (n = 0)) (htt n K F bar w ρ tk) tk)))]) h (by rw [← ef] <;> rfl)
      exact hret (r := hmm n K F bar w ρ) (⟨hoo n K F bar w ρ, hmm n K F bar w ρ⟩) dX8_hour_52 h (rfl) (by rw [bf_t eD])
    · skip
      refine lv_aload_n hx hb dX8_hour_22 rfl (lv_at hl 0 rfl) ?_
      refine r_get C h fk8 0 14 rfl (by decide) mf_RX8_28 rfl dX8_hour_23 ?_
      refine lv_aload_n hx hb dX8_hour_26 rfl (lv_at hl 0 rfl) ?_
      refine r_get C h fk8 0 15 rfl (by decide) mf_RX8_121 rfl dX8_hour_27 ?_
      refine r_top (y := nI (hfi n K F w ρ)) (hoo_f c_19) ?_
      refine lv_dup2_11 hx hb dX8_hour_30 rfl rfl ?_
      refine r_ld C h 5 rfl (hfi n K F w ρ) (rfl) (by omega) (by decide) (x := tk (hfi n K F w ρ)) (rfl) dX8_hour_31 ?_
      refine lv_aload_n hx hb dX8_hour_32 rfl (lv_at hl 0 rfl) ?_
      refine r_get C h fk8 0 16 rfl (by decide) mf_RX8_118 rfl dX8_hour_33 ?_
      refine lv_iadd hx hb dX8_hour_36 ?_
      refine r_st C h 5 rfl (hfi n K F w ρ) (rfl) (by omega) (by decide) (g := upd tk (hfi n K F w ρ) ((tk (hfi n K F w ρ)) + (hmm n K F bar w ρ))) (fun _ _ => rfl) (ws' := [(p0, .inr (8, [.ref p1, .int pgm, .ref p2, .int rdm, .int rdb, .int stt, .int (nI n), .int bar, .int hrs, .int crd, .ref p3, .ref p4, .ref p5, .ref p6, .ref p7, .int (hoo n K F bar w ρ), .int (hmm n K F bar w ρ), .ref p8, .ref p9, .int bdn, .ref p10, .int snm, .ref p11, .ref p12, .ref p13, .int sdn, .int kcs, .int khr, .int ksn, .ref p14, .ref p15, .ref p16, .ref p17, .long hlg])), (p3, .inl (cI, 5, .inl K)), (p4, .inl (cI, 5, .inl F)), (p5, .inl (cI, 5, .inl (hww n K F bar w ρ))), (p6, .inl (cI, 5, .inl (ro (hrr n K F bar w ρ)))), (p7, .inl (cI, 5, .inl (upd tk (hfi n K F w ρ) ((tk (hfi n K F w ρ)) + (hmm n K F bar w ρ)))))]) rfl dX8_hour_37 (fun H locs h => ?_)
      refine lv_aload_n hx hb dX8_hour_38 rfl (lv_at hl 0 rfl) ?_
      refine lv_dup hx hb dX8_hour_39 rfl ?_
      refine r_get C h fk8 0 8 rfl (by decide) mf_RX8_105 rfl dX8_hour_40 ?_
      refine lv_iconst (v := 1) hx hb dX8_hour_43 (by decide) ?_
      refine lv_iadd hx hb dX8_hour_44 ?_
      refine r_put C h fk8 0 8 rfl (by decide) mf_RX8_105 rfl (rfl) rfl (Nat.le_of_ble_eq_true rfl) (ws' := [(p0, .inr (8, [.ref p1, .int pgm, .ref p2, .int rdm, .int rdb, .int stt, .int (nI n), .int bar, .int (hrs + 1), .int crd, .ref p3, .ref p4, .ref p5, .ref p6, .ref p7, .int (hoo n K F bar w ρ), .int (hmm n K F bar w ρ), .ref p8, .ref p9, .int bdn, .ref p10, .int snm, .ref p11, .ref p12, .ref p13, .int sdn, .int kcs, .int khr, .int ksn, .ref p14, .ref p15, .ref p16, .ref p17, .long hlg])), (p3, .inl (cI, 5, .inl K)), (p4, .inl (cI, 5, .inl F)), (p5, .inl (cI, 5, .inl (hww n K F bar w ρ))), (p6, .inl (cI, 5, .inl (ro (hrr n K F bar w ρ)))), (p7, .inl (cI, 5, .inl (upd tk (hfi n K F w ρ) ((tk (hfi n K F w ρ)) + (hmm n K F bar w ρ)))))]) rfl dX8_hour_45 (fun H locs h => ?_)
      refine lv_aload_n hx hb dX8_hour_48 rfl (lv_at hl 0 rfl) ?_
      refine r_get C h fk8 0 16 rfl (by decide) mf_RX8_118 rfl dX8_hour_49 ?_
      have h := h.arr 3 (g := bf (!decide (n = 0)) (hww n K F bar w ρ) w) rfl (fun j hj => by rw [bf_t eD]) rfl
      have h := h.arr 4 (g := ro (bf (!decide (n = 0)) (hrr n K F bar w ρ) ρ)) rfl (fun j hj => by rw [bf_t eD]) rfl
      have h := h.arr 5 (g := bf (!decide (n = 0)) (htt n K F bar w ρ tk) tk) rfl (fun j _ => by rw [bf_t eD]; rfl) rfl
      have ef : (hrs + 1) = (bf (!decide (n = 0)) (hrs + 1) hrs) := by rw [bf_t eD] <;> rfl
      have h := HS.cg (ws' := [(p0, .inr (8, [.ref p1, .int pgm, .ref p2, .int rdm, .int rdb, .int stt, .int (nI n), .int bar, .int (bf (!decide (n = 0)) (hrs + 1) hrs), .int crd, .ref p3, .ref p4, .ref p5, .ref p6, .ref p7, .int (hoo n K F bar w ρ), .int (hmm n K F bar w ρ), .ref p8, .ref p9, .int bdn, .ref p10, .int snm, .ref p11, .ref p12, .ref p13, .int sdn, .int kcs, .int khr, .int ksn, .ref p14, .ref p15, .ref p16, .ref p17, .long hlg])), (p3, .inl (cI, 5, .inl K)), (p4, .inl (cI, 5, .inl F)), (p5, .inl (cI, 5, .inl (bf (!decide (n = 0)) (hww n K F bar w ρ) w))), (p6, .inl (cI, 5, .inl (ro (bf (!decide (n = 0)) (hrr n K F bar w ρ) ρ)))), (p7, .inl (cI, 5, .inl (bf (!decide (n = 0)) (htt n K F bar w ρ tk) tk)))]) h (by rw [← ef] <;> rfl)
      exact hret (r := hmm n K F bar w ρ) (⟨hoo n K F bar w ρ, hmm n K F bar w ρ⟩) dX8_hour_52 h (rfl) (by rw [bf_t eD])
  · skip
    have hb_4 : (decide (n = 0)) = true := bI_n0.mp c_4
    have eD : (!decide (n = 0)) = false := nt_t hb_4
    refine lv_bipush (v := (-103)) hx hb dX8_hour_7 (by decide) ?_
    have h := h.arr 3 (g := bf (!decide (n = 0)) (hww n K F bar w ρ) w) rfl (fun j hj => by rw [bf_f eD]) rfl
    have h := h.arr 4 (g := ro (bf (!decide (n = 0)) (hrr n K F bar w ρ) ρ)) rfl (fun j hj => by rw [bf_f eD]) rfl
    have h := h.arr 5 (g := bf (!decide (n = 0)) (htt n K F bar w ρ tk) tk) rfl (fun j hj => by rw [bf_f eD]) rfl
    have ef : hrs = (bf (!decide (n = 0)) (hrs + 1) hrs) := by rw [bf_f eD] <;> rfl
    have h := HS.cg (ws' := [(p0, .inr (8, [.ref p1, .int pgm, .ref p2, .int rdm, .int rdb, .int stt, .int (nI n), .int bar, .int (bf (!decide (n = 0)) (hrs + 1) hrs), .int crd, .ref p3, .ref p4, .ref p5, .ref p6, .ref p7, .int tof, .int tmu, .ref p8, .ref p9, .int bdn, .ref p10, .int snm, .ref p11, .ref p12, .ref p13, .int sdn, .int kcs, .int khr, .int ksn, .ref p14, .ref p15, .ref p16, .ref p17, .long hlg])), (p3, .inl (cI, 5, .inl K)), (p4, .inl (cI, 5, .inl F)), (p5, .inl (cI, 5, .inl (bf (!decide (n = 0)) (hww n K F bar w ρ) w))), (p6, .inl (cI, 5, .inl (ro (bf (!decide (n = 0)) (hrr n K F bar w ρ) ρ)))), (p7, .inl (cI, 5, .inl (bf (!decide (n = 0)) (htt n K F bar w ρ tk) tk)))]) h (by rw [← ef] <;> rfl)
    exact hret (r := (-103)) (⟨tof, tmu⟩) dX8_hour_9 h (rfl) (by rw [bf_f eD])

set_option maxHeartbeats 4000000 in
set_option maxRecDepth 100000 in
theorem c_X8_rain (l : Launch) (D : va_G) (cI cZ : ClassId) (kS vS : Nat) (p0 : Nat) (p1 : Nat) (p2 : Nat) (p3 : Nat) (p4 : Nat) (p5 : Nat) (p6 : Nat) (p7 : Nat) (p8 : Nat) (p9 : Nat) (p10 : Nat) (p11 : Nat) (p12 : Nat) (p13 : Nat) (p14 : Nat) (p15 : Nat) (p16 : Nat) (p17 : Nat) (n : Nat) (pgm : Int32) (rdm : Int32) (rdb : Int32) (stt : Int32) (bar : Int32) (hrs : Int32) (crd : Int32) (tof : Int32) (tmu : Int32) (bdn : Int32) (snm : Int32) (sdn : Int32) (kcs : Int32) (khr : Int32) (ksn : Int32) (hlg : Int64) (w : Nat → Int32) (x : Int32) (k : Int32) (hn : n = 0 ∨ (2 ≤ n ∧ n ≤ 5)) : CI l yX8_rain cX8_rain 3 .int D cI cZ kS vS 2 46 0 0 [.ref p0, .int x, .int k] [(p0, .inr (8, [.ref p1, .int pgm, .ref p2, .int rdm, .int rdb, .int stt, .int (nI n), .int bar, .int hrs, .int crd, .ref p3, .ref p4, .ref p5, .ref p6, .ref p7, .int tof, .int tmu, .ref p8, .ref p9, .int bdn, .ref p10, .int snm, .ref p11, .ref p12, .ref p13, .int sdn, .int kcs, .int khr, .int ksn, .ref p14, .ref p15, .ref p16, .ref p17, .long hlg])), (p5, .inl (cI, 5, .inl w))] (fun (r : Int32) (_ : Unit) => r = bf (hin (nI n) x) (bf (wth k 1 50) (hcap (w x.toNatClampNeg + k)) (-102)) (-101)) (fun (_ : Unit) => [(p0, .inr (8, [.ref p1, .int pgm, .ref p2, .int rdm, .int rdb, .int stt, .int (nI n), .int bar, .int hrs, .int crd, .ref p3, .ref p4, .ref p5, .ref p6, .ref p7, .int tof, .int tmu, .ref p8, .ref p9, .int bdn, .ref p10, .int snm, .ref p11, .ref p12, .ref p13, .int sdn, .int kcs, .int khr, .int ksn, .ref p14, .ref p15, .ref p16, .ref p17, .long hlg])), (p5, .inl (cI, 5, .inl (bf (rnk n x k) (upd w x.toNatClampNeg (hcap (w x.toNatClampNeg + k))) w)))]) := by
  refine CI_intro (by decide) (Nat.le_of_ble_eq_true rfl) ?_
  intro p e s m args below meth c A Q ls C h hret hl
  have C : CX p s m args c cX8_rain 3 RX8 D cI cZ kS vS A := C
  have hx := C.1.1
  have hb := C.1.2.1
  have hl : lv_has ls 3 [(0, .ref p0), (1, .int x), (2, .int k)] := hl
  have hn5 : n ≤ 5 := by omega
  refine lv_aload_n hx hb dX8_rain_0 rfl (lv_at hl 0 rfl) ?_
  refine lv_iload_n hx hb dX8_rain_1 rfl (lv_at hl 1 rfl) ?_
  refine k_Vi (rest := []) (as := [.int x]) (wc := [(p0, .inr (8, [.ref p1, .int pgm, .ref p2, .int rdm, .int rdb, .int stt, .int (nI n), .int bar, .int hrs, .int crd, .ref p3, .ref p4, .ref p5, .ref p6, .ref p7, .int tof, .int tmu, .ref p8, .ref p9, .int bdn, .ref p10, .int snm, .ref p11, .ref p12, .ref p13, .int sdn, .int kcs, .int khr, .int ksn, .ref p14, .ref p15, .ref p16, .ref p17, .long hlg]))]) (wr := [(p5, .inl (cI, 5, .inl w))]) (isC := [0]) (isR := [1]) (w2 := fun (_ : Unit) => [(p0, .inr (8, [.ref p1, .int pgm, .ref p2, .int rdm, .int rdb, .int stt, .int (nI n), .int bar, .int hrs, .int crd, .ref p3, .ref p4, .ref p5, .ref p6, .ref p7, .int tof, .int tmu, .ref p8, .ref p9, .int bdn, .ref p10, .int snm, .ref p11, .ref p12, .ref p13, .int sdn, .int kcs, .int khr, .int ksn, .ref p14, .ref p15, .ref p16, .ref p17, .long hlg])), (p5, .inl (cI, 5, .inl w))]) C h (c_X8_isRiver l D cI cZ kS vS p0 p1 p2 p3 p4 p5 p6 p7 p8 p9 p10 p11 p12 p13 p14 p15 p16 p17 n pgm rdm rdb stt bar hrs crd tof tmu bdn snm sdn kcs khr ksn hlg x hn5) wv_X8_isRiver rfl ⟨rfl, rfl, rfl, rfl, by decide⟩ fk8 0 rfl ml_RX8_153 [1, 0] rfl (fun _ => rfl) ⟨Nat.le_of_ble_eq_true rfl, Nat.le_of_ble_eq_true rfl⟩ ⟨Nat.le_of_ble_eq_true rfl, Nat.le_of_ble_eq_true rfl⟩ (Nat.le_of_ble_eq_true rfl) hl rfl dX8_rain_2 (fun r u H locs hq h => ?_)
  have h : HS D A s H locs [(p0, .inr (8, [.ref p1, .int pgm, .ref p2, .int rdm, .int rdb, .int stt, .int (nI n), .int bar, .int hrs, .int crd, .ref p3, .ref p4, .ref p5, .ref p6, .ref p7, .int tof, .int tmu, .ref p8, .ref p9, .int bdn, .ref p10, .int snm, .ref p11, .ref p12, .ref p13, .int sdn, .int kcs, .int khr, .int ksn, .ref p14, .ref p15, .ref p16, .ref p17, .long hlg])), (p5, .inl (cI, 5, .inl w))] := h
  have hq : r = bI (hin (nI n) x) := hq
  have hq := hq.symm
  subst hq
  refine lv_if_ne (tgt := 11) hx hb dX8_rain_5 (by decide) (fun c_5 => ?_) (fun c_5 => ?_)
  · skip
    have hb_5 : (hin (nI n) x) = true := bI_n0.mp c_5
    obtain ⟨k0, hk0, rfl⟩ := hin_of hb_5 (by omega)
    have hcl : (nI k0).toNatClampNeg = k0 := nI_clamp (by omega)
    have hn2 : 2 ≤ n := by omega
    refine lv_iload_n hx hb dX8_rain_11 rfl (lv_at hl 2 rfl) ?_
    refine lv_i2l hx hb dX8_rain_12 rfl ?_
    refine lv_lconst (v := 1) hx hb dX8_rain_13 (by decide) ?_
    refine lv_ldc2 (v := 50) hx hb C.1.2.2.2.1 (C.1.2.2.2.2 _ mq_RX8_166) dX8_rain_14 ?_
    refine k_Si (rest := []) (as := [.long (Int32.toInt64 k), .long 1, .long 50]) (wc := []) (wr := [(p0, .inr (8, [.ref p1, .int pgm, .ref p2, .int rdm, .int rdb, .int stt, .int (nI n), .int bar, .int hrs, .int crd, .ref p3, .ref p4, .ref p5, .ref p6, .ref p7, .int tof, .int tmu, .ref p8, .ref p9, .int bdn, .ref p10, .int snm, .ref p11, .ref p12, .ref p13, .int sdn, .int kcs, .int khr, .int ksn, .ref p14, .ref p15, .ref p16, .ref p17, .long hlg])), (p5, .inl (cI, 5, .inl w))]) (isC := []) (isR := [0, 1]) (w2 := fun (_ : Unit) => [(p0, .inr (8, [.ref p1, .int pgm, .ref p2, .int rdm, .int rdb, .int stt, .int (nI n), .int bar, .int hrs, .int crd, .ref p3, .ref p4, .ref p5, .ref p6, .ref p7, .int tof, .int tmu, .ref p8, .ref p9, .int bdn, .ref p10, .int snm, .ref p11, .ref p12, .ref p13, .int sdn, .int kcs, .int khr, .int ksn, .ref p14, .ref p15, .ref p16, .ref p17, .long hlg])), (p5, .inl (cI, 5, .inl w))]) C h (c_X8_in l D cI cZ kS vS (Int32.toInt64 k) 1 50 ) wv_X8_in rfl ⟨rfl, rfl, rfl, rfl, by decide⟩ ml_RX8_67 [0, 1] rfl (fun _ => rfl) ⟨Nat.le_of_ble_eq_true rfl, Nat.le_of_ble_eq_true rfl⟩ ⟨Nat.le_of_ble_eq_true rfl, Nat.le_of_ble_eq_true rfl⟩ (Nat.le_of_ble_eq_true rfl) hl rfl dX8_rain_17 (fun r u H locs hq h => ?_)
    have h : HS D A s H locs [(p0, .inr (8, [.ref p1, .int pgm, .ref p2, .int rdm, .int rdb, .int stt, .int (nI n), .int bar, .int hrs, .int crd, .ref p3, .ref p4, .ref p5, .ref p6, .ref p7, .int tof, .int tmu, .ref p8, .ref p9, .int bdn, .ref p10, .int snm, .ref p11, .ref p12, .ref p13, .int sdn, .int kcs, .int khr, .int ksn, .ref p14, .ref p15, .ref p16, .ref p17, .long hlg])), (p5, .inl (cI, 5, .inl w))] := h
    have hq : r = bI (lin (Int32.toInt64 k) 1 50) := hq
    have hq := hq.symm
    subst hq
    refine r_top (y := bI (wth k 1 50)) (congrArg bI (lin_w k (by decide) (by decide))) ?_
    refine lv_if_eq (tgt := 32) hx hb dX8_rain_20 (by decide) (fun c_20 => ?_) (fun c_20 => ?_)
    · skip
      have hb_20 : (wth k 1 50) = false := bI_0.mp c_20
      refine lv_bipush (v := (-102)) hx hb dX8_rain_32 (by decide) ?_
      have h := h.arr 1 (g := bf (rnk n (nI k0) k) (upd w (nI k0).toNatClampNeg (hcap (w (nI k0).toNatClampNeg + k))) w) rfl (fun j hj => by rw [bf_f (rnk_f2 hb_20)]) rfl
      exact hret (r := (-102)) () dX8_rain_34 h (rfl) (by rw [bf_t hb_5, bf_f hb_20])
    · skip
      have hb_20 : (wth k 1 50) = true := bI_n0.mp c_20
      refine lv_aload_n hx hb dX8_rain_23 rfl (lv_at hl 0 rfl) ?_
      refine lv_iload_n hx hb dX8_rain_24 rfl (lv_at hl 1 rfl) ?_
      refine lv_iload_n hx hb dX8_rain_25 rfl (lv_at hl 2 rfl) ?_
      refine k_Vi (rest := []) (as := [.int (nI k0), .int k]) (wc := [(p0, .inr (8, [.ref p1, .int pgm, .ref p2, .int rdm, .int rdb, .int stt, .int (nI n), .int bar, .int hrs, .int crd, .ref p3, .ref p4, .ref p5, .ref p6, .ref p7, .int tof, .int tmu, .ref p8, .ref p9, .int bdn, .ref p10, .int snm, .ref p11, .ref p12, .ref p13, .int sdn, .int kcs, .int khr, .int ksn, .ref p14, .ref p15, .ref p16, .ref p17, .long hlg])), (p5, .inl (cI, 5, .inl w))]) (wr := []) (isC := [0, 1]) (isR := []) (w2 := fun (_ : Unit) => [(p0, .inr (8, [.ref p1, .int pgm, .ref p2, .int rdm, .int rdb, .int stt, .int (nI n), .int bar, .int hrs, .int crd, .ref p3, .ref p4, .ref p5, .ref p6, .ref p7, .int tof, .int tmu, .ref p8, .ref p9, .int bdn, .ref p10, .int snm, .ref p11, .ref p12, .ref p13, .int sdn, .int kcs, .int khr, .int ksn, .ref p14, .ref p15, .ref p16, .ref p17, .long hlg])), (p5, .inl (cI, 5, .inl (upd w k0 (hcap (w k0 + k)))))]) C h (c_X8_rains l D cI cZ kS vS p0 p1 p2 p3 p4 p5 p6 p7 p8 p9 p10 p11 p12 p13 p14 p15 p16 p17 n pgm rdm rdb stt bar hrs crd tof tmu bdn snm sdn kcs khr ksn hlg w k0 k (by omega)) wv_X8_rains rfl ⟨rfl, rfl, rfl, rfl, by decide⟩ fk8 0 rfl ml_RX8_168 [0, 1] rfl (fun _ => rfl) ⟨Nat.le_of_ble_eq_true rfl, Nat.le_of_ble_eq_true rfl⟩ ⟨Nat.le_of_ble_eq_true rfl, Nat.le_of_ble_eq_true rfl⟩ (Nat.le_of_ble_eq_true rfl) hl rfl dX8_rain_26 (fun r u H locs hq h => ?_)
      have h : HS D A s H locs [(p0, .inr (8, [.ref p1, .int pgm, .ref p2, .int rdm, .int rdb, .int stt, .int (nI n), .int bar, .int hrs, .int crd, .ref p3, .ref p4, .ref p5, .ref p6, .ref p7, .int tof, .int tmu, .ref p8, .ref p9, .int bdn, .ref p10, .int snm, .ref p11, .ref p12, .ref p13, .int sdn, .int kcs, .int khr, .int ksn, .ref p14, .ref p15, .ref p16, .ref p17, .long hlg])), (p5, .inl (cI, 5, .inl (upd w k0 (hcap (w k0 + k)))))] := h
      have hq : r = hcap (w k0 + k) := hq
      have hq := hq.symm
      subst hq
      refine lv_goto (tgt := 34) hx hb dX8_rain_29 (by decide) ?_
      have h := h.arr 1 (g := bf (rnk n (nI k0) k) (upd w (nI k0).toNatClampNeg (hcap (w (nI k0).toNatClampNeg + k))) w) rfl (fun j hj => by rw [bf_t (rnk_t hb_5 hb_20), hcl]) rfl
      exact hret (r := hcap (w k0 + k)) () dX8_rain_34 h (rfl) (by rw [bf_t hb_5, bf_t hb_20, hcl])
  · skip
    have hb_5 : (hin (nI n) x) = false := bI_0.mp c_5
    refine lv_bipush (v := (-101)) hx hb dX8_rain_8 (by decide) ?_
    have h := h.arr 1 (g := bf (rnk n x k) (upd w x.toNatClampNeg (hcap (w x.toNatClampNeg + k))) w) rfl (fun j hj => by rw [bf_f (rnk_f1 hb_5)]) rfl
    exact hret (r := (-101)) () dX8_rain_10 h (rfl) (by rw [bf_f hb_5])

set_option maxHeartbeats 4000000 in
set_option maxRecDepth 100000 in
theorem c_X8_drought (l : Launch) (D : va_G) (cI cZ : ClassId) (kS vS : Nat) (p0 : Nat) (p1 : Nat) (p2 : Nat) (p3 : Nat) (p4 : Nat) (p5 : Nat) (p6 : Nat) (p7 : Nat) (p8 : Nat) (p9 : Nat) (p10 : Nat) (p11 : Nat) (p12 : Nat) (p13 : Nat) (p14 : Nat) (p15 : Nat) (p16 : Nat) (p17 : Nat) (n : Nat) (pgm : Int32) (rdm : Int32) (rdb : Int32) (stt : Int32) (bar : Int32) (hrs : Int32) (crd : Int32) (tof : Int32) (tmu : Int32) (bdn : Int32) (snm : Int32) (sdn : Int32) (kcs : Int32) (khr : Int32) (ksn : Int32) (hlg : Int64) (w : Nat → Int32) (ρ : Nat → Nat) (x : Int32) (hn : n = 0 ∨ (2 ≤ n ∧ n ≤ 5)) (hpm : PM n ρ) : CI l yX8_drought cX8_drought 3 .int D cI cZ kS vS 2 46 0 0 [.ref p0, .int x] [(p0, .inr (8, [.ref p1, .int pgm, .ref p2, .int rdm, .int rdb, .int stt, .int (nI n), .int bar, .int hrs, .int crd, .ref p3, .ref p4, .ref p5, .ref p6, .ref p7, .int tof, .int tmu, .ref p8, .ref p9, .int bdn, .ref p10, .int snm, .ref p11, .ref p12, .ref p13, .int sdn, .int kcs, .int khr, .int ksn, .ref p14, .ref p15, .ref p16, .ref p17, .long hlg])), (p5, .inl (cI, 5, .inl w)), (p6, .inl (cI, 5, .inl (ro ρ)))] (fun (r : Int32) (_ : Unit) => r = bf (hin (nI n) x) (w x.toNatClampNeg) (-101)) (fun (_ : Unit) => [(p0, .inr (8, [.ref p1, .int pgm, .ref p2, .int rdm, .int rdb, .int stt, .int (nI n), .int bar, .int hrs, .int crd, .ref p3, .ref p4, .ref p5, .ref p6, .ref p7, .int tof, .int tmu, .ref p8, .ref p9, .int bdn, .ref p10, .int snm, .ref p11, .ref p12, .ref p13, .int sdn, .int kcs, .int khr, .int ksn, .ref p14, .ref p15, .ref p16, .ref p17, .long hlg])), (p5, .inl (cI, 5, .inl (bf (hin (nI n) x) (upd w x.toNatClampNeg 0) w))), (p6, .inl (cI, 5, .inl (ro (bf (hin (nI n) x) (hsb n (plq n ρ x.toNatClampNeg) ρ) ρ))))]) := by
  refine CI_intro (by decide) (Nat.le_of_ble_eq_true rfl) ?_
  intro p e s m args below meth c A Q ls C h hret hl
  have C : CX p s m args c cX8_drought 3 RX8 D cI cZ kS vS A := C
  have hx := C.1.1
  have hb := C.1.2.1
  have hl : lv_has ls 3 [(0, .ref p0), (1, .int x)] := hl
  have hn5 : n ≤ 5 := by omega
  refine lv_aload_n hx hb dX8_drought_0 rfl (lv_at hl 0 rfl) ?_
  refine lv_iload_n hx hb dX8_drought_1 rfl (lv_at hl 1 rfl) ?_
  refine k_Vi (rest := []) (as := [.int x]) (wc := [(p0, .inr (8, [.ref p1, .int pgm, .ref p2, .int rdm, .int rdb, .int stt, .int (nI n), .int bar, .int hrs, .int crd, .ref p3, .ref p4, .ref p5, .ref p6, .ref p7, .int tof, .int tmu, .ref p8, .ref p9, .int bdn, .ref p10, .int snm, .ref p11, .ref p12, .ref p13, .int sdn, .int kcs, .int khr, .int ksn, .ref p14, .ref p15, .ref p16, .ref p17, .long hlg]))]) (wr := [(p5, .inl (cI, 5, .inl w)), (p6, .inl (cI, 5, .inl (ro ρ)))]) (isC := [0]) (isR := [1, 2]) (w2 := fun (_ : Unit) => [(p0, .inr (8, [.ref p1, .int pgm, .ref p2, .int rdm, .int rdb, .int stt, .int (nI n), .int bar, .int hrs, .int crd, .ref p3, .ref p4, .ref p5, .ref p6, .ref p7, .int tof, .int tmu, .ref p8, .ref p9, .int bdn, .ref p10, .int snm, .ref p11, .ref p12, .ref p13, .int sdn, .int kcs, .int khr, .int ksn, .ref p14, .ref p15, .ref p16, .ref p17, .long hlg])), (p5, .inl (cI, 5, .inl w)), (p6, .inl (cI, 5, .inl (ro ρ)))]) C h (c_X8_isRiver l D cI cZ kS vS p0 p1 p2 p3 p4 p5 p6 p7 p8 p9 p10 p11 p12 p13 p14 p15 p16 p17 n pgm rdm rdb stt bar hrs crd tof tmu bdn snm sdn kcs khr ksn hlg x hn5) wv_X8_isRiver rfl ⟨rfl, rfl, rfl, rfl, by decide⟩ fk8 0 rfl ml_RX8_153 [2, 0, 1] rfl (fun _ => rfl) ⟨Nat.le_of_ble_eq_true rfl, Nat.le_of_ble_eq_true rfl⟩ ⟨Nat.le_of_ble_eq_true rfl, Nat.le_of_ble_eq_true rfl⟩ (Nat.le_of_ble_eq_true rfl) hl rfl dX8_drought_2 (fun r u H locs hq h => ?_)
  have h : HS D A s H locs [(p0, .inr (8, [.ref p1, .int pgm, .ref p2, .int rdm, .int rdb, .int stt, .int (nI n), .int bar, .int hrs, .int crd, .ref p3, .ref p4, .ref p5, .ref p6, .ref p7, .int tof, .int tmu, .ref p8, .ref p9, .int bdn, .ref p10, .int snm, .ref p11, .ref p12, .ref p13, .int sdn, .int kcs, .int khr, .int ksn, .ref p14, .ref p15, .ref p16, .ref p17, .long hlg])), (p5, .inl (cI, 5, .inl w)), (p6, .inl (cI, 5, .inl (ro ρ)))] := h
  have hq : r = bI (hin (nI n) x) := hq
  have hq := hq.symm
  subst hq
  refine lv_if_ne (tgt := 11) hx hb dX8_drought_5 (by decide) (fun c_5 => ?_) (fun c_5 => ?_)
  · skip
    have hb_5 : (hin (nI n) x) = true := bI_n0.mp c_5
    obtain ⟨k0, hk0, rfl⟩ := hin_of hb_5 (by omega)
    have hcl : (nI k0).toNatClampNeg = k0 := nI_clamp (by omega)
    have hn2 : 2 ≤ n := by omega
    have hqe := plq_e hpm hk0
    refine lv_aload_n hx hb dX8_drought_11 rfl (lv_at hl 0 rfl) ?_
    refine r_get C h fk8 0 12 rfl (by decide) mf_RX8_22 rfl dX8_drought_12 ?_
    refine lv_iload_n hx hb dX8_drought_15 rfl (lv_at hl 1 rfl) ?_
    refine r_ld C h 1 rfl k0 (rfl) (by omega) (by decide) (x := w k0) (rfl) dX8_drought_16 ?_
    refine lv_istore_n (lv' := [(2, .int (w k0)), (0, .ref p0), (1, .int (nI k0))]) hx hb dX8_drought_17 rfl hl (by decide) rfl (fun ls hl => ?_)
    refine lv_aload_n hx hb dX8_drought_18 rfl (lv_at hl 1 rfl) ?_
    refine r_get C h fk8 0 12 rfl (by decide) mf_RX8_22 rfl dX8_drought_19 ?_
    refine lv_iload_n hx hb dX8_drought_22 rfl (lv_at hl 2 rfl) ?_
    refine lv_iconst (v := 0) hx hb dX8_drought_23 (by decide) ?_
    refine r_st C h 1 rfl k0 (rfl) (by omega) (by decide) (g := upd w k0 0) (fun _ _ => rfl) (ws' := [(p0, .inr (8, [.ref p1, .int pgm, .ref p2, .int rdm, .int rdb, .int stt, .int (nI n), .int bar, .int hrs, .int crd, .ref p3, .ref p4, .ref p5, .ref p6, .ref p7, .int tof, .int tmu, .ref p8, .ref p9, .int bdn, .ref p10, .int snm, .ref p11, .ref p12, .ref p13, .int sdn, .int kcs, .int khr, .int ksn, .ref p14, .ref p15, .ref p16, .ref p17, .long hlg])), (p5, .inl (cI, 5, .inl (upd w k0 0))), (p6, .inl (cI, 5, .inl (ro ρ)))]) rfl dX8_drought_24 (fun H locs h => ?_)
    refine lv_aload_n hx hb dX8_drought_25 rfl (lv_at hl 1 rfl) ?_
    refine lv_iload_n hx hb dX8_drought_26 rfl (lv_at hl 2 rfl) ?_
    refine r_top (y := nI (ρ (plq n ρ k0))) (by rw [hqe.2]) ?_
    refine k_Vv (rest := []) (as := [.int (nI (ρ (plq n ρ k0)))]) (wc := [(p0, .inr (8, [.ref p1, .int pgm, .ref p2, .int rdm, .int rdb, .int stt, .int (nI n), .int bar, .int hrs, .int crd, .ref p3, .ref p4, .ref p5, .ref p6, .ref p7, .int tof, .int tmu, .ref p8, .ref p9, .int bdn, .ref p10, .int snm, .ref p11, .ref p12, .ref p13, .int sdn, .int kcs, .int khr, .int ksn, .ref p14, .ref p15, .ref p16, .ref p17, .long hlg])), (p6, .inl (cI, 5, .inl (ro ρ)))]) (wr := [(p5, .inl (cI, 5, .inl (upd w k0 0)))]) (isC := [0, 2]) (isR := [1]) (w2 := fun (_ : Unit) => [(p0, .inr (8, [.ref p1, .int pgm, .ref p2, .int rdm, .int rdb, .int stt, .int (nI n), .int bar, .int hrs, .int crd, .ref p3, .ref p4, .ref p5, .ref p6, .ref p7, .int tof, .int tmu, .ref p8, .ref p9, .int bdn, .ref p10, .int snm, .ref p11, .ref p12, .ref p13, .int sdn, .int kcs, .int khr, .int ksn, .ref p14, .ref p15, .ref p16, .ref p17, .long hlg])), (p5, .inl (cI, 5, .inl (upd w k0 0))), (p6, .inl (cI, 5, .inl (ro (hsb n (plq n ρ k0) ρ))))]) C h (c_X8_goBehind l D cI cZ kS vS p0 p1 p2 p3 p4 p5 p6 p7 p8 p9 p10 p11 p12 p13 p14 p15 p16 p17 n pgm rdm rdb stt bar hrs crd tof tmu bdn snm sdn kcs khr ksn hlg ρ (plq n ρ k0) hn2 hn5 hpm hqe.1) wv_X8_goBehind rfl ⟨rfl, rfl, rfl, rfl, by decide⟩ fk8 0 rfl ml_RX8_124 [1, 0, 2] rfl (fun _ => rfl) ⟨Nat.le_of_ble_eq_true rfl, Nat.le_of_ble_eq_true rfl⟩ ⟨Nat.le_of_ble_eq_true rfl, Nat.le_of_ble_eq_true rfl⟩ (Nat.le_of_ble_eq_true rfl) hl rfl dX8_drought_27 (fun u H locs hq h => ?_)
    have h : HS D A s H locs [(p0, .inr (8, [.ref p1, .int pgm, .ref p2, .int rdm, .int rdb, .int stt, .int (nI n), .int bar, .int hrs, .int crd, .ref p3, .ref p4, .ref p5, .ref p6, .ref p7, .int tof, .int tmu, .ref p8, .ref p9, .int bdn, .ref p10, .int snm, .ref p11, .ref p12, .ref p13, .int sdn, .int kcs, .int khr, .int ksn, .ref p14, .ref p15, .ref p16, .ref p17, .long hlg])), (p5, .inl (cI, 5, .inl (upd w k0 0))), (p6, .inl (cI, 5, .inl (ro (hsb n (plq n ρ k0) ρ))))] := h
    have hq : True := hq
    refine lv_iload_n hx hb dX8_drought_30 rfl (lv_at hl 0 rfl) ?_
    have h := h.arr 1 (g := bf (hin (nI n) (nI k0)) (upd w (nI k0).toNatClampNeg 0) w) rfl (fun j _ => by rw [bf_t hb_5, hcl]) rfl
    have h := h.arr 2 (g := ro (bf (hin (nI n) (nI k0)) (hsb n (plq n ρ (nI k0).toNatClampNeg) ρ) ρ)) rfl (fun j _ => by rw [bf_t hb_5, hcl]) rfl
    exact hret (r := w k0) () dX8_drought_31 h (rfl) (by rw [bf_t hb_5, hcl])
  · skip
    have hb_5 : (hin (nI n) x) = false := bI_0.mp c_5
    refine lv_bipush (v := (-101)) hx hb dX8_drought_8 (by decide) ?_
    have h := h.arr 1 (g := bf (hin (nI n) x) (upd w x.toNatClampNeg 0) w) rfl (fun j hj => by rw [bf_f hb_5]) rfl
    have h := h.arr 2 (g := ro (bf (hin (nI n) x) (hsb n (plq n ρ x.toNatClampNeg) ρ) ρ)) rfl (fun j hj => by rw [bf_f hb_5]) rfl
    exact hret (r := (-101)) () dX8_drought_10 h (rfl) (by rw [bf_f hb_5])

set_option maxHeartbeats 4000000 in
set_option maxRecDepth 100000 in
theorem c_X8_wide (l : Launch) (D : va_G) (cI cZ : ClassId) (kS vS : Nat) (p0 : Nat) (p1 : Nat) (p2 : Nat) (p3 : Nat) (p4 : Nat) (p5 : Nat) (p6 : Nat) (p7 : Nat) (p8 : Nat) (p9 : Nat) (p10 : Nat) (p11 : Nat) (p12 : Nat) (p13 : Nat) (p14 : Nat) (p15 : Nat) (p16 : Nat) (p17 : Nat) (n : Nat) (pgm : Int32) (rdm : Int32) (rdb : Int32) (stt : Int32) (bar : Int32) (hrs : Int32) (crd : Int32) (tof : Int32) (tmu : Int32) (bdn : Int32) (snm : Int32) (sdn : Int32) (kcs : Int32) (khr : Int32) (ksn : Int32) (hlg : Int64) (w : Nat → Int32) (ρ : Nat → Nat) (K : Nat → Int32) (F : Nat → Int32) (sw : Nat → Int32) (ss : Nat → Int32) (y : Int32) (k : Int32) (hn : n = 0 ∨ (2 ≤ n ∧ n ≤ 5)) (hpm : PM n ρ) (hK : ∀ j, j < n → K j = 0 ∨ K j = 1 ∨ K j = 2 ∨ K j = 3 ∨ K j = 4) : CI l yX8_wide cX8_wide 3 .int D cI cZ kS vS 3 74 0 0 [.ref p0, .int y, .int k] [(p0, .inr (8, [.ref p1, .int pgm, .ref p2, .int rdm, .int rdb, .int stt, .int (nI n), .int bar, .int hrs, .int crd, .ref p3, .ref p4, .ref p5, .ref p6, .ref p7, .int tof, .int tmu, .ref p8, .ref p9, .int bdn, .ref p10, .int snm, .ref p11, .ref p12, .ref p13, .int sdn, .int kcs, .int khr, .int ksn, .ref p14, .ref p15, .ref p16, .ref p17, .long hlg])), (p3, .inl (cI, 5, .inl K)), (p4, .inl (cI, 5, .inl F)), (p5, .inl (cI, 5, .inl w)), (p6, .inl (cI, 5, .inl (ro ρ))), (p8, .inl (cI, 5, .inl sw)), (p9, .inl (cI, 5, .inl ss))] (fun (r : Int32) (u : Int32 × Int32 × (Nat → Int32) × (Nat → Int32)) => r = bf (wth y 1 60) (bf (wth k 0 1) (bf (!decide (n = 0)) (bf (decide (k = 0)) (hwd n K F bar w ρ y.toNatClampNeg).2 (hwd n K F bar w ρ y.toNatClampNeg).1) (-103)) (-102)) (-102)) (fun (u : Int32 × Int32 × (Nat → Int32) × (Nat → Int32)) => [(p0, .inr (8, [.ref p1, .int pgm, .ref p2, .int rdm, .int rdb, .int stt, .int (nI n), .int bar, .int hrs, .int crd, .ref p3, .ref p4, .ref p5, .ref p6, .ref p7, .int u.1, .int u.2.1, .ref p8, .ref p9, .int bdn, .ref p10, .int snm, .ref p11, .ref p12, .ref p13, .int sdn, .int kcs, .int khr, .int ksn, .ref p14, .ref p15, .ref p16, .ref p17, .long hlg])), (p3, .inl (cI, 5, .inl K)), (p4, .inl (cI, 5, .inl F)), (p5, .inl (cI, 5, .inl w)), (p6, .inl (cI, 5, .inl (ro ρ))), (p8, .inl (cI, 5, .inl u.2.2.1)), (p9, .inl (cI, 5, .inl u.2.2.2))]) := by
  refine CI_intro (by decide) (Nat.le_of_ble_eq_true rfl) ?_
  intro p e s m args below meth c A Q ls C h hret hl
  have C : CX p s m args c cX8_wide 3 RX8 D cI cZ kS vS A := C
  have hx := C.1.1
  have hb := C.1.2.1
  have hl : lv_has ls 3 [(0, .ref p0), (1, .int y), (2, .int k)] := hl
  have hn5 : n ≤ 5 := by omega
  refine lv_iload_n hx hb dX8_wide_0 rfl (lv_at hl 1 rfl) ?_
  refine lv_i2l hx hb dX8_wide_1 rfl ?_
  refine lv_lconst (v := 1) hx hb dX8_wide_2 (by decide) ?_
  refine lv_ldc2 (v := 60) hx hb C.1.2.2.2.1 (C.1.2.2.2.2 _ mq_RX8_174) dX8_wide_3 ?_
  refine k_Si (rest := []) (as := [.long (Int32.toInt64 y), .long 1, .long 60]) (wc := []) (wr := [(p0, .inr (8, [.ref p1, .int pgm, .ref p2, .int rdm, .int rdb, .int stt, .int (nI n), .int bar, .int hrs, .int crd, .ref p3, .ref p4, .ref p5, .ref p6, .ref p7, .int tof, .int tmu, .ref p8, .ref p9, .int bdn, .ref p10, .int snm, .ref p11, .ref p12, .ref p13, .int sdn, .int kcs, .int khr, .int ksn, .ref p14, .ref p15, .ref p16, .ref p17, .long hlg])), (p3, .inl (cI, 5, .inl K)), (p4, .inl (cI, 5, .inl F)), (p5, .inl (cI, 5, .inl w)), (p6, .inl (cI, 5, .inl (ro ρ))), (p8, .inl (cI, 5, .inl sw)), (p9, .inl (cI, 5, .inl ss))]) (isC := []) (isR := [0, 1, 2, 3, 4, 5, 6]) (w2 := fun (_ : Unit) => [(p0, .inr (8, [.ref p1, .int pgm, .ref p2, .int rdm, .int rdb, .int stt, .int (nI n), .int bar, .int hrs, .int crd, .ref p3, .ref p4, .ref p5, .ref p6, .ref p7, .int tof, .int tmu, .ref p8, .ref p9, .int bdn, .ref p10, .int snm, .ref p11, .ref p12, .ref p13, .int sdn, .int kcs, .int khr, .int ksn, .ref p14, .ref p15, .ref p16, .ref p17, .long hlg])), (p3, .inl (cI, 5, .inl K)), (p4, .inl (cI, 5, .inl F)), (p5, .inl (cI, 5, .inl w)), (p6, .inl (cI, 5, .inl (ro ρ))), (p8, .inl (cI, 5, .inl sw)), (p9, .inl (cI, 5, .inl ss))]) C h (c_X8_in l D cI cZ kS vS (Int32.toInt64 y) 1 60 ) wv_X8_in rfl ⟨rfl, rfl, rfl, rfl, by decide⟩ ml_RX8_67 [0, 1, 2, 3, 4, 5, 6] rfl (fun _ => rfl) ⟨Nat.le_of_ble_eq_true rfl, Nat.le_of_ble_eq_true rfl⟩ ⟨Nat.le_of_ble_eq_true rfl, Nat.le_of_ble_eq_true rfl⟩ (Nat.le_of_ble_eq_true rfl) hl rfl dX8_wide_6 (fun r u H locs hq h => ?_)
  have h : HS D A s H locs [(p0, .inr (8, [.ref p1, .int pgm, .ref p2, .int rdm, .int rdb, .int stt, .int (nI n), .int bar, .int hrs, .int crd, .ref p3, .ref p4, .ref p5, .ref p6, .ref p7, .int tof, .int tmu, .ref p8, .ref p9, .int bdn, .ref p10, .int snm, .ref p11, .ref p12, .ref p13, .int sdn, .int kcs, .int khr, .int ksn, .ref p14, .ref p15, .ref p16, .ref p17, .long hlg])), (p3, .inl (cI, 5, .inl K)), (p4, .inl (cI, 5, .inl F)), (p5, .inl (cI, 5, .inl w)), (p6, .inl (cI, 5, .inl (ro ρ))), (p8, .inl (cI, 5, .inl sw)), (p9, .inl (cI, 5, .inl ss))] := h
  have hq : r = bI (lin (Int32.toInt64 y) 1 60) := hq
  have hq := hq.symm
  subst hq
  refine r_top (y := bI (wth y 1 60)) (congrArg bI (lin_w y (by decide) (by decide))) ?_
  refine lv_if_eq (tgt := 22) hx hb dX8_wide_9 (by decide) (fun c_9 => ?_) (fun c_9 => ?_)
  · skip
    have hb_9 : (wth y 1 60) = false := bI_0.mp c_9
    refine lv_bipush (v := (-102)) hx hb dX8_wide_22 (by decide) ?_
    exact hret (r := (-102)) (⟨tof, tmu, sw, ss⟩) dX8_wide_24 h (rfl) (by rw [bf_f hb_9])
  · skip
    have hb_9 : (wth y 1 60) = true := bI_n0.mp c_9
    refine lv_iload_n hx hb dX8_wide_12 rfl (lv_at hl 2 rfl) ?_
    refine lv_i2l hx hb dX8_wide_13 rfl ?_
    refine lv_lconst (v := 0) hx hb dX8_wide_14 (by decide) ?_
    refine lv_lconst (v := 1) hx hb dX8_wide_15 (by decide) ?_
    refine k_Si (rest := []) (as := [.long (Int32.toInt64 k), .long 0, .long 1]) (wc := []) (wr := [(p0, .inr (8, [.ref p1, .int pgm, .ref p2, .int rdm, .int rdb, .int stt, .int (nI n), .int bar, .int hrs, .int crd, .ref p3, .ref p4, .ref p5, .ref p6, .ref p7, .int tof, .int tmu, .ref p8, .ref p9, .int bdn, .ref p10, .int snm, .ref p11, .ref p12, .ref p13, .int sdn, .int kcs, .int khr, .int ksn, .ref p14, .ref p15, .ref p16, .ref p17, .long hlg])), (p3, .inl (cI, 5, .inl K)), (p4, .inl (cI, 5, .inl F)), (p5, .inl (cI, 5, .inl w)), (p6, .inl (cI, 5, .inl (ro ρ))), (p8, .inl (cI, 5, .inl sw)), (p9, .inl (cI, 5, .inl ss))]) (isC := []) (isR := [0, 1, 2, 3, 4, 5, 6]) (w2 := fun (_ : Unit) => [(p0, .inr (8, [.ref p1, .int pgm, .ref p2, .int rdm, .int rdb, .int stt, .int (nI n), .int bar, .int hrs, .int crd, .ref p3, .ref p4, .ref p5, .ref p6, .ref p7, .int tof, .int tmu, .ref p8, .ref p9, .int bdn, .ref p10, .int snm, .ref p11, .ref p12, .ref p13, .int sdn, .int kcs, .int khr, .int ksn, .ref p14, .ref p15, .ref p16, .ref p17, .long hlg])), (p3, .inl (cI, 5, .inl K)), (p4, .inl (cI, 5, .inl F)), (p5, .inl (cI, 5, .inl w)), (p6, .inl (cI, 5, .inl (ro ρ))), (p8, .inl (cI, 5, .inl sw)), (p9, .inl (cI, 5, .inl ss))]) C h (c_X8_in l D cI cZ kS vS (Int32.toInt64 k) 0 1 ) wv_X8_in rfl ⟨rfl, rfl, rfl, rfl, by decide⟩ ml_RX8_67 [0, 1, 2, 3, 4, 5, 6] rfl (fun _ => rfl) ⟨Nat.le_of_ble_eq_true rfl, Nat.le_of_ble_eq_true rfl⟩ ⟨Nat.le_of_ble_eq_true rfl, Nat.le_of_ble_eq_true rfl⟩ (Nat.le_of_ble_eq_true rfl) hl rfl dX8_wide_16 (fun r u H locs hq h => ?_)
    have h : HS D A s H locs [(p0, .inr (8, [.ref p1, .int pgm, .ref p2, .int rdm, .int rdb, .int stt, .int (nI n), .int bar, .int hrs, .int crd, .ref p3, .ref p4, .ref p5, .ref p6, .ref p7, .int tof, .int tmu, .ref p8, .ref p9, .int bdn, .ref p10, .int snm, .ref p11, .ref p12, .ref p13, .int sdn, .int kcs, .int khr, .int ksn, .ref p14, .ref p15, .ref p16, .ref p17, .long hlg])), (p3, .inl (cI, 5, .inl K)), (p4, .inl (cI, 5, .inl F)), (p5, .inl (cI, 5, .inl w)), (p6, .inl (cI, 5, .inl (ro ρ))), (p8, .inl (cI, 5, .inl sw)), (p9, .inl (cI, 5, .inl ss))] := h
    have hq : r = bI (lin (Int32.toInt64 k) 0 1) := hq
    have hq := hq.symm
    subst hq
    refine r_top (y := bI (wth k 0 1)) (congrArg bI (lin_w k (by decide) (by decide))) ?_
    refine lv_if_ne (tgt := 25) hx hb dX8_wide_19 (by decide) (fun c_19 => ?_) (fun c_19 => ?_)
    · skip
      have hb_19 : (wth k 0 1) = true := bI_n0.mp c_19
      refine lv_aload_n hx hb dX8_wide_25 rfl (lv_at hl 0 rfl) ?_
      refine k_Vi (rest := []) (as := []) (wc := [(p0, .inr (8, [.ref p1, .int pgm, .ref p2, .int rdm, .int rdb, .int stt, .int (nI n), .int bar, .int hrs, .int crd, .ref p3, .ref p4, .ref p5, .ref p6, .ref p7, .int tof, .int tmu, .ref p8, .ref p9, .int bdn, .ref p10, .int snm, .ref p11, .ref p12, .ref p13, .int sdn, .int kcs, .int khr, .int ksn, .ref p14, .ref p15, .ref p16, .ref p17, .long hlg]))]) (wr := [(p3, .inl (cI, 5, .inl K)), (p4, .inl (cI, 5, .inl F)), (p5, .inl (cI, 5, .inl w)), (p6, .inl (cI, 5, .inl (ro ρ))), (p8, .inl (cI, 5, .inl sw)), (p9, .inl (cI, 5, .inl ss))]) (isC := [0]) (isR := [1, 2, 3, 4, 5, 6]) (w2 := fun (_ : Unit) => [(p0, .inr (8, [.ref p1, .int pgm, .ref p2, .int rdm, .int rdb, .int stt, .int (nI n), .int bar, .int hrs, .int crd, .ref p3, .ref p4, .ref p5, .ref p6, .ref p7, .int tof, .int tmu, .ref p8, .ref p9, .int bdn, .ref p10, .int snm, .ref p11, .ref p12, .ref p13, .int sdn, .int kcs, .int khr, .int ksn, .ref p14, .ref p15, .ref p16, .ref p17, .long hlg])), (p3, .inl (cI, 5, .inl K)), (p4, .inl (cI, 5, .inl F)), (p5, .inl (cI, 5, .inl w)), (p6, .inl (cI, 5, .inl (ro ρ))), (p8, .inl (cI, 5, .inl sw)), (p9, .inl (cI, 5, .inl ss))]) C h (c_X8_lacks l D cI cZ kS vS p0 p1 p2 p3 p4 p5 p6 p7 p8 p9 p10 p11 p12 p13 p14 p15 p16 p17 n pgm rdm rdb stt bar hrs crd tof tmu bdn snm sdn kcs khr ksn hlg hn5) wv_X8_lacks rfl ⟨rfl, rfl, rfl, rfl, by decide⟩ fk8 0 rfl ml_RX8_162 [6, 0, 1, 2, 3, 4, 5] rfl (fun _ => rfl) ⟨Nat.le_of_ble_eq_true rfl, Nat.le_of_ble_eq_true rfl⟩ ⟨Nat.le_of_ble_eq_true rfl, Nat.le_of_ble_eq_true rfl⟩ (Nat.le_of_ble_eq_true rfl) hl rfl dX8_wide_26 (fun r u H locs hq h => ?_)
      have h : HS D A s H locs [(p0, .inr (8, [.ref p1, .int pgm, .ref p2, .int rdm, .int rdb, .int stt, .int (nI n), .int bar, .int hrs, .int crd, .ref p3, .ref p4, .ref p5, .ref p6, .ref p7, .int tof, .int tmu, .ref p8, .ref p9, .int bdn, .ref p10, .int snm, .ref p11, .ref p12, .ref p13, .int sdn, .int kcs, .int khr, .int ksn, .ref p14, .ref p15, .ref p16, .ref p17, .long hlg])), (p3, .inl (cI, 5, .inl K)), (p4, .inl (cI, 5, .inl F)), (p5, .inl (cI, 5, .inl w)), (p6, .inl (cI, 5, .inl (ro ρ))), (p8, .inl (cI, 5, .inl sw)), (p9, .inl (cI, 5, .inl ss))] := h
      have hq : r = bI (decide (n = 0)) := hq
      have hq := hq.symm
      subst hq
      refine lv_if_eq (tgt := 37) hx hb dX8_wide_29 (by decide) (fun c_29 => ?_) (fun c_29 => ?_)
      · skip
        have hb_29 : (decide (n = 0)) = false := bI_0.mp c_29
        have eD : (!decide (n = 0)) = true := nt_f hb_29
        have hn0 := isr_n eD
        have hn2 : 2 ≤ n := by omega
        obtain ⟨m0, hy1, hy2, rfl⟩ := wth_of (lo := 1) (hi := 60) hb_9 (by decide) (by decide)
        have hcl : (nI m0).toNatClampNeg = m0 := nI_clamp (by omega)
        refine lv_aload_n hx hb dX8_wide_37 rfl (lv_at hl 0 rfl) ?_
        refine lv_iload_n hx hb dX8_wide_38 rfl (lv_at hl 1 rfl) ?_
        refine lv_iload_n hx hb dX8_wide_39 rfl (lv_at hl 2 rfl) ?_
        refine k_Vi (rest := []) (as := [.int (nI m0), .int k]) (wc := [(p0, .inr (8, [.ref p1, .int pgm, .ref p2, .int rdm, .int rdb, .int stt, .int (nI n), .int bar, .int hrs, .int crd, .ref p3, .ref p4, .ref p5, .ref p6, .ref p7, .int tof, .int tmu, .ref p8, .ref p9, .int bdn, .ref p10, .int snm, .ref p11, .ref p12, .ref p13, .int sdn, .int kcs, .int khr, .int ksn, .ref p14, .ref p15, .ref p16, .ref p17, .long hlg])), (p3, .inl (cI, 5, .inl K)), (p4, .inl (cI, 5, .inl F)), (p5, .inl (cI, 5, .inl w)), (p6, .inl (cI, 5, .inl (ro ρ))), (p8, .inl (cI, 5, .inl sw)), (p9, .inl (cI, 5, .inl ss))]) (wr := []) (isC := [0, 1, 2, 3, 4, 5, 6]) (isR := []) (w2 := fun (u : Int32 × Int32) => [(p0, .inr (8, [.ref p1, .int pgm, .ref p2, .int rdm, .int rdb, .int stt, .int (nI n), .int bar, .int hrs, .int crd, .ref p3, .ref p4, .ref p5, .ref p6, .ref p7, .int u.1, .int u.2, .ref p8, .ref p9, .int bdn, .ref p10, .int snm, .ref p11, .ref p12, .ref p13, .int sdn, .int kcs, .int khr, .int ksn, .ref p14, .ref p15, .ref p16, .ref p17, .long hlg])), (p3, .inl (cI, 5, .inl K)), (p4, .inl (cI, 5, .inl F)), (p5, .inl (cI, 5, .inl w)), (p6, .inl (cI, 5, .inl (ro ρ))), (p8, .inl (cI, 5, .inl w)), (p9, .inl (cI, 5, .inl (ro ρ)))]) C h (c_X8_wideOf l D cI cZ kS vS p0 p1 p2 p3 p4 p5 p6 p7 p8 p9 p10 p11 p12 p13 p14 p15 p16 p17 n pgm rdm rdb stt bar hrs crd tof tmu bdn snm sdn kcs khr ksn hlg w ρ K F sw ss m0 k hn2 hn5 hpm hK hy2) wv_X8_wideOf rfl ⟨rfl, rfl, rfl, rfl, by decide⟩ fk8 0 rfl ml_RX8_176 [0, 1, 2, 3, 4, 5, 6] rfl (fun _ => rfl) ⟨Nat.le_of_ble_eq_true rfl, Nat.le_of_ble_eq_true rfl⟩ ⟨Nat.le_of_ble_eq_true rfl, Nat.le_of_ble_eq_true rfl⟩ (Nat.le_of_ble_eq_true rfl) hl rfl dX8_wide_40 (fun r u H locs hq h => ?_)
        obtain ⟨uo40, um40⟩ := u
        have h : HS D A s H locs [(p0, .inr (8, [.ref p1, .int pgm, .ref p2, .int rdm, .int rdb, .int stt, .int (nI n), .int bar, .int hrs, .int crd, .ref p3, .ref p4, .ref p5, .ref p6, .ref p7, .int uo40, .int um40, .ref p8, .ref p9, .int bdn, .ref p10, .int snm, .ref p11, .ref p12, .ref p13, .int sdn, .int kcs, .int khr, .int ksn, .ref p14, .ref p15, .ref p16, .ref p17, .long hlg])), (p3, .inl (cI, 5, .inl K)), (p4, .inl (cI, 5, .inl F)), (p5, .inl (cI, 5, .inl w)), (p6, .inl (cI, 5, .inl (ro ρ))), (p8, .inl (cI, 5, .inl w)), (p9, .inl (cI, 5, .inl (ro ρ)))] := h
        have hq : r = if k = 0 then (hwd n K F bar w ρ m0).2 else (hwd n K F bar w ρ m0).1 := hq
        have hq := hq.symm
        subst hq
        exact hret (r := if k = 0 then (hwd n K F bar w ρ m0).2 else (hwd n K F bar w ρ m0).1) (⟨uo40, um40, w, ro ρ⟩) dX8_wide_43 h (rfl) (by rw [bf_t hb_9, bf_t hb_19, bf_t eD, hcl, bf_d])
      · skip
        have hb_29 : (decide (n = 0)) = true := bI_n0.mp c_29
        have eD : (!decide (n = 0)) = false := nt_t hb_29
        refine lv_bipush (v := (-103)) hx hb dX8_wide_32 (by decide) ?_
        refine lv_goto (tgt := 43) hx hb dX8_wide_34 (by decide) ?_
        exact hret (r := (-103)) (⟨tof, tmu, sw, ss⟩) dX8_wide_43 h (rfl) (by rw [bf_t hb_9, bf_t hb_19, bf_f eD])
    · skip
      have hb_19 : (wth k 0 1) = false := bI_0.mp c_19
      refine lv_bipush (v := (-102)) hx hb dX8_wide_22 (by decide) ?_
      exact hret (r := (-102)) (⟨tof, tmu, sw, ss⟩) dX8_wide_24 h (rfl) (by rw [bf_t hb_9, bf_f hb_19])

set_option maxHeartbeats 4000000 in
set_option maxRecDepth 100000 in
theorem c_X8_best (l : Launch) (D : va_G) (cI cZ : ClassId) (kS vS : Nat) (p0 : Nat) (p1 : Nat) (p2 : Nat) (p3 : Nat) (p4 : Nat) (p5 : Nat) (p6 : Nat) (p7 : Nat) (p8 : Nat) (p9 : Nat) (p10 : Nat) (p11 : Nat) (p12 : Nat) (p13 : Nat) (p14 : Nat) (p15 : Nat) (p16 : Nat) (p17 : Nat) (n : Nat) (pgm : Int32) (rdm : Int32) (rdb : Int32) (stt : Int32) (bar : Int32) (hrs : Int32) (crd : Int32) (tof : Int32) (tmu : Int32) (snm : Int32) (sdn : Int32) (kcs : Int32) (khr : Int32) (ksn : Int32) (hlg : Int64) (w : Nat → Int32) (ρ : Nat → Nat) (K : Nat → Int32) (F : Nat → Int32) (sw : Nat → Int32) (ss : Nat → Int32) (f0 : Nat → Int32) (bd : Nat) (x : Int32) (hn : n = 0 ∨ (2 ≤ n ∧ n ≤ 5)) (hpm : PM n ρ) (hK : ∀ j, j < n → K j = 0 ∨ K j = 1 ∨ K j = 2 ∨ K j = 3 ∨ K j = 4) (hbd : bd ≤ 30) (hvz : 2 ≤ n → ∀ l, l ∈ PL n → ¬ hvl n K F bar w l = -1) : CI l yX8_best cX8_best 3 .int D cI cZ kS vS 3 73 0 0 [.ref p0, .int x] [(p0, .inr (8, [.ref p1, .int pgm, .ref p2, .int rdm, .int rdb, .int stt, .int (nI n), .int bar, .int hrs, .int crd, .ref p3, .ref p4, .ref p5, .ref p6, .ref p7, .int tof, .int tmu, .ref p8, .ref p9, .int (nI bd), .ref p10, .int snm, .ref p11, .ref p12, .ref p13, .int sdn, .int kcs, .int khr, .int ksn, .ref p14, .ref p15, .ref p16, .ref p17, .long hlg])), (p3, .inl (cI, 5, .inl K)), (p4, .inl (cI, 5, .inl F)), (p5, .inl (cI, 5, .inl w)), (p6, .inl (cI, 5, .inl (ro ρ))), (p8, .inl (cI, 5, .inl sw)), (p9, .inl (cI, 5, .inl ss)), (p10, .inl (cI, 5, .inl f0))] (fun (r : Int32) (u : Int32 × Int32 × (Nat → Int32) × (Nat → Int32) × (Nat → Int32)) => r = bf (bsk x) (bf (!decide (n = 0)) (bf (decide (bd < 30)) (bf (decide (x = 0)) (cst (hvl n K F bar w) (PL n) ((PL n).length - 1)).1 (bf (hin (nI n) (x - 10)) (nI (lg (cst (hvl n K F bar w) (PL n) ((PL n).length - 1)).2 (x - 10).toNatClampNeg)) (-1))) (-103)) (-103)) (-102)) (fun (u : Int32 × Int32 × (Nat → Int32) × (Nat → Int32) × (Nat → Int32)) => [(p0, .inr (8, [.ref p1, .int pgm, .ref p2, .int rdm, .int rdb, .int stt, .int (nI n), .int bar, .int hrs, .int crd, .ref p3, .ref p4, .ref p5, .ref p6, .ref p7, .int u.1, .int u.2.1, .ref p8, .ref p9, .int (nI (bf (bsd n bd x) (bd + 1) bd)), .ref p10, .int snm, .ref p11, .ref p12, .ref p13, .int sdn, .int kcs, .int khr, .int ksn, .ref p14, .ref p15, .ref p16, .ref p17, .long hlg])), (p3, .inl (cI, 5, .inl K)), (p4, .inl (cI, 5, .inl F)), (p5, .inl (cI, 5, .inl w)), (p6, .inl (cI, 5, .inl (ro ρ))), (p8, .inl (cI, 5, .inl u.2.2.1)), (p9, .inl (cI, 5, .inl u.2.2.2.1)), (p10, .inl (cI, 5, .inl u.2.2.2.2))]) := by
  refine CI_intro (by decide) (Nat.le_of_ble_eq_true rfl) ?_
  intro p e s m args below meth c A Q ls C h hret hl
  have C : CX p s m args c cX8_best 3 RX8 D cI cZ kS vS A := C
  have hx := C.1.1
  have hb := C.1.2.1
  have hl : lv_has ls 3 [(0, .ref p0), (1, .int x)] := hl
  have hn5 : n ≤ 5 := by omega
  have ew := wth_10 x
  refine lv_iload_n hx hb dX8_best_0 rfl (lv_at hl 1 rfl) ?_
  refine lv_if_eq (tgt := 21) hx hb dX8_best_1 (by decide) (fun c_1 => ?_) (fun c_1 => ?_)
  · skip
    refine lv_aload_n hx hb dX8_best_21 rfl (lv_at hl 0 rfl) ?_
    refine k_Vi (rest := []) (as := []) (wc := [(p0, .inr (8, [.ref p1, .int pgm, .ref p2, .int rdm, .int rdb, .int stt, .int (nI n), .int bar, .int hrs, .int crd, .ref p3, .ref p4, .ref p5, .ref p6, .ref p7, .int tof, .int tmu, .ref p8, .ref p9, .int (nI bd), .ref p10, .int snm, .ref p11, .ref p12, .ref p13, .int sdn, .int kcs, .int khr, .int ksn, .ref p14, .ref p15, .ref p16, .ref p17, .long hlg]))]) (wr := [(p3, .inl (cI, 5, .inl K)), (p4, .inl (cI, 5, .inl F)), (p5, .inl (cI, 5, .inl w)), (p6, .inl (cI, 5, .inl (ro ρ))), (p8, .inl (cI, 5, .inl sw)), (p9, .inl (cI, 5, .inl ss)), (p10, .inl (cI, 5, .inl f0))]) (isC := [0]) (isR := [1, 2, 3, 4, 5, 6, 7]) (w2 := fun (_ : Unit) => [(p0, .inr (8, [.ref p1, .int pgm, .ref p2, .int rdm, .int rdb, .int stt, .int (nI n), .int bar, .int hrs, .int crd, .ref p3, .ref p4, .ref p5, .ref p6, .ref p7, .int tof, .int tmu, .ref p8, .ref p9, .int (nI bd), .ref p10, .int snm, .ref p11, .ref p12, .ref p13, .int sdn, .int kcs, .int khr, .int ksn, .ref p14, .ref p15, .ref p16, .ref p17, .long hlg])), (p3, .inl (cI, 5, .inl K)), (p4, .inl (cI, 5, .inl F)), (p5, .inl (cI, 5, .inl w)), (p6, .inl (cI, 5, .inl (ro ρ))), (p8, .inl (cI, 5, .inl sw)), (p9, .inl (cI, 5, .inl ss)), (p10, .inl (cI, 5, .inl f0))]) C h (c_X8_lacks l D cI cZ kS vS p0 p1 p2 p3 p4 p5 p6 p7 p8 p9 p10 p11 p12 p13 p14 p15 p16 p17 n pgm rdm rdb stt bar hrs crd tof tmu (nI bd) snm sdn kcs khr ksn hlg hn5) wv_X8_lacks rfl ⟨rfl, rfl, rfl, rfl, by decide⟩ fk8 0 rfl ml_RX8_162 [7, 0, 1, 2, 3, 4, 5, 6] rfl (fun _ => rfl) ⟨Nat.le_of_ble_eq_true rfl, Nat.le_of_ble_eq_true rfl⟩ ⟨Nat.le_of_ble_eq_true rfl, Nat.le_of_ble_eq_true rfl⟩ (Nat.le_of_ble_eq_true rfl) hl rfl dX8_best_22 (fun r u H locs hq h => ?_)
    have h : HS D A s H locs [(p0, .inr (8, [.ref p1, .int pgm, .ref p2, .int rdm, .int rdb, .int stt, .int (nI n), .int bar, .int hrs, .int crd, .ref p3, .ref p4, .ref p5, .ref p6, .ref p7, .int tof, .int tmu, .ref p8, .ref p9, .int (nI bd), .ref p10, .int snm, .ref p11, .ref p12, .ref p13, .int sdn, .int kcs, .int khr, .int ksn, .ref p14, .ref p15, .ref p16, .ref p17, .long hlg])), (p3, .inl (cI, 5, .inl K)), (p4, .inl (cI, 5, .inl F)), (p5, .inl (cI, 5, .inl w)), (p6, .inl (cI, 5, .inl (ro ρ))), (p8, .inl (cI, 5, .inl sw)), (p9, .inl (cI, 5, .inl ss)), (p10, .inl (cI, 5, .inl f0))] := h
    have hq : r = bI (decide (n = 0)) := hq
    have hq := hq.symm
    subst hq
    refine lv_if_ne (tgt := 37) hx hb dX8_best_25 (by decide) (fun c_25 => ?_) (fun c_25 => ?_)
    · skip
      have hb_25 : (decide (n = 0)) = true := bI_n0.mp c_25
      have eD : (!decide (n = 0)) = false := nt_t hb_25
      refine lv_bipush (v := (-103)) hx hb dX8_best_37 (by decide) ?_
      have ef : (nI bd) = (nI (bf (bsd n bd x) (bd + 1) bd)) := by rw [bf_f (bsd_f2 eD)] <;> rfl
      have h := HS.cg (ws' := [(p0, .inr (8, [.ref p1, .int pgm, .ref p2, .int rdm, .int rdb, .int stt, .int (nI n), .int bar, .int hrs, .int crd, .ref p3, .ref p4, .ref p5, .ref p6, .ref p7, .int tof, .int tmu, .ref p8, .ref p9, .int (nI (bf (bsd n bd x) (bd + 1) bd)), .ref p10, .int snm, .ref p11, .ref p12, .ref p13, .int sdn, .int kcs, .int khr, .int ksn, .ref p14, .ref p15, .ref p16, .ref p17, .long hlg])), (p3, .inl (cI, 5, .inl K)), (p4, .inl (cI, 5, .inl F)), (p5, .inl (cI, 5, .inl w)), (p6, .inl (cI, 5, .inl (ro ρ))), (p8, .inl (cI, 5, .inl sw)), (p9, .inl (cI, 5, .inl ss)), (p10, .inl (cI, 5, .inl f0))]) h (by rw [← ef] <;> rfl)
      exact hret (r := (-103)) (⟨tof, tmu, sw, ss, f0⟩) dX8_best_39 h (rfl) (by rw [bf_t (bsk_0 c_1), bf_f eD])
    · skip
      have hb_25 : (decide (n = 0)) = false := bI_0.mp c_25
      have eD : (!decide (n = 0)) = true := nt_f hb_25
      have hn0 := isr_n eD
      have hn2 : 2 ≤ n := by omega
      have hv0 := hvz hn2
      refine lv_aload_n hx hb dX8_best_28 rfl (lv_at hl 0 rfl) ?_
      refine r_get C h fk8 0 19 rfl (by decide) mf_RX8_186 rfl dX8_best_29 ?_
      refine lv_bipush (v := 30) hx hb dX8_best_32 (by decide) ?_
      refine lv_icmp_ne (tgt := 40) hx hb dX8_best_34 (by decide) (fun c_34 => ?_) (fun c_34 => ?_)
      · skip
        have c_34 : ¬ bd = 30 := fun z => c_34 ((jeq (a := bd) (b := 30) (by omega) (by omega)).mpr z)
        have e30 : decide (bd < 30) = true := decide_eq_true (by omega)
        refine lv_aload_n hx hb dX8_best_40 rfl (lv_at hl 0 rfl) ?_
        refine lv_dup hx hb dX8_best_41 rfl ?_
        refine r_get C h fk8 0 19 rfl (by decide) mf_RX8_186 rfl dX8_best_42 ?_
        refine lv_iconst (v := 1) hx hb dX8_best_45 (by decide) ?_
        refine lv_iadd hx hb dX8_best_46 ?_
        refine r_top (y := nI (bd + 1)) (nI_add bd 1) ?_
        refine r_put C h fk8 0 19 rfl (by decide) mf_RX8_186 rfl (rfl) rfl (Nat.le_of_ble_eq_true rfl) (ws' := [(p0, .inr (8, [.ref p1, .int pgm, .ref p2, .int rdm, .int rdb, .int stt, .int (nI n), .int bar, .int hrs, .int crd, .ref p3, .ref p4, .ref p5, .ref p6, .ref p7, .int tof, .int tmu, .ref p8, .ref p9, .int (nI (bd + 1)), .ref p10, .int snm, .ref p11, .ref p12, .ref p13, .int sdn, .int kcs, .int khr, .int ksn, .ref p14, .ref p15, .ref p16, .ref p17, .long hlg])), (p3, .inl (cI, 5, .inl K)), (p4, .inl (cI, 5, .inl F)), (p5, .inl (cI, 5, .inl w)), (p6, .inl (cI, 5, .inl (ro ρ))), (p8, .inl (cI, 5, .inl sw)), (p9, .inl (cI, 5, .inl ss)), (p10, .inl (cI, 5, .inl f0))]) rfl dX8_best_47 (fun H locs h => ?_)
        refine lv_aload_n hx hb dX8_best_50 rfl (lv_at hl 0 rfl) ?_
        refine k_Vi (rest := []) (as := []) (wc := [(p0, .inr (8, [.ref p1, .int pgm, .ref p2, .int rdm, .int rdb, .int stt, .int (nI n), .int bar, .int hrs, .int crd, .ref p3, .ref p4, .ref p5, .ref p6, .ref p7, .int tof, .int tmu, .ref p8, .ref p9, .int (nI (bd + 1)), .ref p10, .int snm, .ref p11, .ref p12, .ref p13, .int sdn, .int kcs, .int khr, .int ksn, .ref p14, .ref p15, .ref p16, .ref p17, .long hlg])), (p3, .inl (cI, 5, .inl K)), (p4, .inl (cI, 5, .inl F)), (p5, .inl (cI, 5, .inl w)), (p6, .inl (cI, 5, .inl (ro ρ))), (p8, .inl (cI, 5, .inl sw)), (p9, .inl (cI, 5, .inl ss)), (p10, .inl (cI, 5, .inl f0))]) (wr := []) (isC := [0, 1, 2, 3, 4, 5, 6, 7]) (isR := []) (w2 := fun (u : Int32 × Int32 × (Nat → Int32)) => [(p0, .inr (8, [.ref p1, .int pgm, .ref p2, .int rdm, .int rdb, .int stt, .int (nI n), .int bar, .int hrs, .int crd, .ref p3, .ref p4, .ref p5, .ref p6, .ref p7, .int u.1, .int u.2.1, .ref p8, .ref p9, .int (nI (bd + 1)), .ref p10, .int snm, .ref p11, .ref p12, .ref p13, .int sdn, .int kcs, .int khr, .int ksn, .ref p14, .ref p15, .ref p16, .ref p17, .long hlg])), (p3, .inl (cI, 5, .inl K)), (p4, .inl (cI, 5, .inl F)), (p5, .inl (cI, 5, .inl w)), (p6, .inl (cI, 5, .inl (ro ρ))), (p8, .inl (cI, 5, .inl w)), (p9, .inl (cI, 5, .inl (ro ρ))), (p10, .inl (cI, 5, .inl u.2.2))]) C h (c_X8_layBest l D cI cZ kS vS p0 p1 p2 p3 p4 p5 p6 p7 p8 p9 p10 p11 p12 p13 p14 p15 p16 p17 n pgm rdm rdb stt bar hrs crd tof tmu (nI (bd + 1)) snm sdn kcs khr ksn hlg w ρ K F sw ss f0 hn2 hn5 hK hv0) wv_X8_layBest rfl ⟨rfl, rfl, rfl, rfl, by decide⟩ fk8 0 rfl ml_RX8_189 [0, 1, 2, 3, 4, 5, 6, 7] rfl (fun _ => rfl) ⟨Nat.le_of_ble_eq_true rfl, Nat.le_of_ble_eq_true rfl⟩ ⟨Nat.le_of_ble_eq_true rfl, Nat.le_of_ble_eq_true rfl⟩ (Nat.le_of_ble_eq_true rfl) hl rfl dX8_best_51 (fun r u H locs hq h => ?_)
        obtain ⟨uo51, um51, uf51⟩ := u
        have h : HS D A s H locs [(p0, .inr (8, [.ref p1, .int pgm, .ref p2, .int rdm, .int rdb, .int stt, .int (nI n), .int bar, .int hrs, .int crd, .ref p3, .ref p4, .ref p5, .ref p6, .ref p7, .int uo51, .int um51, .ref p8, .ref p9, .int (nI (bd + 1)), .ref p10, .int snm, .ref p11, .ref p12, .ref p13, .int sdn, .int kcs, .int khr, .int ksn, .ref p14, .ref p15, .ref p16, .ref p17, .long hlg])), (p3, .inl (cI, 5, .inl K)), (p4, .inl (cI, 5, .inl F)), (p5, .inl (cI, 5, .inl w)), (p6, .inl (cI, 5, .inl (ro ρ))), (p8, .inl (cI, 5, .inl w)), (p9, .inl (cI, 5, .inl (ro ρ))), (p10, .inl (cI, 5, .inl uf51))] := h
        have hq : r = (cst (hvl n K F bar w) (PL n) ((PL n).length - 1)).1 ∧ (∀ j, j < n → uf51 j = nI (lg (cst (hvl n K F bar w) (PL n) ((PL n).length - 1)).2 j)) := hq
        obtain ⟨hr51, hq51⟩ := hq
        have hr51 := hr51.symm
        subst hr51
        have hqf := hq51
        refine lv_istore_n (lv' := [(2, .int (cst (hvl n K F bar w) (PL n) ((PL n).length - 1)).1), (0, .ref p0), (1, .int x)]) hx hb dX8_best_54 rfl hl (by decide) rfl (fun ls hl => ?_)
        refine lv_iload_n hx hb dX8_best_55 rfl (lv_at hl 2 rfl) ?_
        refine lv_if_ne (tgt := 63) hx hb dX8_best_56 (by decide) (fun c_56 => ?_) (fun c_56 => ?_)
        · skip
          exact absurd c_1 c_56
        · skip
          refine lv_iload_n hx hb dX8_best_59 rfl (lv_at hl 0 rfl) ?_
          refine lv_goto (tgt := 87) hx hb dX8_best_60 (by decide) ?_
          have ef : (nI (bd + 1)) = (nI (bf (bsd n bd x) (bd + 1) bd)) := by rw [bf_t (bsd_t (bsk_0 c_1) eD e30)] <;> rfl
          have h := HS.cg (ws' := [(p0, .inr (8, [.ref p1, .int pgm, .ref p2, .int rdm, .int rdb, .int stt, .int (nI n), .int bar, .int hrs, .int crd, .ref p3, .ref p4, .ref p5, .ref p6, .ref p7, .int uo51, .int um51, .ref p8, .ref p9, .int (nI (bf (bsd n bd x) (bd + 1) bd)), .ref p10, .int snm, .ref p11, .ref p12, .ref p13, .int sdn, .int kcs, .int khr, .int ksn, .ref p14, .ref p15, .ref p16, .ref p17, .long hlg])), (p3, .inl (cI, 5, .inl K)), (p4, .inl (cI, 5, .inl F)), (p5, .inl (cI, 5, .inl w)), (p6, .inl (cI, 5, .inl (ro ρ))), (p8, .inl (cI, 5, .inl w)), (p9, .inl (cI, 5, .inl (ro ρ))), (p10, .inl (cI, 5, .inl uf51))]) h (by rw [← ef] <;> rfl)
          exact hret (r := (cst (hvl n K F bar w) (PL n) ((PL n).length - 1)).1) (⟨uo51, um51, w, ro ρ, uf51⟩) dX8_best_87 h (rfl) (by rw [bf_t (bsk_0 c_1), bf_t eD, bf_t e30, bf_t (decide_eq_true c_1)])
      · skip
        have c_34 := (jeq (a := bd) (b := 30) (by omega) (by omega)).mp c_34
        have e30 : decide (bd < 30) = false := decide_eq_false (by omega)
        refine lv_bipush (v := (-103)) hx hb dX8_best_37 (by decide) ?_
        have ef : (nI bd) = (nI (bf (bsd n bd x) (bd + 1) bd)) := by rw [bf_f (bsd_f3 e30)] <;> rfl
        have h := HS.cg (ws' := [(p0, .inr (8, [.ref p1, .int pgm, .ref p2, .int rdm, .int rdb, .int stt, .int (nI n), .int bar, .int hrs, .int crd, .ref p3, .ref p4, .ref p5, .ref p6, .ref p7, .int tof, .int tmu, .ref p8, .ref p9, .int (nI (bf (bsd n bd x) (bd + 1) bd)), .ref p10, .int snm, .ref p11, .ref p12, .ref p13, .int sdn, .int kcs, .int khr, .int ksn, .ref p14, .ref p15, .ref p16, .ref p17, .long hlg])), (p3, .inl (cI, 5, .inl K)), (p4, .inl (cI, 5, .inl F)), (p5, .inl (cI, 5, .inl w)), (p6, .inl (cI, 5, .inl (ro ρ))), (p8, .inl (cI, 5, .inl sw)), (p9, .inl (cI, 5, .inl ss)), (p10, .inl (cI, 5, .inl f0))]) h (by rw [← ef] <;> rfl)
        exact hret (r := (-103)) (⟨tof, tmu, sw, ss, f0⟩) dX8_best_39 h (rfl) (by rw [bf_t (bsk_0 c_1), bf_t eD, bf_f e30])
  · skip
    refine lv_iload_n hx hb dX8_best_4 rfl (lv_at hl 1 rfl) ?_
    refine lv_i2l hx hb dX8_best_5 rfl ?_
    refine lv_ldc2 (v := 10) hx hb C.1.2.2.2.1 (C.1.2.2.2.2 _ mq_RX8_182) dX8_best_6 ?_
    refine lv_ldc2 (v := 14) hx hb C.1.2.2.2.1 (C.1.2.2.2.2 _ mq_RX8_184) dX8_best_9 ?_
    refine k_Si (rest := []) (as := [.long (Int32.toInt64 x), .long 10, .long 14]) (wc := []) (wr := [(p0, .inr (8, [.ref p1, .int pgm, .ref p2, .int rdm, .int rdb, .int stt, .int (nI n), .int bar, .int hrs, .int crd, .ref p3, .ref p4, .ref p5, .ref p6, .ref p7, .int tof, .int tmu, .ref p8, .ref p9, .int (nI bd), .ref p10, .int snm, .ref p11, .ref p12, .ref p13, .int sdn, .int kcs, .int khr, .int ksn, .ref p14, .ref p15, .ref p16, .ref p17, .long hlg])), (p3, .inl (cI, 5, .inl K)), (p4, .inl (cI, 5, .inl F)), (p5, .inl (cI, 5, .inl w)), (p6, .inl (cI, 5, .inl (ro ρ))), (p8, .inl (cI, 5, .inl sw)), (p9, .inl (cI, 5, .inl ss)), (p10, .inl (cI, 5, .inl f0))]) (isC := []) (isR := [0, 1, 2, 3, 4, 5, 6, 7]) (w2 := fun (_ : Unit) => [(p0, .inr (8, [.ref p1, .int pgm, .ref p2, .int rdm, .int rdb, .int stt, .int (nI n), .int bar, .int hrs, .int crd, .ref p3, .ref p4, .ref p5, .ref p6, .ref p7, .int tof, .int tmu, .ref p8, .ref p9, .int (nI bd), .ref p10, .int snm, .ref p11, .ref p12, .ref p13, .int sdn, .int kcs, .int khr, .int ksn, .ref p14, .ref p15, .ref p16, .ref p17, .long hlg])), (p3, .inl (cI, 5, .inl K)), (p4, .inl (cI, 5, .inl F)), (p5, .inl (cI, 5, .inl w)), (p6, .inl (cI, 5, .inl (ro ρ))), (p8, .inl (cI, 5, .inl sw)), (p9, .inl (cI, 5, .inl ss)), (p10, .inl (cI, 5, .inl f0))]) C h (c_X8_in l D cI cZ kS vS (Int32.toInt64 x) 10 14 ) wv_X8_in rfl ⟨rfl, rfl, rfl, rfl, by decide⟩ ml_RX8_67 [0, 1, 2, 3, 4, 5, 6, 7] rfl (fun _ => rfl) ⟨Nat.le_of_ble_eq_true rfl, Nat.le_of_ble_eq_true rfl⟩ ⟨Nat.le_of_ble_eq_true rfl, Nat.le_of_ble_eq_true rfl⟩ (Nat.le_of_ble_eq_true rfl) hl rfl dX8_best_12 (fun r u H locs hq h => ?_)
    have h : HS D A s H locs [(p0, .inr (8, [.ref p1, .int pgm, .ref p2, .int rdm, .int rdb, .int stt, .int (nI n), .int bar, .int hrs, .int crd, .ref p3, .ref p4, .ref p5, .ref p6, .ref p7, .int tof, .int tmu, .ref p8, .ref p9, .int (nI bd), .ref p10, .int snm, .ref p11, .ref p12, .ref p13, .int sdn, .int kcs, .int khr, .int ksn, .ref p14, .ref p15, .ref p16, .ref p17, .long hlg])), (p3, .inl (cI, 5, .inl K)), (p4, .inl (cI, 5, .inl F)), (p5, .inl (cI, 5, .inl w)), (p6, .inl (cI, 5, .inl (ro ρ))), (p8, .inl (cI, 5, .inl sw)), (p9, .inl (cI, 5, .inl ss)), (p10, .inl (cI, 5, .inl f0))] := h
    have hq : r = bI (lin (Int32.toInt64 x) 10 14) := hq
    have hq := hq.symm
    subst hq
    refine r_top (y := bI (wth x 10 14)) (congrArg bI (lin_w x (by decide) (by decide))) ?_
    refine lv_if_ne (tgt := 21) hx hb dX8_best_15 (by decide) (fun c_15 => ?_) (fun c_15 => ?_)
    · skip
      have hb_15 : (wth x 10 14) = true := bI_n0.mp c_15
      refine lv_aload_n hx hb dX8_best_21 rfl (lv_at hl 0 rfl) ?_
      refine k_Vi (rest := []) (as := []) (wc := [(p0, .inr (8, [.ref p1, .int pgm, .ref p2, .int rdm, .int rdb, .int stt, .int (nI n), .int bar, .int hrs, .int crd, .ref p3, .ref p4, .ref p5, .ref p6, .ref p7, .int tof, .int tmu, .ref p8, .ref p9, .int (nI bd), .ref p10, .int snm, .ref p11, .ref p12, .ref p13, .int sdn, .int kcs, .int khr, .int ksn, .ref p14, .ref p15, .ref p16, .ref p17, .long hlg]))]) (wr := [(p3, .inl (cI, 5, .inl K)), (p4, .inl (cI, 5, .inl F)), (p5, .inl (cI, 5, .inl w)), (p6, .inl (cI, 5, .inl (ro ρ))), (p8, .inl (cI, 5, .inl sw)), (p9, .inl (cI, 5, .inl ss)), (p10, .inl (cI, 5, .inl f0))]) (isC := [0]) (isR := [1, 2, 3, 4, 5, 6, 7]) (w2 := fun (_ : Unit) => [(p0, .inr (8, [.ref p1, .int pgm, .ref p2, .int rdm, .int rdb, .int stt, .int (nI n), .int bar, .int hrs, .int crd, .ref p3, .ref p4, .ref p5, .ref p6, .ref p7, .int tof, .int tmu, .ref p8, .ref p9, .int (nI bd), .ref p10, .int snm, .ref p11, .ref p12, .ref p13, .int sdn, .int kcs, .int khr, .int ksn, .ref p14, .ref p15, .ref p16, .ref p17, .long hlg])), (p3, .inl (cI, 5, .inl K)), (p4, .inl (cI, 5, .inl F)), (p5, .inl (cI, 5, .inl w)), (p6, .inl (cI, 5, .inl (ro ρ))), (p8, .inl (cI, 5, .inl sw)), (p9, .inl (cI, 5, .inl ss)), (p10, .inl (cI, 5, .inl f0))]) C h (c_X8_lacks l D cI cZ kS vS p0 p1 p2 p3 p4 p5 p6 p7 p8 p9 p10 p11 p12 p13 p14 p15 p16 p17 n pgm rdm rdb stt bar hrs crd tof tmu (nI bd) snm sdn kcs khr ksn hlg hn5) wv_X8_lacks rfl ⟨rfl, rfl, rfl, rfl, by decide⟩ fk8 0 rfl ml_RX8_162 [7, 0, 1, 2, 3, 4, 5, 6] rfl (fun _ => rfl) ⟨Nat.le_of_ble_eq_true rfl, Nat.le_of_ble_eq_true rfl⟩ ⟨Nat.le_of_ble_eq_true rfl, Nat.le_of_ble_eq_true rfl⟩ (Nat.le_of_ble_eq_true rfl) hl rfl dX8_best_22 (fun r u H locs hq h => ?_)
      have h : HS D A s H locs [(p0, .inr (8, [.ref p1, .int pgm, .ref p2, .int rdm, .int rdb, .int stt, .int (nI n), .int bar, .int hrs, .int crd, .ref p3, .ref p4, .ref p5, .ref p6, .ref p7, .int tof, .int tmu, .ref p8, .ref p9, .int (nI bd), .ref p10, .int snm, .ref p11, .ref p12, .ref p13, .int sdn, .int kcs, .int khr, .int ksn, .ref p14, .ref p15, .ref p16, .ref p17, .long hlg])), (p3, .inl (cI, 5, .inl K)), (p4, .inl (cI, 5, .inl F)), (p5, .inl (cI, 5, .inl w)), (p6, .inl (cI, 5, .inl (ro ρ))), (p8, .inl (cI, 5, .inl sw)), (p9, .inl (cI, 5, .inl ss)), (p10, .inl (cI, 5, .inl f0))] := h
      have hq : r = bI (decide (n = 0)) := hq
      have hq := hq.symm
      subst hq
      refine lv_if_ne (tgt := 37) hx hb dX8_best_25 (by decide) (fun c_25 => ?_) (fun c_25 => ?_)
      · skip
        have hb_25 : (decide (n = 0)) = true := bI_n0.mp c_25
        have eD : (!decide (n = 0)) = false := nt_t hb_25
        refine lv_bipush (v := (-103)) hx hb dX8_best_37 (by decide) ?_
        have ef : (nI bd) = (nI (bf (bsd n bd x) (bd + 1) bd)) := by rw [bf_f (bsd_f2 eD)] <;> rfl
        have h := HS.cg (ws' := [(p0, .inr (8, [.ref p1, .int pgm, .ref p2, .int rdm, .int rdb, .int stt, .int (nI n), .int bar, .int hrs, .int crd, .ref p3, .ref p4, .ref p5, .ref p6, .ref p7, .int tof, .int tmu, .ref p8, .ref p9, .int (nI (bf (bsd n bd x) (bd + 1) bd)), .ref p10, .int snm, .ref p11, .ref p12, .ref p13, .int sdn, .int kcs, .int khr, .int ksn, .ref p14, .ref p15, .ref p16, .ref p17, .long hlg])), (p3, .inl (cI, 5, .inl K)), (p4, .inl (cI, 5, .inl F)), (p5, .inl (cI, 5, .inl w)), (p6, .inl (cI, 5, .inl (ro ρ))), (p8, .inl (cI, 5, .inl sw)), (p9, .inl (cI, 5, .inl ss)), (p10, .inl (cI, 5, .inl f0))]) h (by rw [← ef] <;> rfl)
        exact hret (r := (-103)) (⟨tof, tmu, sw, ss, f0⟩) dX8_best_39 h (rfl) (by rw [bf_t (bsk_w (ew.symm.trans hb_15)), bf_f eD])
      · skip
        have hb_25 : (decide (n = 0)) = false := bI_0.mp c_25
        have eD : (!decide (n = 0)) = true := nt_f hb_25
        have hn0 := isr_n eD
        have hn2 : 2 ≤ n := by omega
        have hv0 := hvz hn2
        refine lv_aload_n hx hb dX8_best_28 rfl (lv_at hl 0 rfl) ?_
        refine r_get C h fk8 0 19 rfl (by decide) mf_RX8_186 rfl dX8_best_29 ?_
        refine lv_bipush (v := 30) hx hb dX8_best_32 (by decide) ?_
        refine lv_icmp_ne (tgt := 40) hx hb dX8_best_34 (by decide) (fun c_34 => ?_) (fun c_34 => ?_)
        · skip
          have c_34 : ¬ bd = 30 := fun z => c_34 ((jeq (a := bd) (b := 30) (by omega) (by omega)).mpr z)
          have e30 : decide (bd < 30) = true := decide_eq_true (by omega)
          refine lv_aload_n hx hb dX8_best_40 rfl (lv_at hl 0 rfl) ?_
          refine lv_dup hx hb dX8_best_41 rfl ?_
          refine r_get C h fk8 0 19 rfl (by decide) mf_RX8_186 rfl dX8_best_42 ?_
          refine lv_iconst (v := 1) hx hb dX8_best_45 (by decide) ?_
          refine lv_iadd hx hb dX8_best_46 ?_
          refine r_top (y := nI (bd + 1)) (nI_add bd 1) ?_
          refine r_put C h fk8 0 19 rfl (by decide) mf_RX8_186 rfl (rfl) rfl (Nat.le_of_ble_eq_true rfl) (ws' := [(p0, .inr (8, [.ref p1, .int pgm, .ref p2, .int rdm, .int rdb, .int stt, .int (nI n), .int bar, .int hrs, .int crd, .ref p3, .ref p4, .ref p5, .ref p6, .ref p7, .int tof, .int tmu, .ref p8, .ref p9, .int (nI (bd + 1)), .ref p10, .int snm, .ref p11, .ref p12, .ref p13, .int sdn, .int kcs, .int khr, .int ksn, .ref p14, .ref p15, .ref p16, .ref p17, .long hlg])), (p3, .inl (cI, 5, .inl K)), (p4, .inl (cI, 5, .inl F)), (p5, .inl (cI, 5, .inl w)), (p6, .inl (cI, 5, .inl (ro ρ))), (p8, .inl (cI, 5, .inl sw)), (p9, .inl (cI, 5, .inl ss)), (p10, .inl (cI, 5, .inl f0))]) rfl dX8_best_47 (fun H locs h => ?_)
          refine lv_aload_n hx hb dX8_best_50 rfl (lv_at hl 0 rfl) ?_
          refine k_Vi (rest := []) (as := []) (wc := [(p0, .inr (8, [.ref p1, .int pgm, .ref p2, .int rdm, .int rdb, .int stt, .int (nI n), .int bar, .int hrs, .int crd, .ref p3, .ref p4, .ref p5, .ref p6, .ref p7, .int tof, .int tmu, .ref p8, .ref p9, .int (nI (bd + 1)), .ref p10, .int snm, .ref p11, .ref p12, .ref p13, .int sdn, .int kcs, .int khr, .int ksn, .ref p14, .ref p15, .ref p16, .ref p17, .long hlg])), (p3, .inl (cI, 5, .inl K)), (p4, .inl (cI, 5, .inl F)), (p5, .inl (cI, 5, .inl w)), (p6, .inl (cI, 5, .inl (ro ρ))), (p8, .inl (cI, 5, .inl sw)), (p9, .inl (cI, 5, .inl ss)), (p10, .inl (cI, 5, .inl f0))]) (wr := []) (isC := [0, 1, 2, 3, 4, 5, 6, 7]) (isR := []) (w2 := fun (u : Int32 × Int32 × (Nat → Int32)) => [(p0, .inr (8, [.ref p1, .int pgm, .ref p2, .int rdm, .int rdb, .int stt, .int (nI n), .int bar, .int hrs, .int crd, .ref p3, .ref p4, .ref p5, .ref p6, .ref p7, .int u.1, .int u.2.1, .ref p8, .ref p9, .int (nI (bd + 1)), .ref p10, .int snm, .ref p11, .ref p12, .ref p13, .int sdn, .int kcs, .int khr, .int ksn, .ref p14, .ref p15, .ref p16, .ref p17, .long hlg])), (p3, .inl (cI, 5, .inl K)), (p4, .inl (cI, 5, .inl F)), (p5, .inl (cI, 5, .inl w)), (p6, .inl (cI, 5, .inl (ro ρ))), (p8, .inl (cI, 5, .inl w)), (p9, .inl (cI, 5, .inl (ro ρ))), (p10, .inl (cI, 5, .inl u.2.2))]) C h (c_X8_layBest l D cI cZ kS vS p0 p1 p2 p3 p4 p5 p6 p7 p8 p9 p10 p11 p12 p13 p14 p15 p16 p17 n pgm rdm rdb stt bar hrs crd tof tmu (nI (bd + 1)) snm sdn kcs khr ksn hlg w ρ K F sw ss f0 hn2 hn5 hK hv0) wv_X8_layBest rfl ⟨rfl, rfl, rfl, rfl, by decide⟩ fk8 0 rfl ml_RX8_189 [0, 1, 2, 3, 4, 5, 6, 7] rfl (fun _ => rfl) ⟨Nat.le_of_ble_eq_true rfl, Nat.le_of_ble_eq_true rfl⟩ ⟨Nat.le_of_ble_eq_true rfl, Nat.le_of_ble_eq_true rfl⟩ (Nat.le_of_ble_eq_true rfl) hl rfl dX8_best_51 (fun r u H locs hq h => ?_)
          obtain ⟨uo51_2, um51_2, uf51_2⟩ := u
          have h : HS D A s H locs [(p0, .inr (8, [.ref p1, .int pgm, .ref p2, .int rdm, .int rdb, .int stt, .int (nI n), .int bar, .int hrs, .int crd, .ref p3, .ref p4, .ref p5, .ref p6, .ref p7, .int uo51_2, .int um51_2, .ref p8, .ref p9, .int (nI (bd + 1)), .ref p10, .int snm, .ref p11, .ref p12, .ref p13, .int sdn, .int kcs, .int khr, .int ksn, .ref p14, .ref p15, .ref p16, .ref p17, .long hlg])), (p3, .inl (cI, 5, .inl K)), (p4, .inl (cI, 5, .inl F)), (p5, .inl (cI, 5, .inl w)), (p6, .inl (cI, 5, .inl (ro ρ))), (p8, .inl (cI, 5, .inl w)), (p9, .inl (cI, 5, .inl (ro ρ))), (p10, .inl (cI, 5, .inl uf51_2))] := h
          have hq : r = (cst (hvl n K F bar w) (PL n) ((PL n).length - 1)).1 ∧ (∀ j, j < n → uf51_2 j = nI (lg (cst (hvl n K F bar w) (PL n) ((PL n).length - 1)).2 j)) := hq
          obtain ⟨hr51, hq51⟩ := hq
          have hr51 := hr51.symm
          subst hr51
          have hqf := hq51
          refine lv_istore_n (lv' := [(2, .int (cst (hvl n K F bar w) (PL n) ((PL n).length - 1)).1), (0, .ref p0), (1, .int x)]) hx hb dX8_best_54 rfl hl (by decide) rfl (fun ls hl => ?_)
          refine lv_iload_n hx hb dX8_best_55 rfl (lv_at hl 2 rfl) ?_
          refine lv_if_ne (tgt := 63) hx hb dX8_best_56 (by decide) (fun c_56 => ?_) (fun c_56 => ?_)
          · skip
            obtain ⟨xk, hxk1, hxk2, rfl⟩ := wth_of (lo := 10) (hi := 14) hb_15 (by decide) (by decide)
            have ex10 : nI xk - 10 = nI (xk - 10) := pk_sub (a := xk) (b := 10) hxk1
            refine lv_iload_n hx hb dX8_best_63 rfl (lv_at hl 2 rfl) ?_
            refine lv_bipush (v := 10) hx hb dX8_best_64 (by decide) ?_
            refine lv_isub hx hb dX8_best_66 ?_
            refine r_top (y := nI (xk - 10)) (pk_sub (a := xk) (b := 10) (by omega)) ?_
            refine lv_aload_n hx hb dX8_best_67 rfl (lv_at hl 1 rfl) ?_
            refine r_get C h fk8 0 6 rfl (by decide) mf_RX8_99 rfl dX8_best_68 ?_
            refine lv_icmp_ge (tgt := 86) hx hb dX8_best_71 (by decide) (fun c_71 => ?_) (fun c_71 => ?_)
            · skip
              have c_71 := (jle (a := n) (b := (xk - 10)) (by omega) (by omega)).mp c_71
              refine lv_iconst (v := (-1)) hx hb dX8_best_86 (by decide) ?_
              have ef : (nI (bd + 1)) = (nI (bf (bsd n bd (nI xk)) (bd + 1) bd)) := by rw [bf_t (bsd_t (bsk_w (ew.symm.trans hb_15)) eD e30)] <;> rfl
              have h := HS.cg (ws' := [(p0, .inr (8, [.ref p1, .int pgm, .ref p2, .int rdm, .int rdb, .int stt, .int (nI n), .int bar, .int hrs, .int crd, .ref p3, .ref p4, .ref p5, .ref p6, .ref p7, .int uo51_2, .int um51_2, .ref p8, .ref p9, .int (nI (bf (bsd n bd (nI xk)) (bd + 1) bd)), .ref p10, .int snm, .ref p11, .ref p12, .ref p13, .int sdn, .int kcs, .int khr, .int ksn, .ref p14, .ref p15, .ref p16, .ref p17, .long hlg])), (p3, .inl (cI, 5, .inl K)), (p4, .inl (cI, 5, .inl F)), (p5, .inl (cI, 5, .inl w)), (p6, .inl (cI, 5, .inl (ro ρ))), (p8, .inl (cI, 5, .inl w)), (p9, .inl (cI, 5, .inl (ro ρ))), (p10, .inl (cI, 5, .inl uf51_2))]) h (by rw [← ef] <;> rfl)
              exact hret (r := (-1)) (⟨uo51_2, um51_2, w, ro ρ, uf51_2⟩) dX8_best_87 h (rfl) (by rw [bf_t (bsk_w (ew.symm.trans hb_15)), bf_t eD, bf_t e30, bf_f (decide_eq_false c_1), ex10, bf_f (hin_f c_71 (by omega))])
            · skip
              have c_71 : ¬ n ≤ (xk - 10) := fun z => c_71 ((jle (a := n) (b := (xk - 10)) (by omega) (by omega)).mpr z)
              refine lv_aload_n hx hb dX8_best_74 rfl (lv_at hl 1 rfl) ?_
              refine r_get C h fk8 0 20 rfl (by decide) mf_RX8_37 rfl dX8_best_75 ?_
              refine lv_iload_n hx hb dX8_best_78 rfl (lv_at hl 2 rfl) ?_
              refine lv_bipush (v := 10) hx hb dX8_best_79 (by decide) ?_
              refine lv_isub hx hb dX8_best_81 ?_
              refine r_top (y := nI (xk - 10)) (pk_sub (a := xk) (b := 10) (by omega)) ?_
              refine r_ld C h 7 rfl (xk - 10) (rfl) (by omega) (by decide) (x := uf51_2 (xk - 10)) (rfl) dX8_best_82 ?_
              refine lv_goto (tgt := 87) hx hb dX8_best_83 (by decide) ?_
              have ef : (nI (bd + 1)) = (nI (bf (bsd n bd (nI xk)) (bd + 1) bd)) := by rw [bf_t (bsd_t (bsk_w (ew.symm.trans hb_15)) eD e30)] <;> rfl
              have h := HS.cg (ws' := [(p0, .inr (8, [.ref p1, .int pgm, .ref p2, .int rdm, .int rdb, .int stt, .int (nI n), .int bar, .int hrs, .int crd, .ref p3, .ref p4, .ref p5, .ref p6, .ref p7, .int uo51_2, .int um51_2, .ref p8, .ref p9, .int (nI (bf (bsd n bd (nI xk)) (bd + 1) bd)), .ref p10, .int snm, .ref p11, .ref p12, .ref p13, .int sdn, .int kcs, .int khr, .int ksn, .ref p14, .ref p15, .ref p16, .ref p17, .long hlg])), (p3, .inl (cI, 5, .inl K)), (p4, .inl (cI, 5, .inl F)), (p5, .inl (cI, 5, .inl w)), (p6, .inl (cI, 5, .inl (ro ρ))), (p8, .inl (cI, 5, .inl w)), (p9, .inl (cI, 5, .inl (ro ρ))), (p10, .inl (cI, 5, .inl uf51_2))]) h (by rw [← ef] <;> rfl)
              exact hret (r := uf51_2 (xk - 10)) (⟨uo51_2, um51_2, w, ro ρ, uf51_2⟩) dX8_best_87 h (rfl) (by rw [bf_t (bsk_w (ew.symm.trans hb_15)), bf_t eD, bf_t e30, bf_f (decide_eq_false c_1), ex10, bf_t (hin_nI (by omega) (by omega)), nI_clamp (by omega)]; exact hqf _ (by omega))
          · skip
            exact absurd c_56 c_1
        · skip
          have c_34 := (jeq (a := bd) (b := 30) (by omega) (by omega)).mp c_34
          have e30 : decide (bd < 30) = false := decide_eq_false (by omega)
          refine lv_bipush (v := (-103)) hx hb dX8_best_37 (by decide) ?_
          have ef : (nI bd) = (nI (bf (bsd n bd x) (bd + 1) bd)) := by rw [bf_f (bsd_f3 e30)] <;> rfl
          have h := HS.cg (ws' := [(p0, .inr (8, [.ref p1, .int pgm, .ref p2, .int rdm, .int rdb, .int stt, .int (nI n), .int bar, .int hrs, .int crd, .ref p3, .ref p4, .ref p5, .ref p6, .ref p7, .int tof, .int tmu, .ref p8, .ref p9, .int (nI (bf (bsd n bd x) (bd + 1) bd)), .ref p10, .int snm, .ref p11, .ref p12, .ref p13, .int sdn, .int kcs, .int khr, .int ksn, .ref p14, .ref p15, .ref p16, .ref p17, .long hlg])), (p3, .inl (cI, 5, .inl K)), (p4, .inl (cI, 5, .inl F)), (p5, .inl (cI, 5, .inl w)), (p6, .inl (cI, 5, .inl (ro ρ))), (p8, .inl (cI, 5, .inl sw)), (p9, .inl (cI, 5, .inl ss)), (p10, .inl (cI, 5, .inl f0))]) h (by rw [← ef] <;> rfl)
          exact hret (r := (-103)) (⟨tof, tmu, sw, ss, f0⟩) dX8_best_39 h (rfl) (by rw [bf_t (bsk_w (ew.symm.trans hb_15)), bf_t eD, bf_f e30])
    · skip
      have hb_15 : (wth x 10 14) = false := bI_0.mp c_15
      refine lv_bipush (v := (-102)) hx hb dX8_best_18 (by decide) ?_
      have ef : (nI bd) = (nI (bf (bsd n bd x) (bd + 1) bd)) := by rw [bf_f (bsd_f1 (bsk_f c_1 (ew.symm.trans hb_15)))] <;> rfl
      have h := HS.cg (ws' := [(p0, .inr (8, [.ref p1, .int pgm, .ref p2, .int rdm, .int rdb, .int stt, .int (nI n), .int bar, .int hrs, .int crd, .ref p3, .ref p4, .ref p5, .ref p6, .ref p7, .int tof, .int tmu, .ref p8, .ref p9, .int (nI (bf (bsd n bd x) (bd + 1) bd)), .ref p10, .int snm, .ref p11, .ref p12, .ref p13, .int sdn, .int kcs, .int khr, .int ksn, .ref p14, .ref p15, .ref p16, .ref p17, .long hlg])), (p3, .inl (cI, 5, .inl K)), (p4, .inl (cI, 5, .inl F)), (p5, .inl (cI, 5, .inl w)), (p6, .inl (cI, 5, .inl (ro ρ))), (p8, .inl (cI, 5, .inl sw)), (p9, .inl (cI, 5, .inl ss)), (p10, .inl (cI, 5, .inl f0))]) h (by rw [← ef] <;> rfl)
      exact hret (r := (-102)) (⟨tof, tmu, sw, ss, f0⟩) dX8_best_20 h (rfl) (by rw [bf_f (bsk_f c_1 (ew.symm.trans hb_15))])

set_option maxHeartbeats 4000000 in
set_option maxRecDepth 100000 in
theorem c_X8_see (l : Launch) (D : va_G) (cI cZ : ClassId) (kS vS : Nat) (p0 : Nat) (p1 : Nat) (p2 : Nat) (p3 : Nat) (p4 : Nat) (p5 : Nat) (p6 : Nat) (p7 : Nat) (p8 : Nat) (p9 : Nat) (p10 : Nat) (p11 : Nat) (p12 : Nat) (p13 : Nat) (p14 : Nat) (p15 : Nat) (p16 : Nat) (p17 : Nat) (n : Nat) (pgm : Int32) (rdm : Int32) (rdb : Int32) (stt : Int32) (bar : Int32) (hrs : Int32) (crd : Int32) (tof : Int32) (tmu : Int32) (bdn : Int32) (sdn : Int32) (kcs : Int32) (khr : Int32) (ksn : Int32) (hlg : Int64) (q : Nat) (sh : Nat → Nat) (sr : Nat → Nat) (tb : Nat → Int32) (y : Int32) (x : Int32) (tv : Int32) (hn : n = 0 ∨ (2 ≤ n ∧ n ≤ 5)) (hq6 : q ≤ 6) (htv : tv = 0 ∨ tv = 1) : CI l yX8_see cX8_see 4 .int D cI cZ kS vS 2 46 0 0 [.ref p0, .int y, .int x, .int tv] [(p0, .inr (8, [.ref p1, .int pgm, .ref p2, .int rdm, .int rdb, .int stt, .int (nI n), .int bar, .int hrs, .int crd, .ref p3, .ref p4, .ref p5, .ref p6, .ref p7, .int tof, .int tmu, .ref p8, .ref p9, .int bdn, .ref p10, .int (nI q), .ref p11, .ref p12, .ref p13, .int sdn, .int kcs, .int khr, .int ksn, .ref p14, .ref p15, .ref p16, .ref p17, .long hlg])), (p11, .inl (cI, 18, .inl (sgt sh sr tb)))] (fun (r : Int32) (_ : Unit) => r = bf (wth y 1 12) (bf (hin (nI n) x) (bf (decide (q < 6)) (nI (q + 1)) (-104)) (-101)) (-102)) (fun (_ : Unit) => [(p0, .inr (8, [.ref p1, .int pgm, .ref p2, .int rdm, .int rdb, .int stt, .int (nI n), .int bar, .int hrs, .int crd, .ref p3, .ref p4, .ref p5, .ref p6, .ref p7, .int tof, .int tmu, .ref p8, .ref p9, .int bdn, .ref p10, .int (nI (bf (sek n q y x) (q + 1) q)), .ref p11, .ref p12, .ref p13, .int sdn, .int kcs, .int khr, .int ksn, .ref p14, .ref p15, .ref p16, .ref p17, .long hlg])), (p11, .inl (cI, 18, .inl (sgt (bf (sek n q y x) (un sh q y.toNatClampNeg) sh) (bf (sek n q y x) (un sr q x.toNatClampNeg) sr) (bf (sek n q y x) (upd tb q tv) tb))))]) := by
  refine CI_intro (by decide) (Nat.le_of_ble_eq_true rfl) ?_
  intro p e s m args below meth c A Q ls C h hret hl
  have C : CX p s m args c cX8_see 4 RX8 D cI cZ kS vS A := C
  have hx := C.1.1
  have hb := C.1.2.1
  have hl : lv_has ls 4 [(0, .ref p0), (1, .int y), (2, .int x), (3, .int tv)] := hl
  have hn5 : n ≤ 5 := by omega
  refine lv_iload_n hx hb dX8_see_0 rfl (lv_at hl 1 rfl) ?_
  refine lv_i2l hx hb dX8_see_1 rfl ?_
  refine lv_lconst (v := 1) hx hb dX8_see_2 (by decide) ?_
  refine lv_ldc2 (v := 12) hx hb C.1.2.2.2.1 (C.1.2.2.2.2 _ mq_RX8_192) dX8_see_3 ?_
  refine k_Si (rest := []) (as := [.long (Int32.toInt64 y), .long 1, .long 12]) (wc := []) (wr := [(p0, .inr (8, [.ref p1, .int pgm, .ref p2, .int rdm, .int rdb, .int stt, .int (nI n), .int bar, .int hrs, .int crd, .ref p3, .ref p4, .ref p5, .ref p6, .ref p7, .int tof, .int tmu, .ref p8, .ref p9, .int bdn, .ref p10, .int (nI q), .ref p11, .ref p12, .ref p13, .int sdn, .int kcs, .int khr, .int ksn, .ref p14, .ref p15, .ref p16, .ref p17, .long hlg])), (p11, .inl (cI, 18, .inl (sgt sh sr tb)))]) (isC := []) (isR := [0, 1]) (w2 := fun (_ : Unit) => [(p0, .inr (8, [.ref p1, .int pgm, .ref p2, .int rdm, .int rdb, .int stt, .int (nI n), .int bar, .int hrs, .int crd, .ref p3, .ref p4, .ref p5, .ref p6, .ref p7, .int tof, .int tmu, .ref p8, .ref p9, .int bdn, .ref p10, .int (nI q), .ref p11, .ref p12, .ref p13, .int sdn, .int kcs, .int khr, .int ksn, .ref p14, .ref p15, .ref p16, .ref p17, .long hlg])), (p11, .inl (cI, 18, .inl (sgt sh sr tb)))]) C h (c_X8_in l D cI cZ kS vS (Int32.toInt64 y) 1 12 ) wv_X8_in rfl ⟨rfl, rfl, rfl, rfl, by decide⟩ ml_RX8_67 [0, 1] rfl (fun _ => rfl) ⟨Nat.le_of_ble_eq_true rfl, Nat.le_of_ble_eq_true rfl⟩ ⟨Nat.le_of_ble_eq_true rfl, Nat.le_of_ble_eq_true rfl⟩ (Nat.le_of_ble_eq_true rfl) hl rfl dX8_see_6 (fun r u H locs hq h => ?_)
  have h : HS D A s H locs [(p0, .inr (8, [.ref p1, .int pgm, .ref p2, .int rdm, .int rdb, .int stt, .int (nI n), .int bar, .int hrs, .int crd, .ref p3, .ref p4, .ref p5, .ref p6, .ref p7, .int tof, .int tmu, .ref p8, .ref p9, .int bdn, .ref p10, .int (nI q), .ref p11, .ref p12, .ref p13, .int sdn, .int kcs, .int khr, .int ksn, .ref p14, .ref p15, .ref p16, .ref p17, .long hlg])), (p11, .inl (cI, 18, .inl (sgt sh sr tb)))] := h
  have hq : r = bI (lin (Int32.toInt64 y) 1 12) := hq
  have hq := hq.symm
  subst hq
  refine r_top (y := bI (wth y 1 12)) (congrArg bI (lin_w y (by decide) (by decide))) ?_
  refine lv_if_ne (tgt := 15) hx hb dX8_see_9 (by decide) (fun c_9 => ?_) (fun c_9 => ?_)
  · skip
    have hb_9 : (wth y 1 12) = true := bI_n0.mp c_9
    refine lv_aload_n hx hb dX8_see_15 rfl (lv_at hl 0 rfl) ?_
    refine lv_iload_n hx hb dX8_see_16 rfl (lv_at hl 2 rfl) ?_
    refine k_Vi (rest := []) (as := [.int x]) (wc := [(p0, .inr (8, [.ref p1, .int pgm, .ref p2, .int rdm, .int rdb, .int stt, .int (nI n), .int bar, .int hrs, .int crd, .ref p3, .ref p4, .ref p5, .ref p6, .ref p7, .int tof, .int tmu, .ref p8, .ref p9, .int bdn, .ref p10, .int (nI q), .ref p11, .ref p12, .ref p13, .int sdn, .int kcs, .int khr, .int ksn, .ref p14, .ref p15, .ref p16, .ref p17, .long hlg]))]) (wr := [(p11, .inl (cI, 18, .inl (sgt sh sr tb)))]) (isC := [0]) (isR := [1]) (w2 := fun (_ : Unit) => [(p0, .inr (8, [.ref p1, .int pgm, .ref p2, .int rdm, .int rdb, .int stt, .int (nI n), .int bar, .int hrs, .int crd, .ref p3, .ref p4, .ref p5, .ref p6, .ref p7, .int tof, .int tmu, .ref p8, .ref p9, .int bdn, .ref p10, .int (nI q), .ref p11, .ref p12, .ref p13, .int sdn, .int kcs, .int khr, .int ksn, .ref p14, .ref p15, .ref p16, .ref p17, .long hlg])), (p11, .inl (cI, 18, .inl (sgt sh sr tb)))]) C h (c_X8_isRiver l D cI cZ kS vS p0 p1 p2 p3 p4 p5 p6 p7 p8 p9 p10 p11 p12 p13 p14 p15 p16 p17 n pgm rdm rdb stt bar hrs crd tof tmu bdn (nI q) sdn kcs khr ksn hlg x hn5) wv_X8_isRiver rfl ⟨rfl, rfl, rfl, rfl, by decide⟩ fk8 0 rfl ml_RX8_153 [1, 0] rfl (fun _ => rfl) ⟨Nat.le_of_ble_eq_true rfl, Nat.le_of_ble_eq_true rfl⟩ ⟨Nat.le_of_ble_eq_true rfl, Nat.le_of_ble_eq_true rfl⟩ (Nat.le_of_ble_eq_true rfl) hl rfl dX8_see_17 (fun r u H locs hq h => ?_)
    have h : HS D A s H locs [(p0, .inr (8, [.ref p1, .int pgm, .ref p2, .int rdm, .int rdb, .int stt, .int (nI n), .int bar, .int hrs, .int crd, .ref p3, .ref p4, .ref p5, .ref p6, .ref p7, .int tof, .int tmu, .ref p8, .ref p9, .int bdn, .ref p10, .int (nI q), .ref p11, .ref p12, .ref p13, .int sdn, .int kcs, .int khr, .int ksn, .ref p14, .ref p15, .ref p16, .ref p17, .long hlg])), (p11, .inl (cI, 18, .inl (sgt sh sr tb)))] := h
    have hq : r = bI (hin (nI n) x) := hq
    have hq := hq.symm
    subst hq
    refine lv_if_ne (tgt := 26) hx hb dX8_see_20 (by decide) (fun c_20 => ?_) (fun c_20 => ?_)
    · skip
      have hb_20 : (hin (nI n) x) = true := bI_n0.mp c_20
      obtain ⟨k0, hk0, rfl⟩ := hin_of hb_20 (by omega)
      have hcl : (nI k0).toNatClampNeg = k0 := nI_clamp (by omega)
      have hn2 : 2 ≤ n := by omega
      refine lv_aload_n hx hb dX8_see_26 rfl (lv_at hl 0 rfl) ?_
      refine r_get C h fk8 0 21 rfl (by decide) mf_RX8_108 rfl dX8_see_27 ?_
      refine lv_bipush (v := 6) hx hb dX8_see_30 (by decide) ?_
      refine lv_icmp_ne (tgt := 38) hx hb dX8_see_32 (by decide) (fun c_32 => ?_) (fun c_32 => ?_)
      · skip
        have c_32 : ¬ q = 6 := fun z => c_32 ((jeq (a := q) (b := 6) (by omega) (by omega)).mpr z)
        have hq0 : q < 6 := by omega
        have e6 : decide (q < 6) = true := decide_eq_true hq0
        obtain ⟨y0, hy1, hy2, rfl⟩ := wth_of (lo := 1) (hi := 12) hb_9 (by decide) (by decide)
        have hc0 : (nI y0).toNatClampNeg = y0 := nI_clamp (by omega)
        refine lv_aload_n hx hb dX8_see_38 rfl (lv_at hl 0 rfl) ?_
        refine r_get C h fk8 0 22 rfl (by decide) mf_RX8_40 rfl dX8_see_39 ?_
        refine lv_iconst (v := 3) hx hb dX8_see_42 (by decide) ?_
        refine lv_aload_n hx hb dX8_see_43 rfl (lv_at hl 0 rfl) ?_
        refine r_get C h fk8 0 21 rfl (by decide) mf_RX8_108 rfl dX8_see_44 ?_
        refine lv_imul hx hb dX8_see_47 ?_
        refine r_top (y := nI (3 * q)) (pk_mul 3 q) ?_
        refine lv_iload_n hx hb dX8_see_48 rfl (lv_at hl 1 rfl) ?_
        refine r_st C h 1 rfl (3 * q) (rfl) (by omega) (by decide) (g := upd (sgt sh sr tb) (3 * q) (nI y0)) (fun _ _ => rfl) (ws' := [(p0, .inr (8, [.ref p1, .int pgm, .ref p2, .int rdm, .int rdb, .int stt, .int (nI n), .int bar, .int hrs, .int crd, .ref p3, .ref p4, .ref p5, .ref p6, .ref p7, .int tof, .int tmu, .ref p8, .ref p9, .int bdn, .ref p10, .int (nI q), .ref p11, .ref p12, .ref p13, .int sdn, .int kcs, .int khr, .int ksn, .ref p14, .ref p15, .ref p16, .ref p17, .long hlg])), (p11, .inl (cI, 18, .inl (upd (sgt sh sr tb) (3 * q) (nI y0))))]) rfl dX8_see_49 (fun H locs h => ?_)
        refine lv_aload_n hx hb dX8_see_50 rfl (lv_at hl 0 rfl) ?_
        refine r_get C h fk8 0 22 rfl (by decide) mf_RX8_40 rfl dX8_see_51 ?_
        refine lv_iconst (v := 3) hx hb dX8_see_54 (by decide) ?_
        refine lv_aload_n hx hb dX8_see_55 rfl (lv_at hl 0 rfl) ?_
        refine r_get C h fk8 0 21 rfl (by decide) mf_RX8_108 rfl dX8_see_56 ?_
        refine lv_imul hx hb dX8_see_59 ?_
        refine r_top (y := nI (3 * q)) (pk_mul 3 q) ?_
        refine lv_iconst (v := 1) hx hb dX8_see_60 (by decide) ?_
        refine lv_iadd hx hb dX8_see_61 ?_
        refine r_top (y := nI ((3 * q) + 1)) (nI_add (3 * q) 1) ?_
        refine lv_iload_n hx hb dX8_see_62 rfl (lv_at hl 2 rfl) ?_
        refine r_st C h 1 rfl ((3 * q) + 1) (rfl) (by omega) (by decide) (g := upd (upd (sgt sh sr tb) (3 * q) (nI y0)) ((3 * q) + 1) (nI k0)) (fun _ _ => rfl) (ws' := [(p0, .inr (8, [.ref p1, .int pgm, .ref p2, .int rdm, .int rdb, .int stt, .int (nI n), .int bar, .int hrs, .int crd, .ref p3, .ref p4, .ref p5, .ref p6, .ref p7, .int tof, .int tmu, .ref p8, .ref p9, .int bdn, .ref p10, .int (nI q), .ref p11, .ref p12, .ref p13, .int sdn, .int kcs, .int khr, .int ksn, .ref p14, .ref p15, .ref p16, .ref p17, .long hlg])), (p11, .inl (cI, 18, .inl (upd (upd (sgt sh sr tb) (3 * q) (nI y0)) ((3 * q) + 1) (nI k0))))]) rfl dX8_see_63 (fun H locs h => ?_)
        refine lv_aload_n hx hb dX8_see_64 rfl (lv_at hl 0 rfl) ?_
        refine r_get C h fk8 0 22 rfl (by decide) mf_RX8_40 rfl dX8_see_65 ?_
        refine lv_iconst (v := 3) hx hb dX8_see_68 (by decide) ?_
        refine lv_aload_n hx hb dX8_see_69 rfl (lv_at hl 0 rfl) ?_
        refine r_get C h fk8 0 21 rfl (by decide) mf_RX8_108 rfl dX8_see_70 ?_
        refine lv_imul hx hb dX8_see_73 ?_
        refine r_top (y := nI (3 * q)) (pk_mul 3 q) ?_
        refine lv_iconst (v := 2) hx hb dX8_see_74 (by decide) ?_
        refine lv_iadd hx hb dX8_see_75 ?_
        refine r_top (y := nI ((3 * q) + 2)) (nI_add (3 * q) 2) ?_
        refine lv_iload_n hx hb dX8_see_76 rfl (lv_at hl 3 rfl) ?_
        refine lv_if_eq (tgt := 84) hx hb dX8_see_77 (by decide) (fun c_77 => ?_) (fun c_77 => ?_)
        · skip
          refine lv_iconst (v := 0) hx hb dX8_see_84 (by decide) ?_
          refine r_top (y := tv) (by first | exact c_77.symm | exact (htv.resolve_left c_77).symm) ?_
          refine r_st C h 1 rfl ((3 * q) + 2) (rfl) (by omega) (by decide) (g := upd (upd (upd (sgt sh sr tb) (3 * q) (nI y0)) ((3 * q) + 1) (nI k0)) ((3 * q) + 2) tv) (fun _ _ => rfl) (ws' := [(p0, .inr (8, [.ref p1, .int pgm, .ref p2, .int rdm, .int rdb, .int stt, .int (nI n), .int bar, .int hrs, .int crd, .ref p3, .ref p4, .ref p5, .ref p6, .ref p7, .int tof, .int tmu, .ref p8, .ref p9, .int bdn, .ref p10, .int (nI q), .ref p11, .ref p12, .ref p13, .int sdn, .int kcs, .int khr, .int ksn, .ref p14, .ref p15, .ref p16, .ref p17, .long hlg])), (p11, .inl (cI, 18, .inl (upd (upd (upd (sgt sh sr tb) (3 * q) (nI y0)) ((3 * q) + 1) (nI k0)) ((3 * q) + 2) tv)))]) rfl dX8_see_85 (fun H locs h => ?_)
          refine lv_aload_n hx hb dX8_see_86 rfl (lv_at hl 0 rfl) ?_
          refine lv_dup hx hb dX8_see_87 rfl ?_
          refine r_get C h fk8 0 21 rfl (by decide) mf_RX8_108 rfl dX8_see_88 ?_
          refine lv_iconst (v := 1) hx hb dX8_see_91 (by decide) ?_
          refine lv_iadd hx hb dX8_see_92 ?_
          refine r_top (y := nI (q + 1)) (nI_add q 1) ?_
          refine r_put C h fk8 0 21 rfl (by decide) mf_RX8_108 rfl (rfl) rfl (Nat.le_of_ble_eq_true rfl) (ws' := [(p0, .inr (8, [.ref p1, .int pgm, .ref p2, .int rdm, .int rdb, .int stt, .int (nI n), .int bar, .int hrs, .int crd, .ref p3, .ref p4, .ref p5, .ref p6, .ref p7, .int tof, .int tmu, .ref p8, .ref p9, .int bdn, .ref p10, .int (nI (q + 1)), .ref p11, .ref p12, .ref p13, .int sdn, .int kcs, .int khr, .int ksn, .ref p14, .ref p15, .ref p16, .ref p17, .long hlg])), (p11, .inl (cI, 18, .inl (upd (upd (upd (sgt sh sr tb) (3 * q) (nI y0)) ((3 * q) + 1) (nI k0)) ((3 * q) + 2) tv)))]) rfl dX8_see_93 (fun H locs h => ?_)
          refine lv_aload_n hx hb dX8_see_96 rfl (lv_at hl 0 rfl) ?_
          refine r_get C h fk8 0 21 rfl (by decide) mf_RX8_108 rfl dX8_see_97 ?_
          have h := h.arr 1 (g := sgt (bf (sek n q (nI y0) (nI k0)) (un sh q (nI y0).toNatClampNeg) sh) (bf (sek n q (nI y0) (nI k0)) (un sr q (nI k0).toNatClampNeg) sr) (bf (sek n q (nI y0) (nI k0)) (upd tb q tv) tb)) rfl (fun j _ => by rw [bf_t (sek_t hb_9 hb_20 e6), bf_t (sek_t hb_9 hb_20 e6), bf_t (sek_t hb_9 hb_20 e6), hc0, hcl]; exact sgt_u j) rfl
          have ef : (nI (q + 1)) = (nI (bf (sek n q (nI y0) (nI k0)) (q + 1) q)) := by rw [bf_t (sek_t hb_9 hb_20 e6)] <;> rfl
          have h := HS.cg (ws' := [(p0, .inr (8, [.ref p1, .int pgm, .ref p2, .int rdm, .int rdb, .int stt, .int (nI n), .int bar, .int hrs, .int crd, .ref p3, .ref p4, .ref p5, .ref p6, .ref p7, .int tof, .int tmu, .ref p8, .ref p9, .int bdn, .ref p10, .int (nI (bf (sek n q (nI y0) (nI k0)) (q + 1) q)), .ref p11, .ref p12, .ref p13, .int sdn, .int kcs, .int khr, .int ksn, .ref p14, .ref p15, .ref p16, .ref p17, .long hlg])), (p11, .inl (cI, 18, .inl (sgt (bf (sek n q (nI y0) (nI k0)) (un sh q (nI y0).toNatClampNeg) sh) (bf (sek n q (nI y0) (nI k0)) (un sr q (nI k0).toNatClampNeg) sr) (bf (sek n q (nI y0) (nI k0)) (upd tb q tv) tb))))]) h (by rw [← ef] <;> rfl)
          exact hret (r := nI (q + 1)) () dX8_see_100 h (rfl) (by rw [bf_t hb_9, bf_t hb_20, bf_t e6])
        · skip
          refine lv_iconst (v := 1) hx hb dX8_see_80 (by decide) ?_
          refine lv_goto (tgt := 85) hx hb dX8_see_81 (by decide) ?_
          refine r_top (y := tv) (by first | exact c_77.symm | exact (htv.resolve_left c_77).symm) ?_
          refine r_st C h 1 rfl ((3 * q) + 2) (rfl) (by omega) (by decide) (g := upd (upd (upd (sgt sh sr tb) (3 * q) (nI y0)) ((3 * q) + 1) (nI k0)) ((3 * q) + 2) tv) (fun _ _ => rfl) (ws' := [(p0, .inr (8, [.ref p1, .int pgm, .ref p2, .int rdm, .int rdb, .int stt, .int (nI n), .int bar, .int hrs, .int crd, .ref p3, .ref p4, .ref p5, .ref p6, .ref p7, .int tof, .int tmu, .ref p8, .ref p9, .int bdn, .ref p10, .int (nI q), .ref p11, .ref p12, .ref p13, .int sdn, .int kcs, .int khr, .int ksn, .ref p14, .ref p15, .ref p16, .ref p17, .long hlg])), (p11, .inl (cI, 18, .inl (upd (upd (upd (sgt sh sr tb) (3 * q) (nI y0)) ((3 * q) + 1) (nI k0)) ((3 * q) + 2) tv)))]) rfl dX8_see_85 (fun H locs h => ?_)
          refine lv_aload_n hx hb dX8_see_86 rfl (lv_at hl 0 rfl) ?_
          refine lv_dup hx hb dX8_see_87 rfl ?_
          refine r_get C h fk8 0 21 rfl (by decide) mf_RX8_108 rfl dX8_see_88 ?_
          refine lv_iconst (v := 1) hx hb dX8_see_91 (by decide) ?_
          refine lv_iadd hx hb dX8_see_92 ?_
          refine r_top (y := nI (q + 1)) (nI_add q 1) ?_
          refine r_put C h fk8 0 21 rfl (by decide) mf_RX8_108 rfl (rfl) rfl (Nat.le_of_ble_eq_true rfl) (ws' := [(p0, .inr (8, [.ref p1, .int pgm, .ref p2, .int rdm, .int rdb, .int stt, .int (nI n), .int bar, .int hrs, .int crd, .ref p3, .ref p4, .ref p5, .ref p6, .ref p7, .int tof, .int tmu, .ref p8, .ref p9, .int bdn, .ref p10, .int (nI (q + 1)), .ref p11, .ref p12, .ref p13, .int sdn, .int kcs, .int khr, .int ksn, .ref p14, .ref p15, .ref p16, .ref p17, .long hlg])), (p11, .inl (cI, 18, .inl (upd (upd (upd (sgt sh sr tb) (3 * q) (nI y0)) ((3 * q) + 1) (nI k0)) ((3 * q) + 2) tv)))]) rfl dX8_see_93 (fun H locs h => ?_)
          refine lv_aload_n hx hb dX8_see_96 rfl (lv_at hl 0 rfl) ?_
          refine r_get C h fk8 0 21 rfl (by decide) mf_RX8_108 rfl dX8_see_97 ?_
          have h := h.arr 1 (g := sgt (bf (sek n q (nI y0) (nI k0)) (un sh q (nI y0).toNatClampNeg) sh) (bf (sek n q (nI y0) (nI k0)) (un sr q (nI k0).toNatClampNeg) sr) (bf (sek n q (nI y0) (nI k0)) (upd tb q tv) tb)) rfl (fun j _ => by rw [bf_t (sek_t hb_9 hb_20 e6), bf_t (sek_t hb_9 hb_20 e6), bf_t (sek_t hb_9 hb_20 e6), hc0, hcl]; exact sgt_u j) rfl
          have ef : (nI (q + 1)) = (nI (bf (sek n q (nI y0) (nI k0)) (q + 1) q)) := by rw [bf_t (sek_t hb_9 hb_20 e6)] <;> rfl
          have h := HS.cg (ws' := [(p0, .inr (8, [.ref p1, .int pgm, .ref p2, .int rdm, .int rdb, .int stt, .int (nI n), .int bar, .int hrs, .int crd, .ref p3, .ref p4, .ref p5, .ref p6, .ref p7, .int tof, .int tmu, .ref p8, .ref p9, .int bdn, .ref p10, .int (nI (bf (sek n q (nI y0) (nI k0)) (q + 1) q)), .ref p11, .ref p12, .ref p13, .int sdn, .int kcs, .int khr, .int ksn, .ref p14, .ref p15, .ref p16, .ref p17, .long hlg])), (p11, .inl (cI, 18, .inl (sgt (bf (sek n q (nI y0) (nI k0)) (un sh q (nI y0).toNatClampNeg) sh) (bf (sek n q (nI y0) (nI k0)) (un sr q (nI k0).toNatClampNeg) sr) (bf (sek n q (nI y0) (nI k0)) (upd tb q tv) tb))))]) h (by rw [← ef] <;> rfl)
          exact hret (r := nI (q + 1)) () dX8_see_100 h (rfl) (by rw [bf_t hb_9, bf_t hb_20, bf_t e6])
      · skip
        have c_32 := (jeq (a := q) (b := 6) (by omega) (by omega)).mp c_32
        have e6 : decide (q < 6) = false := decide_eq_false (by omega)
        refine lv_bipush (v := (-104)) hx hb dX8_see_35 (by decide) ?_
        have h := h.arr 1 (g := sgt (bf (sek n q y (nI k0)) (un sh q y.toNatClampNeg) sh) (bf (sek n q y (nI k0)) (un sr q (nI k0).toNatClampNeg) sr) (bf (sek n q y (nI k0)) (upd tb q tv) tb)) rfl (fun j _ => by rw [bf_f (sek_f3 e6), bf_f (sek_f3 e6), bf_f (sek_f3 e6)]) rfl
        have ef : (nI q) = (nI (bf (sek n q y (nI k0)) (q + 1) q)) := by rw [bf_f (sek_f3 e6)] <;> rfl
        have h := HS.cg (ws' := [(p0, .inr (8, [.ref p1, .int pgm, .ref p2, .int rdm, .int rdb, .int stt, .int (nI n), .int bar, .int hrs, .int crd, .ref p3, .ref p4, .ref p5, .ref p6, .ref p7, .int tof, .int tmu, .ref p8, .ref p9, .int bdn, .ref p10, .int (nI (bf (sek n q y (nI k0)) (q + 1) q)), .ref p11, .ref p12, .ref p13, .int sdn, .int kcs, .int khr, .int ksn, .ref p14, .ref p15, .ref p16, .ref p17, .long hlg])), (p11, .inl (cI, 18, .inl (sgt (bf (sek n q y (nI k0)) (un sh q y.toNatClampNeg) sh) (bf (sek n q y (nI k0)) (un sr q (nI k0).toNatClampNeg) sr) (bf (sek n q y (nI k0)) (upd tb q tv) tb))))]) h (by rw [← ef] <;> rfl)
        exact hret (r := (-104)) () dX8_see_37 h (rfl) (by rw [bf_t hb_9, bf_t hb_20, bf_f e6])
    · skip
      have hb_20 : (hin (nI n) x) = false := bI_0.mp c_20
      refine lv_bipush (v := (-101)) hx hb dX8_see_23 (by decide) ?_
      have h := h.arr 1 (g := sgt (bf (sek n q y x) (un sh q y.toNatClampNeg) sh) (bf (sek n q y x) (un sr q x.toNatClampNeg) sr) (bf (sek n q y x) (upd tb q tv) tb)) rfl (fun j _ => by rw [bf_f (sek_f2 hb_20), bf_f (sek_f2 hb_20), bf_f (sek_f2 hb_20)]) rfl
      have ef : (nI q) = (nI (bf (sek n q y x) (q + 1) q)) := by rw [bf_f (sek_f2 hb_20)] <;> rfl
      have h := HS.cg (ws' := [(p0, .inr (8, [.ref p1, .int pgm, .ref p2, .int rdm, .int rdb, .int stt, .int (nI n), .int bar, .int hrs, .int crd, .ref p3, .ref p4, .ref p5, .ref p6, .ref p7, .int tof, .int tmu, .ref p8, .ref p9, .int bdn, .ref p10, .int (nI (bf (sek n q y x) (q + 1) q)), .ref p11, .ref p12, .ref p13, .int sdn, .int kcs, .int khr, .int ksn, .ref p14, .ref p15, .ref p16, .ref p17, .long hlg])), (p11, .inl (cI, 18, .inl (sgt (bf (sek n q y x) (un sh q y.toNatClampNeg) sh) (bf (sek n q y x) (un sr q x.toNatClampNeg) sr) (bf (sek n q y x) (upd tb q tv) tb))))]) h (by rw [← ef] <;> rfl)
      exact hret (r := (-101)) () dX8_see_25 h (rfl) (by rw [bf_t hb_9, bf_f hb_20])
  · skip
    have hb_9 : (wth y 1 12) = false := bI_0.mp c_9
    refine lv_bipush (v := (-102)) hx hb dX8_see_12 (by decide) ?_
    have h := h.arr 1 (g := sgt (bf (sek n q y x) (un sh q y.toNatClampNeg) sh) (bf (sek n q y x) (un sr q x.toNatClampNeg) sr) (bf (sek n q y x) (upd tb q tv) tb)) rfl (fun j _ => by rw [bf_f (sek_f1 hb_9), bf_f (sek_f1 hb_9), bf_f (sek_f1 hb_9)]) rfl
    have ef : (nI q) = (nI (bf (sek n q y x) (q + 1) q)) := by rw [bf_f (sek_f1 hb_9)] <;> rfl
    have h := HS.cg (ws' := [(p0, .inr (8, [.ref p1, .int pgm, .ref p2, .int rdm, .int rdb, .int stt, .int (nI n), .int bar, .int hrs, .int crd, .ref p3, .ref p4, .ref p5, .ref p6, .ref p7, .int tof, .int tmu, .ref p8, .ref p9, .int bdn, .ref p10, .int (nI (bf (sek n q y x) (q + 1) q)), .ref p11, .ref p12, .ref p13, .int sdn, .int kcs, .int khr, .int ksn, .ref p14, .ref p15, .ref p16, .ref p17, .long hlg])), (p11, .inl (cI, 18, .inl (sgt (bf (sek n q y x) (un sh q y.toNatClampNeg) sh) (bf (sek n q y x) (un sr q x.toNatClampNeg) sr) (bf (sek n q y x) (upd tb q tv) tb))))]) h (by rw [← ef] <;> rfl)
    exact hret (r := (-102)) () dX8_see_14 h (rfl) (by rw [bf_f hb_9])

set_option maxHeartbeats 4000000 in
set_option maxRecDepth 100000 in
theorem c_X8_forget (l : Launch) (D : va_G) (cI cZ : ClassId) (kS vS : Nat) (p0 : Nat) (p1 : Nat) (p2 : Nat) (p3 : Nat) (p4 : Nat) (p5 : Nat) (p6 : Nat) (p7 : Nat) (p8 : Nat) (p9 : Nat) (p10 : Nat) (p11 : Nat) (p12 : Nat) (p13 : Nat) (p14 : Nat) (p15 : Nat) (p16 : Nat) (p17 : Nat) (n : Nat) (pgm : Int32) (rdm : Int32) (rdb : Int32) (stt : Int32) (bar : Int32) (hrs : Int32) (crd : Int32) (tof : Int32) (tmu : Int32) (bdn : Int32) (sdn : Int32) (kcs : Int32) (khr : Int32) (ksn : Int32) (hlg : Int64) (q : Nat)  : CI l yX8_forget cX8_forget 2 .int D cI cZ kS vS 0 0 0 0 [.ref p0] [(p0, .inr (8, [.ref p1, .int pgm, .ref p2, .int rdm, .int rdb, .int stt, .int (nI n), .int bar, .int hrs, .int crd, .ref p3, .ref p4, .ref p5, .ref p6, .ref p7, .int tof, .int tmu, .ref p8, .ref p9, .int bdn, .ref p10, .int (nI q), .ref p11, .ref p12, .ref p13, .int sdn, .int kcs, .int khr, .int ksn, .ref p14, .ref p15, .ref p16, .ref p17, .long hlg]))] (fun (r : Int32) (_ : Unit) => r = nI q) (fun (_ : Unit) => [(p0, .inr (8, [.ref p1, .int pgm, .ref p2, .int rdm, .int rdb, .int stt, .int (nI n), .int bar, .int hrs, .int crd, .ref p3, .ref p4, .ref p5, .ref p6, .ref p7, .int tof, .int tmu, .ref p8, .ref p9, .int bdn, .ref p10, .int 0, .ref p11, .ref p12, .ref p13, .int sdn, .int kcs, .int khr, .int ksn, .ref p14, .ref p15, .ref p16, .ref p17, .long hlg]))]) := by
  refine CI_intro (by decide) (Nat.le_of_ble_eq_true rfl) ?_
  intro p e s m args below meth c A Q ls C h hret hl
  have C : CX p s m args c cX8_forget 2 RX8 D cI cZ kS vS A := C
  have hx := C.1.1
  have hb := C.1.2.1
  have hl : lv_has ls 2 [(0, .ref p0)] := hl
  refine lv_aload_n hx hb dX8_forget_0 rfl (lv_at hl 0 rfl) ?_
  refine r_get C h fk8 0 21 rfl (by decide) mf_RX8_108 rfl dX8_forget_1 ?_
  refine lv_istore_n (lv' := [(1, .int (nI q)), (0, .ref p0)]) hx hb dX8_forget_4 rfl hl (by decide) rfl (fun ls hl => ?_)
  refine lv_aload_n hx hb dX8_forget_5 rfl (lv_at hl 1 rfl) ?_
  refine lv_iconst (v := 0) hx hb dX8_forget_6 (by decide) ?_
  refine r_put C h fk8 0 21 rfl (by decide) mf_RX8_108 rfl (rfl) rfl (Nat.le_of_ble_eq_true rfl) (ws' := [(p0, .inr (8, [.ref p1, .int pgm, .ref p2, .int rdm, .int rdb, .int stt, .int (nI n), .int bar, .int hrs, .int crd, .ref p3, .ref p4, .ref p5, .ref p6, .ref p7, .int tof, .int tmu, .ref p8, .ref p9, .int bdn, .ref p10, .int 0, .ref p11, .ref p12, .ref p13, .int sdn, .int kcs, .int khr, .int ksn, .ref p14, .ref p15, .ref p16, .ref p17, .long hlg]))]) rfl dX8_forget_7 (fun H locs h => ?_)
  refine lv_iload_n hx hb dX8_forget_10 rfl (lv_at hl 0 rfl) ?_
  exact hret (r := nI q) () dX8_forget_11 h (rfl) (rfl)

