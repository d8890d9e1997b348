set_option maxHeartbeats 4000000 in
set_option maxRecDepth 100000 in
theorem c_X8_kindBy (l : Launch) (D : va_G) (cI cZ : ClassId) (kS vS : Nat) (cd : Nat) (hc : cd < 127) : CI l yX8_kindBy cX8_kindBy 1 .int D cI cZ kS vS 0 0 0 0 [.int (nI cd)] [] (fun (r : Int32) (_ : Unit) => r = kb cd) (fun (_ : Unit) => []) := by
  refine CI_intro (by decide) (Nat.le_of_ble_eq_true rfl) ?_
  intro p e s m args below meth c A Q ls C h hret hl
  have C : CX p s m args c cX8_kindBy 1 RX8 D cI cZ kS vS A := C
  have hx := C.1.1
  have hb := C.1.2.1
  have hl : lv_has ls 1 [(0, .int (nI cd))] := hl
  refine lv_iload_n hx hb dX8_kindBy_0 rfl (lv_at hl 0 rfl) ?_
  refine lv_bipush (v := 114) hx hb dX8_kindBy_1 (by decide) ?_
  refine lv_icmp_ne (tgt := 10) hx hb dX8_kindBy_3 (by decide) (fun c_3 => ?_) (fun c_3 => ?_)
  · skip
    have c_3 : ¬ cd = 114 := fun z => c_3 ((jeq (a := cd) (b := 114) (by omega) (by omega)).mpr z)
    refine lv_iload_n hx hb dX8_kindBy_10 rfl (lv_at hl 0 rfl) ?_
    refine lv_bipush (v := 102) hx hb dX8_kindBy_11 (by decide) ?_
    refine lv_icmp_ne (tgt := 20) hx hb dX8_kindBy_13 (by decide) (fun c_13 => ?_) (fun c_13 => ?_)
    · skip
      have c_13 : ¬ cd = 102 := fun z => c_13 ((jeq (a := cd) (b := 102) (by omega) (by omega)).mpr z)
      refine lv_iload_n hx hb dX8_kindBy_20 rfl (lv_at hl 0 rfl) ?_
      refine lv_bipush (v := 98) hx hb dX8_kindBy_21 (by decide) ?_
      refine lv_icmp_ne (tgt := 30) hx hb dX8_kindBy_23 (by decide) (fun c_23 => ?_) (fun c_23 => ?_)
      · skip
        have c_23 : ¬ cd = 98 := fun z => c_23 ((jeq (a := cd) (b := 98) (by omega) (by omega)).mpr z)
        refine lv_iload_n hx hb dX8_kindBy_30 rfl (lv_at hl 0 rfl) ?_
        refine lv_bipush (v := 111) hx hb dX8_kindBy_31 (by decide) ?_
        refine lv_icmp_ne (tgt := 40) hx hb dX8_kindBy_33 (by decide) (fun c_33 => ?_) (fun c_33 => ?_)
        · skip
          have c_33 : ¬ cd = 111 := fun z => c_33 ((jeq (a := cd) (b := 111) (by omega) (by omega)).mpr z)
          refine lv_iload_n hx hb dX8_kindBy_40 rfl (lv_at hl 0 rfl) ?_
          refine lv_bipush (v := 116) hx hb dX8_kindBy_41 (by decide) ?_
          refine lv_icmp_ne (tgt := 50) hx hb dX8_kindBy_43 (by decide) (fun c_43 => ?_) (fun c_43 => ?_)
          · skip
            have c_43 : ¬ cd = 116 := fun z => c_43 ((jeq (a := cd) (b := 116) (by omega) (by omega)).mpr z)
            refine lv_iconst (v := (-1)) hx hb dX8_kindBy_50 (by decide) ?_
            exact hret (r := (-1)) () dX8_kindBy_51 h (rfl) (by simp [kb, c_3, c_13, c_23, c_33, c_43])
          · skip
            have c_43 := (jeq (a := cd) (b := 116) (by omega) (by omega)).mp c_43
            refine lv_iconst (v := 4) hx hb dX8_kindBy_46 (by decide) ?_
            refine lv_goto (tgt := 51) hx hb dX8_kindBy_47 (by decide) ?_
            exact hret (r := 4) () dX8_kindBy_51 h (rfl) (by simp [kb, c_3, c_13, c_23, c_33, c_43])
        · skip
          have c_33 := (jeq (a := cd) (b := 111) (by omega) (by omega)).mp c_33
          refine lv_iconst (v := 3) hx hb dX8_kindBy_36 (by decide) ?_
          refine lv_goto (tgt := 51) hx hb dX8_kindBy_37 (by decide) ?_
          exact hret (r := 3) () dX8_kindBy_51 h (rfl) (by simp [kb, c_3, c_13, c_23, c_33])
      · skip
        have c_23 := (jeq (a := cd) (b := 98) (by omega) (by omega)).mp c_23
        refine lv_iconst (v := 2) hx hb dX8_kindBy_26 (by decide) ?_
        refine lv_goto (tgt := 51) hx hb dX8_kindBy_27 (by decide) ?_
        exact hret (r := 2) () dX8_kindBy_51 h (rfl) (by simp [kb, c_3, c_13, c_23])
    · skip
      have c_13 := (jeq (a := cd) (b := 102) (by omega) (by omega)).mp c_13
      refine lv_iconst (v := 1) hx hb dX8_kindBy_16 (by decide) ?_
      refine lv_goto (tgt := 51) hx hb dX8_kindBy_17 (by decide) ?_
      exact hret (r := 1) () dX8_kindBy_51 h (rfl) (by simp [kb, c_3, c_13])
  · skip
    have c_3 := (jeq (a := cd) (b := 114) (by omega) (by omega)).mp c_3
    refine lv_iconst (v := 0) hx hb dX8_kindBy_6 (by decide) ?_
    refine lv_goto (tgt := 51) hx hb dX8_kindBy_7 (by decide) ?_
    exact hret (r := 0) () dX8_kindBy_51 h (rfl) (by simp [kb, c_3])

set_option maxHeartbeats 4000000 in
set_option maxRecDepth 100000 in
theorem c_X8_go (l : Launch) (D : va_G) (cI cZ : ClassId) (kS vS : Nat) (p0 : Nat) (p1 : Nat) (p2 : Nat) (p3 : Nat) (p4 : Nat) (p5 : Nat) (p6 : Nat) (p7 : Nat) (p8 : Nat) (p9 : Nat) (p10 : Nat) (p11 : Nat) (p12 : Nat) (p13 : Nat) (p14 : Nat) (p15 : Nat) (p16 : Nat) (p17 : Nat) (n : Nat) (pgm : Int32) (rdb : Int32) (bar : Int32) (hrs : Int32) (crd : Int32) (tof : Int32) (tmu : Int32) (bdn : Int32) (snm : Int32) (sdn : Int32) (kcs : Int32) (khr : Int32) (ksn : Int32) (hlg : Int64) (st : Nat) (rm : Nat) (cd : Nat) (rd : Nat → Int32) (hst : st ≤ 5) (hrm : rm ≤ 6) (hr4 : st ≤ 2 → rm ≤ 4) (hc : cd < 127) : CI l yX8_go cX8_go 4 .boolean D cI cZ kS vS 1 25 0 0 [.ref p0, .int (nI cd)] [(p0, .inr (8, [.ref p1, .int pgm, .ref p2, .int (nI rm), .int rdb, .int (nI st), .int (nI n), .int bar, .int hrs, .int crd, .ref p3, .ref p4, .ref p5, .ref p6, .ref p7, .int tof, .int tmu, .ref p8, .ref p9, .int bdn, .ref p10, .int snm, .ref p11, .ref p12, .ref p13, .int sdn, .int kcs, .int khr, .int ksn, .ref p14, .ref p15, .ref p16, .ref p17, .long hlg])), (p2, .inl (cI, 15, .inl rd))] (fun (r : Int32) (_ : Unit) => r = bI (gfit st rm cd)) (fun (_ : Unit) => [(p0, .inr (8, [.ref p1, .int pgm, .ref p2, .int (nI (grm st rm)), .int (grb st cd rdb), .int (nI (gst st cd)), .int (nI n), .int bar, .int hrs, .int crd, .ref p3, .ref p4, .ref p5, .ref p6, .ref p7, .int tof, .int tmu, .ref p8, .ref p9, .int bdn, .ref p10, .int snm, .ref p11, .ref p12, .ref p13, .int sdn, .int kcs, .int khr, .int ksn, .ref p14, .ref p15, .ref p16, .ref p17, .long hlg])), (p2, .inl (cI, 15, .inl (grd st rm cd rd)))]) := by
  refine CI_intro (by decide) (Nat.le_of_ble_eq_true rfl) ?_
  intro p e s m args below meth c A Q ls C h hret hl
  have C : CX p s m args c cX8_go 4 RX8 D cI cZ kS vS A := C
  have hx := C.1.1
  have hb := C.1.2.1
  have hl : lv_has ls 4 [(0, .ref p0), (1, .int (nI cd))] := hl
  refine lv_iload_n hx hb dX8_go_0 rfl (lv_at hl 1 rfl) ?_
  refine lv_bipush (v := 48) hx hb dX8_go_1 (by decide) ?_
  refine lv_isub hx hb dX8_go_3 ?_
  refine lv_istore_n (lv' := [(2, .int ((nI cd) - 48)), (0, .ref p0), (1, .int (nI cd))]) hx hb dX8_go_4 rfl hl (by decide) rfl (fun ls hl => ?_)
  refine lv_aload_n hx hb dX8_go_5 rfl (lv_at hl 1 rfl) ?_
  refine r_get C h fk8 0 5 rfl (by decide) mf_RX8_74 rfl dX8_go_6 ?_
  refine lv_istore_n (lv' := [(3, .int (nI st)), (2, .int ((nI cd) - 48)), (0, .ref p0), (1, .int (nI cd))]) hx hb dX8_go_9 rfl hl (by decide) rfl (fun ls hl => ?_)
  refine lv_aload_n hx hb dX8_go_10 rfl (lv_at hl 2 rfl) ?_
  refine lv_dup hx hb dX8_go_11 rfl ?_
  refine r_get C h fk8 0 5 rfl (by decide) mf_RX8_74 rfl dX8_go_12 ?_
  refine lv_iconst (v := 1) hx hb dX8_go_15 (by decide) ?_
  refine lv_iadd hx hb dX8_go_16 ?_
  refine r_top (y := nI (st + 1)) (nI_add st 1) ?_
  refine r_put C h fk8 0 5 rfl (by decide) mf_RX8_74 rfl (rfl) rfl (Nat.le_of_ble_eq_true rfl) (ws' := [(p0, .inr (8, [.ref p1, .int pgm, .ref p2, .int (nI rm), .int rdb, .int (nI (st + 1)), .int (nI n), .int bar, .int hrs, .int crd, .ref p3, .ref p4, .ref p5, .ref p6, .ref p7, .int tof, .int tmu, .ref p8, .ref p9, .int bdn, .ref p10, .int snm, .ref p11, .ref p12, .ref p13, .int sdn, .int kcs, .int khr, .int ksn, .ref p14, .ref p15, .ref p16, .ref p17, .long hlg])), (p2, .inl (cI, 15, .inl rd))]) rfl dX8_go_17 (fun H locs h => ?_)
  refine lv_iload_n hx hb dX8_go_20 rfl (lv_at hl 0 rfl) ?_
  by_cases k_21_0 : nI st = 0
  · skip
    refine r_top (y := 0) k_21_0 ?_
    have e0 : st = 0 := (jeq (a := st) (b := 0) (by omega) (by omega)).mp k_21_0
    have hr5 := hr4 (by omega)
    refine lv_tableIn (tgt := 56) hx hb dX8_go_21 (by decide) (by decide) rfl (by decide) ?_
    refine lv_aload_n hx hb dX8_go_56 rfl (lv_at hl 2 rfl) ?_
    refine r_get C h fk8 0 2 rfl (by decide) mf_RX8_13 rfl dX8_go_57 ?_
    refine lv_iconst (v := 3) hx hb dX8_go_60 (by decide) ?_
    refine lv_aload_n hx hb dX8_go_61 rfl (lv_at hl 2 rfl) ?_
    refine r_get C h fk8 0 3 rfl (by decide) mf_RX8_77 rfl dX8_go_62 ?_
    refine lv_imul hx hb dX8_go_65 ?_
    refine r_top (y := nI (3 * rm)) (pk_mul 3 rm) ?_
    refine lv_iload_n hx hb dX8_go_66 rfl (lv_at hl 3 rfl) ?_
    refine k_Si (rest := [.int (nI (3 * rm)), .ref p2]) (as := [.int (nI cd)]) (wc := []) (wr := [(p0, .inr (8, [.ref p1, .int pgm, .ref p2, .int (nI rm), .int rdb, .int (nI (st + 1)), .int (nI n), .int bar, .int hrs, .int crd, .ref p3, .ref p4, .ref p5, .ref p6, .ref p7, .int tof, .int tmu, .ref p8, .ref p9, .int bdn, .ref p10, .int snm, .ref p11, .ref p12, .ref p13, .int sdn, .int kcs, .int khr, .int ksn, .ref p14, .ref p15, .ref p16, .ref p17, .long hlg])), (p2, .inl (cI, 15, .inl rd))]) (isC := []) (isR := [0, 1]) (w2 := fun (_ : Unit) => [(p0, .inr (8, [.ref p1, .int pgm, .ref p2, .int (nI rm), .int rdb, .int (nI (st + 1)), .int (nI n), .int bar, .int hrs, .int crd, .ref p3, .ref p4, .ref p5, .ref p6, .ref p7, .int tof, .int tmu, .ref p8, .ref p9, .int bdn, .ref p10, .int snm, .ref p11, .ref p12, .ref p13, .int sdn, .int kcs, .int khr, .int ksn, .ref p14, .ref p15, .ref p16, .ref p17, .long hlg])), (p2, .inl (cI, 15, .inl rd))]) C h (c_X8_kindBy l D cI cZ kS vS cd hc) wv_X8_kindBy rfl ⟨rfl, rfl, rfl, rfl, by decide⟩ ml_RX8_80 [0, 1] rfl (fun _ => rfl) ⟨Nat.le_of_ble_eq_true rfl, Nat.le_of_ble_eq_true rfl⟩ ⟨Nat.le_of_ble_eq_true rfl, Nat.le_of_ble_eq_true rfl⟩ (Nat.le_of_ble_eq_true rfl) hl rfl dX8_go_67 (fun r u H locs hq h => ?_)
    have h : HS D A s H locs [(p0, .inr (8, [.ref p1, .int pgm, .ref p2, .int (nI rm), .int rdb, .int (nI (st + 1)), .int (nI n), .int bar, .int hrs, .int crd, .ref p3, .ref p4, .ref p5, .ref p6, .ref p7, .int tof, .int tmu, .ref p8, .ref p9, .int bdn, .ref p10, .int snm, .ref p11, .ref p12, .ref p13, .int sdn, .int kcs, .int khr, .int ksn, .ref p14, .ref p15, .ref p16, .ref p17, .long hlg])), (p2, .inl (cI, 15, .inl rd))] := h
    have hq : r = kb cd := hq
    have hq := hq.symm
    subst hq
    refine r_st C h 1 rfl (3 * rm) (rfl) (by omega) (by decide) (g := upd rd (3 * rm) (kb cd)) (fun _ _ => rfl) (ws' := [(p0, .inr (8, [.ref p1, .int pgm, .ref p2, .int (nI rm), .int rdb, .int (nI (st + 1)), .int (nI n), .int bar, .int hrs, .int crd, .ref p3, .ref p4, .ref p5, .ref p6, .ref p7, .int tof, .int tmu, .ref p8, .ref p9, .int bdn, .ref p10, .int snm, .ref p11, .ref p12, .ref p13, .int sdn, .int kcs, .int khr, .int ksn, .ref p14, .ref p15, .ref p16, .ref p17, .long hlg])), (p2, .inl (cI, 15, .inl (upd rd (3 * rm) (kb cd))))]) rfl dX8_go_70 (fun H locs h => ?_)
    refine lv_iload_n hx hb dX8_go_71 rfl (lv_at hl 3 rfl) ?_
    refine k_Si (rest := []) (as := [.int (nI cd)]) (wc := []) (wr := [(p0, .inr (8, [.ref p1, .int pgm, .ref p2, .int (nI rm), .int rdb, .int (nI (st + 1)), .int (nI n), .int bar, .int hrs, .int crd, .ref p3, .ref p4, .ref p5, .ref p6, .ref p7, .int tof, .int tmu, .ref p8, .ref p9, .int bdn, .ref p10, .int snm, .ref p11, .ref p12, .ref p13, .int sdn, .int kcs, .int khr, .int ksn, .ref p14, .ref p15, .ref p16, .ref p17, .long hlg])), (p2, .inl (cI, 15, .inl (upd rd (3 * rm) (kb cd))))]) (isC := []) (isR := [0, 1]) (w2 := fun (_ : Unit) => [(p0, .inr (8, [.ref p1, .int pgm, .ref p2, .int (nI rm), .int rdb, .int (nI (st + 1)), .int (nI n), .int bar, .int hrs, .int crd, .ref p3, .ref p4, .ref p5, .ref p6, .ref p7, .int tof, .int tmu, .ref p8, .ref p9, .int bdn, .ref p10, .int snm, .ref p11, .ref p12, .ref p13, .int sdn, .int kcs, .int khr, .int ksn, .ref p14, .ref p15, .ref p16, .ref p17, .long hlg])), (p2, .inl (cI, 15, .inl (upd rd (3 * rm) (kb cd))))]) C h (c_X8_kindBy l D cI cZ kS vS cd hc) wv_X8_kindBy rfl ⟨rfl, rfl, rfl, rfl, by decide⟩ ml_RX8_80 [0, 1] rfl (fun _ => rfl) ⟨Nat.le_of_ble_eq_true rfl, Nat.le_of_ble_eq_true rfl⟩ ⟨Nat.le_of_ble_eq_true rfl, Nat.le_of_ble_eq_true rfl⟩ (Nat.le_of_ble_eq_true rfl) hl rfl dX8_go_72 (fun r u H locs hq h => ?_)
    have h : HS D A s H locs [(p0, .inr (8, [.ref p1, .int pgm, .ref p2, .int (nI rm), .int rdb, .int (nI (st + 1)), .int (nI n), .int bar, .int hrs, .int crd, .ref p3, .ref p4, .ref p5, .ref p6, .ref p7, .int tof, .int tmu, .ref p8, .ref p9, .int bdn, .ref p10, .int snm, .ref p11, .ref p12, .ref p13, .int sdn, .int kcs, .int khr, .int ksn, .ref p14, .ref p15, .ref p16, .ref p17, .long hlg])), (p2, .inl (cI, 15, .inl (upd rd (3 * rm) (kb cd))))] := h
    have hq : r = kb cd := hq
    have hq := hq.symm
    subst hq
    refine lv_iconst (v := (-1)) hx hb dX8_go_75 (by decide) ?_
    refine lv_icmp_eq (tgt := 83) hx hb dX8_go_76 (by decide) (fun c_76 => ?_) (fun c_76 => ?_)
    · skip
      refine lv_iconst (v := 0) hx hb dX8_go_83 (by decide) ?_
      have ef : (nI (st + 1)) = (nI (gst st cd)) := by rw [e0]; rfl
      have h : HS D A s H locs [(p0, .inr (8, [.ref p1, .int pgm, .ref p2, .int (nI rm), .int rdb, .int (nI (gst st cd)), .int (nI n), .int bar, .int hrs, .int crd, .ref p3, .ref p4, .ref p5, .ref p6, .ref p7, .int tof, .int tmu, .ref p8, .ref p9, .int bdn, .ref p10, .int snm, .ref p11, .ref p12, .ref p13, .int sdn, .int kcs, .int khr, .int ksn, .ref p14, .ref p15, .ref p16, .ref p17, .long hlg])), (p2, .inl (cI, 15, .inl (upd rd (3 * rm) (kb cd))))] := by rw [← ef]; exact h
      have ef : (nI rm) = (nI (grm st rm)) := by rw [e0]; rfl
      have h : HS D A s H locs [(p0, .inr (8, [.ref p1, .int pgm, .ref p2, .int (nI (grm st rm)), .int rdb, .int (nI (gst st cd)), .int (nI n), .int bar, .int hrs, .int crd, .ref p3, .ref p4, .ref p5, .ref p6, .ref p7, .int tof, .int tmu, .ref p8, .ref p9, .int bdn, .ref p10, .int snm, .ref p11, .ref p12, .ref p13, .int sdn, .int kcs, .int khr, .int ksn, .ref p14, .ref p15, .ref p16, .ref p17, .long hlg])), (p2, .inl (cI, 15, .inl (upd rd (3 * rm) (kb cd))))] := by rw [← ef]; exact h
      have ef : rdb = (grb st cd rdb) := by rw [e0]; rfl
      have h : HS D A s H locs [(p0, .inr (8, [.ref p1, .int pgm, .ref p2, .int (nI (grm st rm)), .int (grb st cd rdb), .int (nI (gst st cd)), .int (nI n), .int bar, .int hrs, .int crd, .ref p3, .ref p4, .ref p5, .ref p6, .ref p7, .int tof, .int tmu, .ref p8, .ref p9, .int bdn, .ref p10, .int snm, .ref p11, .ref p12, .ref p13, .int sdn, .int kcs, .int khr, .int ksn, .ref p14, .ref p15, .ref p16, .ref p17, .long hlg])), (p2, .inl (cI, 15, .inl (upd rd (3 * rm) (kb cd))))] := by rw [← ef]; exact h
      have h := h.arr 1 (g := grd st rm cd rd) rfl (fun j _ => by rw [e0]; rfl) rfl
      exact hret (r := 0) () dX8_go_84 h (rfl) (by rw [e0]; rw [show gfit 0 rm cd = !decide (kb cd = -1) from rfl, decide_eq_true c_76]; rfl)
    · skip
      refine lv_iconst (v := 1) hx hb dX8_go_79 (by decide) ?_
      refine lv_goto (tgt := 84) hx hb dX8_go_80 (by decide) ?_
      have ef : (nI (st + 1)) = (nI (gst st cd)) := by rw [e0]; rfl
      have h : HS D A s H locs [(p0, .inr (8, [.ref p1, .int pgm, .ref p2, .int (nI rm), .int rdb, .int (nI (gst st cd)), .int (nI n), .int bar, .int hrs, .int crd, .ref p3, .ref p4, .ref p5, .ref p6, .ref p7, .int tof, .int tmu, .ref p8, .ref p9, .int bdn, .ref p10, .int snm, .ref p11, .ref p12, .ref p13, .int sdn, .int kcs, .int khr, .int ksn, .ref p14, .ref p15, .ref p16, .ref p17, .long hlg])), (p2, .inl (cI, 15, .inl (upd rd (3 * rm) (kb cd))))] := by rw [← ef]; exact h
      have ef : (nI rm) = (nI (grm st rm)) := by rw [e0]; rfl
      have h : HS D A s H locs [(p0, .inr (8, [.ref p1, .int pgm, .ref p2, .int (nI (grm st rm)), .int rdb, .int (nI (gst st cd)), .int (nI n), .int bar, .int hrs, .int crd, .ref p3, .ref p4, .ref p5, .ref p6, .ref p7, .int tof, .int tmu, .ref p8, .ref p9, .int bdn, .ref p10, .int snm, .ref p11, .ref p12, .ref p13, .int sdn, .int kcs, .int khr, .int ksn, .ref p14, .ref p15, .ref p16, .ref p17, .long hlg])), (p2, .inl (cI, 15, .inl (upd rd (3 * rm) (kb cd))))] := by rw [← ef]; exact h
      have ef : rdb = (grb st cd rdb) := by rw [e0]; rfl
      have h : HS D A s H locs [(p0, .inr (8, [.ref p1, .int pgm, .ref p2, .int (nI (grm st rm)), .int (grb st cd rdb), .int (nI (gst st cd)), .int (nI n), .int bar, .int hrs, .int crd, .ref p3, .ref p4, .ref p5, .ref p6, .ref p7, .int tof, .int tmu, .ref p8, .ref p9, .int bdn, .ref p10, .int snm, .ref p11, .ref p12, .ref p13, .int sdn, .int kcs, .int khr, .int ksn, .ref p14, .ref p15, .ref p16, .ref p17, .long hlg])), (p2, .inl (cI, 15, .inl (upd rd (3 * rm) (kb cd))))] := by rw [← ef]; exact h
      have h := h.arr 1 (g := grd st rm cd rd) rfl (fun j _ => by rw [e0]; rfl) rfl
      exact hret (r := 1) () dX8_go_84 h (rfl) (by rw [e0]; rw [show gfit 0 rm cd = !decide (kb cd = -1) from rfl, decide_eq_false c_76]; rfl)
  · skip
    by_cases k_21_1 : nI st = 1
    · skip
      refine r_top (y := 1) k_21_1 ?_
      have e0 : st = 1 := (jeq (a := st) (b := 1) (by omega) (by omega)).mp k_21_1
      have hr5 := hr4 (by omega)
      refine lv_tableIn (tgt := 85) hx hb dX8_go_21 (by decide) (by decide) rfl (by decide) ?_
      refine lv_aload_n hx hb dX8_go_85 rfl (lv_at hl 2 rfl) ?_
      refine r_get C h fk8 0 2 rfl (by decide) mf_RX8_13 rfl dX8_go_86 ?_
      refine lv_iconst (v := 3) hx hb dX8_go_89 (by decide) ?_
      refine lv_aload_n hx hb dX8_go_90 rfl (lv_at hl 2 rfl) ?_
      refine r_get C h fk8 0 3 rfl (by decide) mf_RX8_77 rfl dX8_go_91 ?_
      refine lv_imul hx hb dX8_go_94 ?_
      refine r_top (y := nI (3 * rm)) (pk_mul 3 rm) ?_
      refine lv_iconst (v := 1) hx hb dX8_go_95 (by decide) ?_
      refine lv_iadd hx hb dX8_go_96 ?_
      refine r_top (y := nI ((3 * rm) + 1)) (nI_add (3 * rm) 1) ?_
      refine lv_iload_n hx hb dX8_go_97 rfl (lv_at hl 1 rfl) ?_
      refine r_st C h 1 rfl ((3 * rm) + 1) (rfl) (by omega) (by decide) (g := upd rd ((3 * rm) + 1) ((nI cd) - 48)) (fun _ _ => rfl) (ws' := [(p0, .inr (8, [.ref p1, .int pgm, .ref p2, .int (nI rm), .int rdb, .int (nI (st + 1)), .int (nI n), .int bar, .int hrs, .int crd, .ref p3, .ref p4, .ref p5, .ref p6, .ref p7, .int tof, .int tmu, .ref p8, .ref p9, .int bdn, .ref p10, .int snm, .ref p11, .ref p12, .ref p13, .int sdn, .int kcs, .int khr, .int ksn, .ref p14, .ref p15, .ref p16, .ref p17, .long hlg])), (p2, .inl (cI, 15, .inl (upd rd ((3 * rm) + 1) ((nI cd) - 48))))]) rfl dX8_go_98 (fun H locs h => ?_)
      refine lv_iload_n hx hb dX8_go_99 rfl (lv_at hl 1 rfl) ?_
      refine lv_i2l hx hb dX8_go_100 rfl ?_
      refine lv_lconst (v := 0) hx hb dX8_go_101 (by decide) ?_
      refine lv_ldc2 (v := 9) hx hb C.1.2.2.2.1 (C.1.2.2.2.2 _ mq_RX8_84) dX8_go_102 ?_
      refine k_Si (rest := []) (as := [.long (Int32.toInt64 ((nI cd) - 48)), .long 0, .long 9]) (wc := []) (wr := [(p0, .inr (8, [.ref p1, .int pgm, .ref p2, .int (nI rm), .int rdb, .int (nI (st + 1)), .int (nI n), .int bar, .int hrs, .int crd, .ref p3, .ref p4, .ref p5, .ref p6, .ref p7, .int tof, .int tmu, .ref p8, .ref p9, .int bdn, .ref p10, .int snm, .ref p11, .ref p12, .ref p13, .int sdn, .int kcs, .int khr, .int ksn, .ref p14, .ref p15, .ref p16, .ref p17, .long hlg])), (p2, .inl (cI, 15, .inl (upd rd ((3 * rm) + 1) ((nI cd) - 48))))]) (isC := []) (isR := [0, 1]) (w2 := fun (_ : Unit) => [(p0, .inr (8, [.ref p1, .int pgm, .ref p2, .int (nI rm), .int rdb, .int (nI (st + 1)), .int (nI n), .int bar, .int hrs, .int crd, .ref p3, .ref p4, .ref p5, .ref p6, .ref p7, .int tof, .int tmu, .ref p8, .ref p9, .int bdn, .ref p10, .int snm, .ref p11, .ref p12, .ref p13, .int sdn, .int kcs, .int khr, .int ksn, .ref p14, .ref p15, .ref p16, .ref p17, .long hlg])), (p2, .inl (cI, 15, .inl (upd rd ((3 * rm) + 1) ((nI cd) - 48))))]) C h (c_X8_in l D cI cZ kS vS (Int32.toInt64 ((nI cd) - 48)) 0 9 ) wv_X8_in rfl ⟨rfl, rfl, rfl, rfl, by decide⟩ ml_RX8_67 [0, 1] rfl (fun _ => rfl) ⟨Nat.le_of_ble_eq_true rfl, Nat.le_of_ble_eq_true rfl⟩ ⟨Nat.le_of_ble_eq_true rfl, Nat.le_of_ble_eq_true rfl⟩ (Nat.le_of_ble_eq_true rfl) hl rfl dX8_go_105 (fun r u H locs hq h => ?_)
      have h : HS D A s H locs [(p0, .inr (8, [.ref p1, .int pgm, .ref p2, .int (nI rm), .int rdb, .int (nI (st + 1)), .int (nI n), .int bar, .int hrs, .int crd, .ref p3, .ref p4, .ref p5, .ref p6, .ref p7, .int tof, .int tmu, .ref p8, .ref p9, .int bdn, .ref p10, .int snm, .ref p11, .ref p12, .ref p13, .int sdn, .int kcs, .int khr, .int ksn, .ref p14, .ref p15, .ref p16, .ref p17, .long hlg])), (p2, .inl (cI, 15, .inl (upd rd ((3 * rm) + 1) ((nI cd) - 48))))] := h
      have hq : r = bI (lin (Int32.toInt64 ((nI cd) - 48)) 0 9) := hq
      have hq := hq.symm
      subst hq
      have ef : (nI (st + 1)) = (nI (gst st cd)) := by rw [e0]; rfl
      have h : HS D A s H locs [(p0, .inr (8, [.ref p1, .int pgm, .ref p2, .int (nI rm), .int rdb, .int (nI (gst st cd)), .int (nI n), .int bar, .int hrs, .int crd, .ref p3, .ref p4, .ref p5, .ref p6, .ref p7, .int tof, .int tmu, .ref p8, .ref p9, .int bdn, .ref p10, .int snm, .ref p11, .ref p12, .ref p13, .int sdn, .int kcs, .int khr, .int ksn, .ref p14, .ref p15, .ref p16, .ref p17, .long hlg])), (p2, .inl (cI, 15, .inl (upd rd ((3 * rm) + 1) ((nI cd) - 48))))] := by rw [← ef]; exact h
      have ef : (nI rm) = (nI (grm st rm)) := by rw [e0]; rfl
      have h : HS D A s H locs [(p0, .inr (8, [.ref p1, .int pgm, .ref p2, .int (nI (grm st rm)), .int rdb, .int (nI (gst st cd)), .int (nI n), .int bar, .int hrs, .int crd, .ref p3, .ref p4, .ref p5, .ref p6, .ref p7, .int tof, .int tmu, .ref p8, .ref p9, .int bdn, .ref p10, .int snm, .ref p11, .ref p12, .ref p13, .int sdn, .int kcs, .int khr, .int ksn, .ref p14, .ref p15, .ref p16, .ref p17, .long hlg])), (p2, .inl (cI, 15, .inl (upd rd ((3 * rm) + 1) ((nI cd) - 48))))] := by rw [← ef]; exact h
      have ef : rdb = (grb st cd rdb) := by rw [e0]; rfl
      have h : HS D A s H locs [(p0, .inr (8, [.ref p1, .int pgm, .ref p2, .int (nI (grm st rm)), .int (grb st cd rdb), .int (nI (gst st cd)), .int (nI n), .int bar, .int hrs, .int crd, .ref p3, .ref p4, .ref p5, .ref p6, .ref p7, .int tof, .int tmu, .ref p8, .ref p9, .int bdn, .ref p10, .int snm, .ref p11, .ref p12, .ref p13, .int sdn, .int kcs, .int khr, .int ksn, .ref p14, .ref p15, .ref p16, .ref p17, .long hlg])), (p2, .inl (cI, 15, .inl (upd rd ((3 * rm) + 1) ((nI cd) - 48))))] := by rw [← ef]; exact h
      have h := h.arr 1 (g := grd st rm cd rd) rfl (fun j _ => by rw [e0]; rfl) rfl
      exact hret (r := bI (lin (Int32.toInt64 ((nI cd) - 48)) 0 9)) () dX8_go_108 h (bI_nar _) (by rw [e0]; exact congrArg bI (lin_09 cd (by omega)))
    · skip
      by_cases k_21_2 : nI st = 2
      · skip
        refine r_top (y := 2) k_21_2 ?_
        have e0 : st = 2 := (jeq (a := st) (b := 2) (by omega) (by omega)).mp k_21_2
        have hr5 := hr4 (by omega)
        refine lv_tableIn (tgt := 109) hx hb dX8_go_21 (by decide) (by decide) rfl (by decide) ?_
        refine lv_aload_n hx hb dX8_go_109 rfl (lv_at hl 2 rfl) ?_
        refine r_get C h fk8 0 2 rfl (by decide) mf_RX8_13 rfl dX8_go_110 ?_
        refine lv_iconst (v := 3) hx hb dX8_go_113 (by decide) ?_
        refine lv_aload_n hx hb dX8_go_114 rfl (lv_at hl 2 rfl) ?_
        refine r_get C h fk8 0 3 rfl (by decide) mf_RX8_77 rfl dX8_go_115 ?_
        refine lv_imul hx hb dX8_go_118 ?_
        refine r_top (y := nI (3 * rm)) (pk_mul 3 rm) ?_
        refine lv_iconst (v := 2) hx hb dX8_go_119 (by decide) ?_
        refine lv_iadd hx hb dX8_go_120 ?_
        refine r_top (y := nI ((3 * rm) + 2)) (nI_add (3 * rm) 2) ?_
        refine lv_iload_n hx hb dX8_go_121 rfl (lv_at hl 1 rfl) ?_
        refine r_st C h 1 rfl ((3 * rm) + 2) (rfl) (by omega) (by decide) (g := upd rd ((3 * rm) + 2) ((nI cd) - 48)) (fun _ _ => rfl) (ws' := [(p0, .inr (8, [.ref p1, .int pgm, .ref p2, .int (nI rm), .int rdb, .int (nI (st + 1)), .int (nI n), .int bar, .int hrs, .int crd, .ref p3, .ref p4, .ref p5, .ref p6, .ref p7, .int tof, .int tmu, .ref p8, .ref p9, .int bdn, .ref p10, .int snm, .ref p11, .ref p12, .ref p13, .int sdn, .int kcs, .int khr, .int ksn, .ref p14, .ref p15, .ref p16, .ref p17, .long hlg])), (p2, .inl (cI, 15, .inl (upd rd ((3 * rm) + 2) ((nI cd) - 48))))]) rfl dX8_go_122 (fun H locs h => ?_)
        refine lv_aload_n hx hb dX8_go_123 rfl (lv_at hl 2 rfl) ?_
        refine lv_dup hx hb dX8_go_124 rfl ?_
        refine r_get C h fk8 0 3 rfl (by decide) mf_RX8_77 rfl dX8_go_125 ?_
        refine lv_iconst (v := 1) hx hb dX8_go_128 (by decide) ?_
        refine lv_iadd hx hb dX8_go_129 ?_
        refine r_top (y := nI (rm + 1)) (nI_add rm 1) ?_
        refine r_put C h fk8 0 3 rfl (by decide) mf_RX8_77 rfl (rfl) rfl (Nat.le_of_ble_eq_true rfl) (ws' := [(p0, .inr (8, [.ref p1, .int pgm, .ref p2, .int (nI (rm + 1)), .int rdb, .int (nI (st + 1)), .int (nI n), .int bar, .int hrs, .int crd, .ref p3, .ref p4, .ref p5, .ref p6, .ref p7, .int tof, .int tmu, .ref p8, .ref p9, .int bdn, .ref p10, .int snm, .ref p11, .ref p12, .ref p13, .int sdn, .int kcs, .int khr, .int ksn, .ref p14, .ref p15, .ref p16, .ref p17, .long hlg])), (p2, .inl (cI, 15, .inl (upd rd ((3 * rm) + 2) ((nI cd) - 48))))]) rfl dX8_go_130 (fun H locs h => ?_)
        refine lv_iload_n hx hb dX8_go_133 rfl (lv_at hl 1 rfl) ?_
        refine lv_i2l hx hb dX8_go_134 rfl ?_
        refine lv_lconst (v := 0) hx hb dX8_go_135 (by decide) ?_
        refine lv_ldc2 (v := 5) hx hb C.1.2.2.2.1 (C.1.2.2.2.2 _ mq_RX8_86) dX8_go_136 ?_
        refine k_Si (rest := []) (as := [.long (Int32.toInt64 ((nI cd) - 48)), .long 0, .long 5]) (wc := []) (wr := [(p0, .inr (8, [.ref p1, .int pgm, .ref p2, .int (nI (rm + 1)), .int rdb, .int (nI (st + 1)), .int (nI n), .int bar, .int hrs, .int crd, .ref p3, .ref p4, .ref p5, .ref p6, .ref p7, .int tof, .int tmu, .ref p8, .ref p9, .int bdn, .ref p10, .int snm, .ref p11, .ref p12, .ref p13, .int sdn, .int kcs, .int khr, .int ksn, .ref p14, .ref p15, .ref p16, .ref p17, .long hlg])), (p2, .inl (cI, 15, .inl (upd rd ((3 * rm) + 2) ((nI cd) - 48))))]) (isC := []) (isR := [0, 1]) (w2 := fun (_ : Unit) => [(p0, .inr (8, [.ref p1, .int pgm, .ref p2, .int (nI (rm + 1)), .int rdb, .int (nI (st + 1)), .int (nI n), .int bar, .int hrs, .int crd, .ref p3, .ref p4, .ref p5, .ref p6, .ref p7, .int tof, .int tmu, .ref p8, .ref p9, .int bdn, .ref p10, .int snm, .ref p11, .ref p12, .ref p13, .int sdn, .int kcs, .int khr, .int ksn, .ref p14, .ref p15, .ref p16, .ref p17, .long hlg])), (p2, .inl (cI, 15, .inl (upd rd ((3 * rm) + 2) ((nI cd) - 48))))]) C h (c_X8_in l D cI cZ kS vS (Int32.toInt64 ((nI cd) - 48)) 0 5 ) wv_X8_in rfl ⟨rfl, rfl, rfl, rfl, by decide⟩ ml_RX8_67 [0, 1] rfl (fun _ => rfl) ⟨Nat.le_of_ble_eq_true rfl, Nat.le_of_ble_eq_true rfl⟩ ⟨Nat.le_of_ble_eq_true rfl, Nat.le_of_ble_eq_true rfl⟩ (Nat.le_of_ble_eq_true rfl) hl rfl dX8_go_139 (fun r u H locs hq h => ?_)
        have h : HS D A s H locs [(p0, .inr (8, [.ref p1, .int pgm, .ref p2, .int (nI (rm + 1)), .int rdb, .int (nI (st + 1)), .int (nI n), .int bar, .int hrs, .int crd, .ref p3, .ref p4, .ref p5, .ref p6, .ref p7, .int tof, .int tmu, .ref p8, .ref p9, .int bdn, .ref p10, .int snm, .ref p11, .ref p12, .ref p13, .int sdn, .int kcs, .int khr, .int ksn, .ref p14, .ref p15, .ref p16, .ref p17, .long hlg])), (p2, .inl (cI, 15, .inl (upd rd ((3 * rm) + 2) ((nI cd) - 48))))] := h
        have hq : r = bI (lin (Int32.toInt64 ((nI cd) - 48)) 0 5) := hq
        have hq := hq.symm
        subst hq
        have ef : (nI (st + 1)) = (nI (gst st cd)) := by rw [e0]; rfl
        have h : HS D A s H locs [(p0, .inr (8, [.ref p1, .int pgm, .ref p2, .int (nI (rm + 1)), .int rdb, .int (nI (gst st cd)), .int (nI n), .int bar, .int hrs, .int crd, .ref p3, .ref p4, .ref p5, .ref p6, .ref p7, .int tof, .int tmu, .ref p8, .ref p9, .int bdn, .ref p10, .int snm, .ref p11, .ref p12, .ref p13, .int sdn, .int kcs, .int khr, .int ksn, .ref p14, .ref p15, .ref p16, .ref p17, .long hlg])), (p2, .inl (cI, 15, .inl (upd rd ((3 * rm) + 2) ((nI cd) - 48))))] := by rw [← ef]; exact h
        have ef : (nI (rm + 1)) = (nI (grm st rm)) := by rw [e0]; rfl
        have h : HS D A s H locs [(p0, .inr (8, [.ref p1, .int pgm, .ref p2, .int (nI (grm st rm)), .int rdb, .int (nI (gst st cd)), .int (nI n), .int bar, .int hrs, .int crd, .ref p3, .ref p4, .ref p5, .ref p6, .ref p7, .int tof, .int tmu, .ref p8, .ref p9, .int bdn, .ref p10, .int snm, .ref p11, .ref p12, .ref p13, .int sdn, .int kcs, .int khr, .int ksn, .ref p14, .ref p15, .ref p16, .ref p17, .long hlg])), (p2, .inl (cI, 15, .inl (upd rd ((3 * rm) + 2) ((nI cd) - 48))))] := by rw [← ef]; exact h
        have ef : rdb = (grb st cd rdb) := by rw [e0]; rfl
        have h : HS D A s H locs [(p0, .inr (8, [.ref p1, .int pgm, .ref p2, .int (nI (grm st rm)), .int (grb st cd rdb), .int (nI (gst st cd)), .int (nI n), .int bar, .int hrs, .int crd, .ref p3, .ref p4, .ref p5, .ref p6, .ref p7, .int tof, .int tmu, .ref p8, .ref p9, .int bdn, .ref p10, .int snm, .ref p11, .ref p12, .ref p13, .int sdn, .int kcs, .int khr, .int ksn, .ref p14, .ref p15, .ref p16, .ref p17, .long hlg])), (p2, .inl (cI, 15, .inl (upd rd ((3 * rm) + 2) ((nI cd) - 48))))] := by rw [← ef]; exact h
        have h := h.arr 1 (g := grd st rm cd rd) rfl (fun j _ => by rw [e0]; rfl) rfl
        exact hret (r := bI (lin (Int32.toInt64 ((nI cd) - 48)) 0 5)) () dX8_go_142 h (bI_nar _) (by rw [e0]; exact congrArg bI (lin_05 cd (by omega)))
      · skip
        by_cases k_21_3 : nI st = 3
        · skip
          refine r_top (y := 3) k_21_3 ?_
          have e0 : st = 3 := (jeq (a := st) (b := 3) (by omega) (by omega)).mp k_21_3
          refine lv_tableIn (tgt := 143) hx hb dX8_go_21 (by decide) (by decide) rfl (by decide) ?_
          refine lv_aload_n hx hb dX8_go_143 rfl (lv_at hl 2 rfl) ?_
          refine lv_iload_n hx hb dX8_go_144 rfl (lv_at hl 3 rfl) ?_
          refine lv_bipush (v := 44) hx hb dX8_go_145 (by decide) ?_
          refine lv_icmp_ne (tgt := 154) hx hb dX8_go_147 (by decide) (fun c_147 => ?_) (fun c_147 => ?_)
          · skip
            have c_147 : ¬ cd = 44 := fun z => c_147 ((jeq (a := cd) (b := 44) (by omega) (by omega)).mpr z)
            refine lv_iconst (v := 4) hx hb dX8_go_154 (by decide) ?_
            refine r_put C h fk8 0 5 rfl (by decide) mf_RX8_74 rfl (rfl) rfl (Nat.le_of_ble_eq_true rfl) (ws' := [(p0, .inr (8, [.ref p1, .int pgm, .ref p2, .int (nI rm), .int rdb, .int 4, .int (nI n), .int bar, .int hrs, .int crd, .ref p3, .ref p4, .ref p5, .ref p6, .ref p7, .int tof, .int tmu, .ref p8, .ref p9, .int bdn, .ref p10, .int snm, .ref p11, .ref p12, .ref p13, .int sdn, .int kcs, .int khr, .int ksn, .ref p14, .ref p15, .ref p16, .ref p17, .long hlg])), (p2, .inl (cI, 15, .inl rd))]) rfl dX8_go_155 (fun H locs h => ?_)
            refine lv_iload_n hx hb dX8_go_158 rfl (lv_at hl 3 rfl) ?_
            refine lv_bipush (v := 44) hx hb dX8_go_159 (by decide) ?_
            refine lv_icmp_ne (tgt := 180) hx hb dX8_go_161 (by decide) (fun c_161 => ?_) (fun c_161 => ?_)
            · skip
              have c_161 : ¬ cd = 44 := fun z => c_161 ((jeq (a := cd) (b := 44) (by omega) (by omega)).mpr z)
              refine lv_iload_n hx hb dX8_go_180 rfl (lv_at hl 3 rfl) ?_
              refine lv_bipush (v := 59) hx hb dX8_go_181 (by decide) ?_
              refine lv_icmp_ne (tgt := 198) hx hb dX8_go_183 (by decide) (fun c_183 => ?_) (fun c_183 => ?_)
              · skip
                have c_183 : ¬ cd = 59 := fun z => c_183 ((jeq (a := cd) (b := 59) (by omega) (by omega)).mpr z)
                refine lv_iconst (v := 0) hx hb dX8_go_198 (by decide) ?_
                have ef : 4 = (nI (gst st cd)) := by rw [e0]; exact congrArg nI (if_neg c_147).symm
                have h : HS D A s H locs [(p0, .inr (8, [.ref p1, .int pgm, .ref p2, .int (nI rm), .int rdb, .int (nI (gst st cd)), .int (nI n), .int bar, .int hrs, .int crd, .ref p3, .ref p4, .ref p5, .ref p6, .ref p7, .int tof, .int tmu, .ref p8, .ref p9, .int bdn, .ref p10, .int snm, .ref p11, .ref p12, .ref p13, .int sdn, .int kcs, .int khr, .int ksn, .ref p14, .ref p15, .ref p16, .ref p17, .long hlg])), (p2, .inl (cI, 15, .inl rd))] := by rw [← ef]; exact h
                have ef : (nI rm) = (nI (grm st rm)) := by rw [e0]; rfl
                have h : HS D A s H locs [(p0, .inr (8, [.ref p1, .int pgm, .ref p2, .int (nI (grm st rm)), .int rdb, .int (nI (gst st cd)), .int (nI n), .int bar, .int hrs, .int crd, .ref p3, .ref p4, .ref p5, .ref p6, .ref p7, .int tof, .int tmu, .ref p8, .ref p9, .int bdn, .ref p10, .int snm, .ref p11, .ref p12, .ref p13, .int sdn, .int kcs, .int khr, .int ksn, .ref p14, .ref p15, .ref p16, .ref p17, .long hlg])), (p2, .inl (cI, 15, .inl rd))] := by rw [← ef]; exact h
                have ef : rdb = (grb st cd rdb) := by rw [e0]; rfl
                have h : HS D A s H locs [(p0, .inr (8, [.ref p1, .int pgm, .ref p2, .int (nI (grm st rm)), .int (grb st cd rdb), .int (nI (gst st cd)), .int (nI n), .int bar, .int hrs, .int crd, .ref p3, .ref p4, .ref p5, .ref p6, .ref p7, .int tof, .int tmu, .ref p8, .ref p9, .int bdn, .ref p10, .int snm, .ref p11, .ref p12, .ref p13, .int sdn, .int kcs, .int khr, .int ksn, .ref p14, .ref p15, .ref p16, .ref p17, .long hlg])), (p2, .inl (cI, 15, .inl rd))] := by rw [← ef]; exact h
                have h := h.arr 1 (g := grd st rm cd rd) rfl (fun j _ => by rw [e0]; rfl) rfl
                exact hret (r := 0) () dX8_go_199 h (rfl) (by rw [e0]; show _ = bI (if cd = 44 then decide (rm < 5) else if cd = 59 then decide (1 < rm) else false); rw [if_neg c_147, if_neg c_183]; rfl)
              · skip
                have c_183 := (jeq (a := cd) (b := 59) (by omega) (by omega)).mp c_183
                refine lv_aload_n hx hb dX8_go_186 rfl (lv_at hl 2 rfl) ?_
                refine r_get C h fk8 0 3 rfl (by decide) mf_RX8_77 rfl dX8_go_187 ?_
                refine lv_iconst (v := 1) hx hb dX8_go_190 (by decide) ?_
                refine lv_icmp_le (tgt := 198) hx hb dX8_go_191 (by decide) (fun c_191 => ?_) (fun c_191 => ?_)
                · skip
                  have c_191 := (jle (a := rm) (b := 1) (by omega) (by omega)).mp c_191
                  refine lv_iconst (v := 0) hx hb dX8_go_198 (by decide) ?_
                  have ef : 4 = (nI (gst st cd)) := by rw [e0]; exact congrArg nI (if_neg c_147).symm
                  have h : HS D A s H locs [(p0, .inr (8, [.ref p1, .int pgm, .ref p2, .int (nI rm), .int rdb, .int (nI (gst st cd)), .int (nI n), .int bar, .int hrs, .int crd, .ref p3, .ref p4, .ref p5, .ref p6, .ref p7, .int tof, .int tmu, .ref p8, .ref p9, .int bdn, .ref p10, .int snm, .ref p11, .ref p12, .ref p13, .int sdn, .int kcs, .int khr, .int ksn, .ref p14, .ref p15, .ref p16, .ref p17, .long hlg])), (p2, .inl (cI, 15, .inl rd))] := by rw [← ef]; exact h
                  have ef : (nI rm) = (nI (grm st rm)) := by rw [e0]; rfl
                  have h : HS D A s H locs [(p0, .inr (8, [.ref p1, .int pgm, .ref p2, .int (nI (grm st rm)), .int rdb, .int (nI (gst st cd)), .int (nI n), .int bar, .int hrs, .int crd, .ref p3, .ref p4, .ref p5, .ref p6, .ref p7, .int tof, .int tmu, .ref p8, .ref p9, .int bdn, .ref p10, .int snm, .ref p11, .ref p12, .ref p13, .int sdn, .int kcs, .int khr, .int ksn, .ref p14, .ref p15, .ref p16, .ref p17, .long hlg])), (p2, .inl (cI, 15, .inl rd))] := by rw [← ef]; exact h
                  have ef : rdb = (grb st cd rdb) := by rw [e0]; rfl
                  have h : HS D A s H locs [(p0, .inr (8, [.ref p1, .int pgm, .ref p2, .int (nI (grm st rm)), .int (grb st cd rdb), .int (nI (gst st cd)), .int (nI n), .int bar, .int hrs, .int crd, .ref p3, .ref p4, .ref p5, .ref p6, .ref p7, .int tof, .int tmu, .ref p8, .ref p9, .int bdn, .ref p10, .int snm, .ref p11, .ref p12, .ref p13, .int sdn, .int kcs, .int khr, .int ksn, .ref p14, .ref p15, .ref p16, .ref p17, .long hlg])), (p2, .inl (cI, 15, .inl rd))] := by rw [← ef]; exact h
                  have h := h.arr 1 (g := grd st rm cd rd) rfl (fun j _ => by rw [e0]; rfl) rfl
                  exact hret (r := 0) () dX8_go_199 h (rfl) (by rw [e0]; show _ = bI (if cd = 44 then decide (rm < 5) else if cd = 59 then decide (1 < rm) else false); rw [if_neg c_147, if_pos c_183, decide_eq_false (by omega)]; rfl)
                · skip
                  have c_191 : ¬ rm ≤ 1 := fun z => c_191 ((jle (a := rm) (b := 1) (by omega) (by omega)).mpr z)
                  refine lv_iconst (v := 1) hx hb dX8_go_194 (by decide) ?_
                  refine lv_goto (tgt := 199) hx hb dX8_go_195 (by decide) ?_
                  have ef : 4 = (nI (gst st cd)) := by rw [e0]; exact congrArg nI (if_neg c_147).symm
                  have h : HS D A s H locs [(p0, .inr (8, [.ref p1, .int pgm, .ref p2, .int (nI rm), .int rdb, .int (nI (gst st cd)), .int (nI n), .int bar, .int hrs, .int crd, .ref p3, .ref p4, .ref p5, .ref p6, .ref p7, .int tof, .int tmu, .ref p8, .ref p9, .int bdn, .ref p10, .int snm, .ref p11, .ref p12, .ref p13, .int sdn, .int kcs, .int khr, .int ksn, .ref p14, .ref p15, .ref p16, .ref p17, .long hlg])), (p2, .inl (cI, 15, .inl rd))] := by rw [← ef]; exact h
                  have ef : (nI rm) = (nI (grm st rm)) := by rw [e0]; rfl
                  have h : HS D A s H locs [(p0, .inr (8, [.ref p1, .int pgm, .ref p2, .int (nI (grm st rm)), .int rdb, .int (nI (gst st cd)), .int (nI n), .int bar, .int hrs, .int crd, .ref p3, .ref p4, .ref p5, .ref p6, .ref p7, .int tof, .int tmu, .ref p8, .ref p9, .int bdn, .ref p10, .int snm, .ref p11, .ref p12, .ref p13, .int sdn, .int kcs, .int khr, .int ksn, .ref p14, .ref p15, .ref p16, .ref p17, .long hlg])), (p2, .inl (cI, 15, .inl rd))] := by rw [← ef]; exact h
                  have ef : rdb = (grb st cd rdb) := by rw [e0]; rfl
                  have h : HS D A s H locs [(p0, .inr (8, [.ref p1, .int pgm, .ref p2, .int (nI (grm st rm)), .int (grb st cd rdb), .int (nI (gst st cd)), .int (nI n), .int bar, .int hrs, .int crd, .ref p3, .ref p4, .ref p5, .ref p6, .ref p7, .int tof, .int tmu, .ref p8, .ref p9, .int bdn, .ref p10, .int snm, .ref p11, .ref p12, .ref p13, .int sdn, .int kcs, .int khr, .int ksn, .ref p14, .ref p15, .ref p16, .ref p17, .long hlg])), (p2, .inl (cI, 15, .inl rd))] := by rw [← ef]; exact h
                  have h := h.arr 1 (g := grd st rm cd rd) rfl (fun j _ => by rw [e0]; rfl) rfl
                  exact hret (r := 1) () dX8_go_199 h (rfl) (by rw [e0]; show _ = bI (if cd = 44 then decide (rm < 5) else if cd = 59 then decide (1 < rm) else false); rw [if_neg c_147, if_pos c_183, decide_eq_true (by omega)]; rfl)
            · skip
              have c_161 := (jeq (a := cd) (b := 44) (by omega) (by omega)).mp c_161
              exact absurd c_161 c_147
          · skip
            have c_147 := (jeq (a := cd) (b := 44) (by omega) (by omega)).mp c_147
            refine lv_iconst (v := 0) hx hb dX8_go_150 (by decide) ?_
            refine lv_goto (tgt := 155) hx hb dX8_go_151 (by decide) ?_
            refine r_put C h fk8 0 5 rfl (by decide) mf_RX8_74 rfl (rfl) rfl (Nat.le_of_ble_eq_true rfl) (ws' := [(p0, .inr (8, [.ref p1, .int pgm, .ref p2, .int (nI rm), .int rdb, .int 0, .int (nI n), .int bar, .int hrs, .int crd, .ref p3, .ref p4, .ref p5, .ref p6, .ref p7, .int tof, .int tmu, .ref p8, .ref p9, .int bdn, .ref p10, .int snm, .ref p11, .ref p12, .ref p13, .int sdn, .int kcs, .int khr, .int ksn, .ref p14, .ref p15, .ref p16, .ref p17, .long hlg])), (p2, .inl (cI, 15, .inl rd))]) rfl dX8_go_155 (fun H locs h => ?_)
            refine lv_iload_n hx hb dX8_go_158 rfl (lv_at hl 3 rfl) ?_
            refine lv_bipush (v := 44) hx hb dX8_go_159 (by decide) ?_
            refine lv_icmp_ne (tgt := 180) hx hb dX8_go_161 (by decide) (fun c_161 => ?_) (fun c_161 => ?_)
            · skip
              have c_161 : ¬ cd = 44 := fun z => c_161 ((jeq (a := cd) (b := 44) (by omega) (by omega)).mpr z)
              exact absurd c_147 c_161
            · skip
              have c_161 := (jeq (a := cd) (b := 44) (by omega) (by omega)).mp c_161
              refine lv_aload_n hx hb dX8_go_164 rfl (lv_at hl 2 rfl) ?_
              refine r_get C h fk8 0 3 rfl (by decide) mf_RX8_77 rfl dX8_go_165 ?_
              refine lv_iconst (v := 5) hx hb dX8_go_168 (by decide) ?_
              refine lv_icmp_ge (tgt := 176) hx hb dX8_go_169 (by decide) (fun c_169 => ?_) (fun c_169 => ?_)
              · skip
                have c_169 := (jle (a := 5) (b := rm) (by omega) (by omega)).mp c_169
                refine lv_iconst (v := 0) hx hb dX8_go_176 (by decide) ?_
                refine lv_goto (tgt := 199) hx hb dX8_go_177 (by decide) ?_
                have ef : 0 = (nI (gst st cd)) := by rw [e0]; exact congrArg nI (if_pos c_147).symm
                have h : HS D A s H locs [(p0, .inr (8, [.ref p1, .int pgm, .ref p2, .int (nI rm), .int rdb, .int (nI (gst st cd)), .int (nI n), .int bar, .int hrs, .int crd, .ref p3, .ref p4, .ref p5, .ref p6, .ref p7, .int tof, .int tmu, .ref p8, .ref p9, .int bdn, .ref p10, .int snm, .ref p11, .ref p12, .ref p13, .int sdn, .int kcs, .int khr, .int ksn, .ref p14, .ref p15, .ref p16, .ref p17, .long hlg])), (p2, .inl (cI, 15, .inl rd))] := by rw [← ef]; exact h
                have ef : (nI rm) = (nI (grm st rm)) := by rw [e0]; rfl
                have h : HS D A s H locs [(p0, .inr (8, [.ref p1, .int pgm, .ref p2, .int (nI (grm st rm)), .int rdb, .int (nI (gst st cd)), .int (nI n), .int bar, .int hrs, .int crd, .ref p3, .ref p4, .ref p5, .ref p6, .ref p7, .int tof, .int tmu, .ref p8, .ref p9, .int bdn, .ref p10, .int snm, .ref p11, .ref p12, .ref p13, .int sdn, .int kcs, .int khr, .int ksn, .ref p14, .ref p15, .ref p16, .ref p17, .long hlg])), (p2, .inl (cI, 15, .inl rd))] := by rw [← ef]; exact h
                have ef : rdb = (grb st cd rdb) := by rw [e0]; rfl
                have h : HS D A s H locs [(p0, .inr (8, [.ref p1, .int pgm, .ref p2, .int (nI (grm st rm)), .int (grb st cd rdb), .int (nI (gst st cd)), .int (nI n), .int bar, .int hrs, .int crd, .ref p3, .ref p4, .ref p5, .ref p6, .ref p7, .int tof, .int tmu, .ref p8, .ref p9, .int bdn, .ref p10, .int snm, .ref p11, .ref p12, .ref p13, .int sdn, .int kcs, .int khr, .int ksn, .ref p14, .ref p15, .ref p16, .ref p17, .long hlg])), (p2, .inl (cI, 15, .inl rd))] := by rw [← ef]; exact h
                have h := h.arr 1 (g := grd st rm cd rd) rfl (fun j _ => by rw [e0]; rfl) rfl
                exact hret (r := 0) () dX8_go_199 h (rfl) (by rw [e0]; show _ = bI (if cd = 44 then decide (rm < 5) else if cd = 59 then decide (1 < rm) else false); rw [if_pos c_147, decide_eq_false (by omega)]; rfl)
              · skip
                have c_169 : ¬ 5 ≤ rm := fun z => c_169 ((jle (a := 5) (b := rm) (by omega) (by omega)).mpr z)
                refine lv_iconst (v := 1) hx hb dX8_go_172 (by decide) ?_
                refine lv_goto (tgt := 199) hx hb dX8_go_173 (by decide) ?_
                have ef : 0 = (nI (gst st cd)) := by rw [e0]; exact congrArg nI (if_pos c_147).symm
                have h : HS D A s H locs [(p0, .inr (8, [.ref p1, .int pgm, .ref p2, .int (nI rm), .int rdb, .int (nI (gst st cd)), .int (nI n), .int bar, .int hrs, .int crd, .ref p3, .ref p4, .ref p5, .ref p6, .ref p7, .int tof, .int tmu, .ref p8, .ref p9, .int bdn, .ref p10, .int snm, .ref p11, .ref p12, .ref p13, .int sdn, .int kcs, .int khr, .int ksn, .ref p14, .ref p15, .ref p16, .ref p17, .long hlg])), (p2, .inl (cI, 15, .inl rd))] := by rw [← ef]; exact h
                have ef : (nI rm) = (nI (grm st rm)) := by rw [e0]; rfl
                have h : HS D A s H locs [(p0, .inr (8, [.ref p1, .int pgm, .ref p2, .int (nI (grm st rm)), .int rdb, .int (nI (gst st cd)), .int (nI n), .int bar, .int hrs, .int crd, .ref p3, .ref p4, .ref p5, .ref p6, .ref p7, .int tof, .int tmu, .ref p8, .ref p9, .int bdn, .ref p10, .int snm, .ref p11, .ref p12, .ref p13, .int sdn, .int kcs, .int khr, .int ksn, .ref p14, .ref p15, .ref p16, .ref p17, .long hlg])), (p2, .inl (cI, 15, .inl rd))] := by rw [← ef]; exact h
                have ef : rdb = (grb st cd rdb) := by rw [e0]; rfl
                have h : HS D A s H locs [(p0, .inr (8, [.ref p1, .int pgm, .ref p2, .int (nI (grm st rm)), .int (grb st cd rdb), .int (nI (gst st cd)), .int (nI n), .int bar, .int hrs, .int crd, .ref p3, .ref p4, .ref p5, .ref p6, .ref p7, .int tof, .int tmu, .ref p8, .ref p9, .int bdn, .ref p10, .int snm, .ref p11, .ref p12, .ref p13, .int sdn, .int kcs, .int khr, .int ksn, .ref p14, .ref p15, .ref p16, .ref p17, .long hlg])), (p2, .inl (cI, 15, .inl rd))] := by rw [← ef]; exact h
                have h := h.arr 1 (g := grd st rm cd rd) rfl (fun j _ => by rw [e0]; rfl) rfl
                exact hret (r := 1) () dX8_go_199 h (rfl) (by rw [e0]; show _ = bI (if cd = 44 then decide (rm < 5) else if cd = 59 then decide (1 < rm) else false); rw [if_pos c_147, decide_eq_true (by omega)]; rfl)
        · skip
          by_cases k_21_4 : nI st = 4
          · skip
            refine r_top (y := 4) k_21_4 ?_
            have e0 : st = 4 := (jeq (a := st) (b := 4) (by omega) (by omega)).mp k_21_4
            refine lv_tableIn (tgt := 200) hx hb dX8_go_21 (by decide) (by decide) rfl (by decide) ?_
            refine lv_aload_n hx hb dX8_go_200 rfl (lv_at hl 2 rfl) ?_
            refine lv_iload_n hx hb dX8_go_201 rfl (lv_at hl 1 rfl) ?_
            refine r_put C h fk8 0 4 rfl (by decide) mf_RX8_88 rfl (rfl) rfl (Nat.le_of_ble_eq_true rfl) (ws' := [(p0, .inr (8, [.ref p1, .int pgm, .ref p2, .int (nI rm), .int ((nI cd) - 48), .int (nI (st + 1)), .int (nI n), .int bar, .int hrs, .int crd, .ref p3, .ref p4, .ref p5, .ref p6, .ref p7, .int tof, .int tmu, .ref p8, .ref p9, .int bdn, .ref p10, .int snm, .ref p11, .ref p12, .ref p13, .int sdn, .int kcs, .int khr, .int ksn, .ref p14, .ref p15, .ref p16, .ref p17, .long hlg])), (p2, .inl (cI, 15, .inl rd))]) rfl dX8_go_202 (fun H locs h => ?_)
            refine lv_iload_n hx hb dX8_go_205 rfl (lv_at hl 1 rfl) ?_
            refine lv_i2l hx hb dX8_go_206 rfl ?_
            refine lv_lconst (v := 1) hx hb dX8_go_207 (by decide) ?_
            refine lv_ldc2 (v := 9) hx hb C.1.2.2.2.1 (C.1.2.2.2.2 _ mq_RX8_84) dX8_go_208 ?_
            refine k_Si (rest := []) (as := [.long (Int32.toInt64 ((nI cd) - 48)), .long 1, .long 9]) (wc := []) (wr := [(p0, .inr (8, [.ref p1, .int pgm, .ref p2, .int (nI rm), .int ((nI cd) - 48), .int (nI (st + 1)), .int (nI n), .int bar, .int hrs, .int crd, .ref p3, .ref p4, .ref p5, .ref p6, .ref p7, .int tof, .int tmu, .ref p8, .ref p9, .int bdn, .ref p10, .int snm, .ref p11, .ref p12, .ref p13, .int sdn, .int kcs, .int khr, .int ksn, .ref p14, .ref p15, .ref p16, .ref p17, .long hlg])), (p2, .inl (cI, 15, .inl rd))]) (isC := []) (isR := [0, 1]) (w2 := fun (_ : Unit) => [(p0, .inr (8, [.ref p1, .int pgm, .ref p2, .int (nI rm), .int ((nI cd) - 48), .int (nI (st + 1)), .int (nI n), .int bar, .int hrs, .int crd, .ref p3, .ref p4, .ref p5, .ref p6, .ref p7, .int tof, .int tmu, .ref p8, .ref p9, .int bdn, .ref p10, .int snm, .ref p11, .ref p12, .ref p13, .int sdn, .int kcs, .int khr, .int ksn, .ref p14, .ref p15, .ref p16, .ref p17, .long hlg])), (p2, .inl (cI, 15, .inl rd))]) C h (c_X8_in l D cI cZ kS vS (Int32.toInt64 ((nI cd) - 48)) 1 9 ) wv_X8_in rfl ⟨rfl, rfl, rfl, rfl, by decide⟩ ml_RX8_67 [0, 1] rfl (fun _ => rfl) ⟨Nat.le_of_ble_eq_true rfl, Nat.le_of_ble_eq_true rfl⟩ ⟨Nat.le_of_ble_eq_true rfl, Nat.le_of_ble_eq_true rfl⟩ (Nat.le_of_ble_eq_true rfl) hl rfl dX8_go_211 (fun r u H locs hq h => ?_)
            have h : HS D A s H locs [(p0, .inr (8, [.ref p1, .int pgm, .ref p2, .int (nI rm), .int ((nI cd) - 48), .int (nI (st + 1)), .int (nI n), .int bar, .int hrs, .int crd, .ref p3, .ref p4, .ref p5, .ref p6, .ref p7, .int tof, .int tmu, .ref p8, .ref p9, .int bdn, .ref p10, .int snm, .ref p11, .ref p12, .ref p13, .int sdn, .int kcs, .int khr, .int ksn, .ref p14, .ref p15, .ref p16, .ref p17, .long hlg])), (p2, .inl (cI, 15, .inl rd))] := h
            have hq : r = bI (lin (Int32.toInt64 ((nI cd) - 48)) 1 9) := hq
            have hq := hq.symm
            subst hq
            have ef : (nI (st + 1)) = (nI (gst st cd)) := by rw [e0]; rfl
            have h : HS D A s H locs [(p0, .inr (8, [.ref p1, .int pgm, .ref p2, .int (nI rm), .int ((nI cd) - 48), .int (nI (gst st cd)), .int (nI n), .int bar, .int hrs, .int crd, .ref p3, .ref p4, .ref p5, .ref p6, .ref p7, .int tof, .int tmu, .ref p8, .ref p9, .int bdn, .ref p10, .int snm, .ref p11, .ref p12, .ref p13, .int sdn, .int kcs, .int khr, .int ksn, .ref p14, .ref p15, .ref p16, .ref p17, .long hlg])), (p2, .inl (cI, 15, .inl rd))] := by rw [← ef]; exact h
            have ef : (nI rm) = (nI (grm st rm)) := by rw [e0]; rfl
            have h : HS D A s H locs [(p0, .inr (8, [.ref p1, .int pgm, .ref p2, .int (nI (grm st rm)), .int ((nI cd) - 48), .int (nI (gst st cd)), .int (nI n), .int bar, .int hrs, .int crd, .ref p3, .ref p4, .ref p5, .ref p6, .ref p7, .int tof, .int tmu, .ref p8, .ref p9, .int bdn, .ref p10, .int snm, .ref p11, .ref p12, .ref p13, .int sdn, .int kcs, .int khr, .int ksn, .ref p14, .ref p15, .ref p16, .ref p17, .long hlg])), (p2, .inl (cI, 15, .inl rd))] := by rw [← ef]; exact h
            have ef : ((nI cd) - 48) = (grb st cd rdb) := by rw [e0]; rfl
            have h : HS D A s H locs [(p0, .inr (8, [.ref p1, .int pgm, .ref p2, .int (nI (grm st rm)), .int (grb st cd rdb), .int (nI (gst st cd)), .int (nI n), .int bar, .int hrs, .int crd, .ref p3, .ref p4, .ref p5, .ref p6, .ref p7, .int tof, .int tmu, .ref p8, .ref p9, .int bdn, .ref p10, .int snm, .ref p11, .ref p12, .ref p13, .int sdn, .int kcs, .int khr, .int ksn, .ref p14, .ref p15, .ref p16, .ref p17, .long hlg])), (p2, .inl (cI, 15, .inl rd))] := by rw [← ef]; exact h
            have h := h.arr 1 (g := grd st rm cd rd) rfl (fun j _ => by rw [e0]; rfl) rfl
            exact hret (r := bI (lin (Int32.toInt64 ((nI cd) - 48)) 1 9)) () dX8_go_214 h (bI_nar _) (by rw [e0]; exact congrArg bI (lin_19 cd (by omega)))
          · skip
            have z0 : ¬ st = 0 ∧ ¬ st = 1 ∧ ¬ st = 2 ∧ ¬ st = 3 ∧ ¬ st = 4 := ⟨fun z => k_21_0 (by rw [z]; rfl), fun z => k_21_1 (by rw [z]; rfl), fun z => k_21_2 (by rw [z]; rfl), fun z => k_21_3 (by rw [z]; rfl), fun z => k_21_4 (by rw [z]; rfl)⟩
            have e0 : st = 5 := by omega
            have hO : (nI st).toInt < 0 ∨ 4 < (nI st).toInt := by
              have zk_21_0 := lv_neT (a := 0) k_21_0 (by decide)
              have zk_21_1 := lv_neT (a := 1) k_21_1 (by decide)
              have zk_21_2 := lv_neT (a := 2) k_21_2 (by decide)
              have zk_21_3 := lv_neT (a := 3) k_21_3 (by decide)
              have zk_21_4 := lv_neT (a := 4) k_21_4 (by decide)
              omega
            refine lv_tableOut (tgt := 215) hx hb dX8_go_21 hO (by decide) ?_
            refine lv_iconst (v := 0) hx hb dX8_go_215 (by decide) ?_
            have ef : (nI (st + 1)) = (nI (gst st cd)) := by rw [e0]; rfl
            have h : HS D A s H locs [(p0, .inr (8, [.ref p1, .int pgm, .ref p2, .int (nI rm), .int rdb, .int (nI (gst st cd)), .int (nI n), .int bar, .int hrs, .int crd, .ref p3, .ref p4, .ref p5, .ref p6, .ref p7, .int tof, .int tmu, .ref p8, .ref p9, .int bdn, .ref p10, .int snm, .ref p11, .ref p12, .ref p13, .int sdn, .int kcs, .int khr, .int ksn, .ref p14, .ref p15, .ref p16, .ref p17, .long hlg])), (p2, .inl (cI, 15, .inl rd))] := by rw [← ef]; exact h
            have ef : (nI rm) = (nI (grm st rm)) := by rw [e0]; rfl
            have h : HS D A s H locs [(p0, .inr (8, [.ref p1, .int pgm, .ref p2, .int (nI (grm st rm)), .int rdb, .int (nI (gst st cd)), .int (nI n), .int bar, .int hrs, .int crd, .ref p3, .ref p4, .ref p5, .ref p6, .ref p7, .int tof, .int tmu, .ref p8, .ref p9, .int bdn, .ref p10, .int snm, .ref p11, .ref p12, .ref p13, .int sdn, .int kcs, .int khr, .int ksn, .ref p14, .ref p15, .ref p16, .ref p17, .long hlg])), (p2, .inl (cI, 15, .inl rd))] := by rw [← ef]; exact h
            have ef : rdb = (grb st cd rdb) := by rw [e0]; rfl
            have h : HS D A s H locs [(p0, .inr (8, [.ref p1, .int pgm, .ref p2, .int (nI (grm st rm)), .int (grb st cd rdb), .int (nI (gst st cd)), .int (nI n), .int bar, .int hrs, .int crd, .ref p3, .ref p4, .ref p5, .ref p6, .ref p7, .int tof, .int tmu, .ref p8, .ref p9, .int bdn, .ref p10, .int snm, .ref p11, .ref p12, .ref p13, .int sdn, .int kcs, .int khr, .int ksn, .ref p14, .ref p15, .ref p16, .ref p17, .long hlg])), (p2, .inl (cI, 15, .inl rd))] := by rw [← ef]; exact h
            have h := h.arr 1 (g := grd st rm cd rd) rfl (fun j _ => by rw [e0]; rfl) rfl
            exact hret (r := 0) () dX8_go_216 h (rfl) (by rw [e0]; rfl)

set_option maxHeartbeats 4000000 in
set_option maxRecDepth 100000 in
theorem c_X8_faultOf (l : Launch) (D : va_G) (cI cZ : ClassId) (kS vS : Nat) (p0 : Nat) (p1 : Nat) (p2 : Nat) (p3 : Nat) (p4 : Nat) (p5 : Nat) (p6 : Nat) (p7 : Nat) (p8 : Nat) (p9 : Nat) (p10 : Nat) (p11 : Nat) (p12 : Nat) (p13 : Nat) (p14 : Nat) (p15 : Nat) (p16 : Nat) (p17 : Nat) (n : Nat) (rdm : Int32) (rdb : Int32) (stt : Int32) (bar : Int32) (hrs : Int32) (crd : Int32) (tof : Int32) (tmu : Int32) (bdn : Int32) (snm : Int32) (sdn : Int32) (kcs : Int32) (khr : Int32) (ksn : Int32) (hlg : Int64) (ps : Nat) (pg : Nat → Nat) (rd : Nat → Int32) (hp24 : ps ≤ 24) (hlt : ∀ j, j < ps → pg j < 127) : CI l yX8_faultOf cX8_faultOf 2 .int D cI cZ kS vS 2 48 0 0 [.ref p0] [(p0, .inr (8, [.ref p1, .int (nI ps), .ref p2, .int rdm, .int rdb, .int stt, .int (nI n), .int bar, .int hrs, .int crd, .ref p3, .ref p4, .ref p5, .ref p6, .ref p7, .int tof, .int tmu, .ref p8, .ref p9, .int bdn, .ref p10, .int snm, .ref p11, .ref p12, .ref p13, .int sdn, .int kcs, .int khr, .int ksn, .ref p14, .ref p15, .ref p16, .ref p17, .long hlg])), (p1, .inl (cI, 24, .inl (ro pg))), (p2, .inl (cI, 15, .inl rd))] (fun (r : Int32) (u : Int32 × Int32 × Int32 × (Nat → Int32)) => r = nI (ff pg ps) ∧ (ff pg ps = ps → u.1 = nI (gR pg ps) ∧ u.2.1 = nI (gS pg ps) ∧ u.2.2.1 = gB pg rdb ps ∧ u.2.2.2 = gD pg rd ps)) (fun (u : Int32 × Int32 × Int32 × (Nat → Int32)) => [(p0, .inr (8, [.ref p1, .int (nI ps), .ref p2, .int u.1, .int u.2.2.1, .int u.2.1, .int (nI n), .int bar, .int hrs, .int crd, .ref p3, .ref p4, .ref p5, .ref p6, .ref p7, .int tof, .int tmu, .ref p8, .ref p9, .int bdn, .ref p10, .int snm, .ref p11, .ref p12, .ref p13, .int sdn, .int kcs, .int khr, .int ksn, .ref p14, .ref p15, .ref p16, .ref p17, .long hlg])), (p1, .inl (cI, 24, .inl (ro pg))), (p2, .inl (cI, 15, .inl u.2.2.2))]) := by
  refine CI_intro (by decide) (Nat.le_of_ble_eq_true rfl) ?_
  intro p e s m args below meth c A Q ls C h hret hl
  have C : CX p s m args c cX8_faultOf 2 RX8 D cI cZ kS vS A := C
  have hx := C.1.1
  have hb := C.1.2.1
  have hl : lv_has ls 2 [(0, .ref p0)] := hl
  refine lv_aload_n hx hb dX8_faultOf_0 rfl (lv_at hl 0 rfl) ?_
  refine lv_iconst (v := 0) hx hb dX8_faultOf_1 (by decide) ?_
  refine r_put C h fk8 0 3 rfl (by decide) mf_RX8_77 rfl (rfl) rfl (Nat.le_of_ble_eq_true rfl) (ws' := [(p0, .inr (8, [.ref p1, .int (nI ps), .ref p2, .int 0, .int rdb, .int stt, .int (nI n), .int bar, .int hrs, .int crd, .ref p3, .ref p4, .ref p5, .ref p6, .ref p7, .int tof, .int tmu, .ref p8, .ref p9, .int bdn, .ref p10, .int snm, .ref p11, .ref p12, .ref p13, .int sdn, .int kcs, .int khr, .int ksn, .ref p14, .ref p15, .ref p16, .ref p17, .long hlg])), (p1, .inl (cI, 24, .inl (ro pg))), (p2, .inl (cI, 15, .inl rd))]) rfl dX8_faultOf_2 (fun H locs h => ?_)
  refine lv_aload_n hx hb dX8_faultOf_5 rfl (lv_at hl 0 rfl) ?_
  refine lv_iconst (v := 0) hx hb dX8_faultOf_6 (by decide) ?_
  refine r_put C h fk8 0 5 rfl (by decide) mf_RX8_74 rfl (rfl) rfl (Nat.le_of_ble_eq_true rfl) (ws' := [(p0, .inr (8, [.ref p1, .int (nI ps), .ref p2, .int 0, .int rdb, .int 0, .int (nI n), .int bar, .int hrs, .int crd, .ref p3, .ref p4, .ref p5, .ref p6, .ref p7, .int tof, .int tmu, .ref p8, .ref p9, .int bdn, .ref p10, .int snm, .ref p11, .ref p12, .ref p13, .int sdn, .int kcs, .int khr, .int ksn, .ref p14, .ref p15, .ref p16, .ref p17, .long hlg])), (p1, .inl (cI, 24, .inl (ro pg))), (p2, .inl (cI, 15, .inl rd))]) rfl dX8_faultOf_7 (fun H locs h => ?_)
  refine lv_iconst (v := 0) hx hb dX8_faultOf_10 (by decide) ?_
  refine lv_istore_n (lv' := [(1, .int 0), (0, .ref p0)]) hx hb dX8_faultOf_11 rfl hl (by decide) rfl (fun ls hl => ?_)
  have L12 : ∀ (fu : Nat) (k : Nat), (ps - k) < fu → (hk0 : k ≤ ps) → (hf : fft pg (ps - k) k = ff pg ps) → (ha : ∀ j, j < k → fitb pg j = true) → ∀ (H : Heap) (locs : List Loc) (ls : Array Slot), HS D A s H locs [(p0, .inr (8, [.ref p1, .int (nI ps), .ref p2, .int (nI (gR pg k)), .int (gB pg rdb k), .int (nI (gS pg k)), .int (nI n), .int bar, .int hrs, .int crd, .ref p3, .ref p4, .ref p5, .ref p6, .ref p7, .int tof, .int tmu, .ref p8, .ref p9, .int bdn, .ref p10, .int snm, .ref p11, .ref p12, .ref p13, .int sdn, .int kcs, .int khr, .int ksn, .ref p14, .ref p15, .ref p16, .ref p17, .long hlg])), (p1, .inl (cI, 24, .inl (ro pg))), (p2, .inl (cI, 15, .inl (gD pg rd k)))] → lv_has ls 2 [(0, .ref p0), (1, .int (nI k))] → W p l e (rmO 2 48 0 0) s m args below meth c H locs 0 0 Q (F0 m 12 ls []) := by
    intro fu
    induction fu with
    | zero => intro k hfu; exact absurd hfu (Nat.not_lt_zero _)
    | succ fu ih12 =>
      intro k hfu hk0 hf ha H locs ls h hl
      refine lv_iload_n hx hb dX8_faultOf_12 rfl (lv_at hl 1 rfl) ?_
      refine lv_aload_n hx hb dX8_faultOf_13 rfl (lv_at hl 0 rfl) ?_
      refine r_get C h fk8 0 1 rfl (by decide) mf_RX8_71 rfl dX8_faultOf_14 ?_
      refine lv_icmp_ge (tgt := 39) hx hb dX8_faultOf_17 (by decide) (fun c_17 => ?_) (fun c_17 => ?_)
      · skip
        have c_17 := (jle (a := ps) (b := k) (by omega) (by omega)).mp c_17
        have ek : k = ps := by omega
        have ef : ff pg ps = ps := by rw [← hf, ek, Nat.sub_self]; rfl
        refine lv_iload_n hx hb dX8_faultOf_39 rfl (lv_at hl 1 rfl) ?_
        exact hret (r := nI k) (⟨nI (gR pg k), nI (gS pg k), gB pg rdb k, gD pg rd k⟩) dX8_faultOf_40 h (rfl) (⟨congrArg nI (ek.trans ef.symm), fun _ => by rw [ek]; exact ⟨rfl, rfl, rfl, rfl⟩⟩)
      · skip
        have c_17 : ¬ ps ≤ k := fun z => c_17 ((jle (a := ps) (b := k) (by omega) (by omega)).mpr z)
        have hk : k < ps := by omega
        have fs := fft_s (pg := pg) hk
        have hcd := hlt k hk
        have eg := gfit_eq ha (by omega)
        have hR6 : gR pg k ≤ 6 := by rw [(gS_eq k ha).2]; omega
        refine lv_aload_n hx hb dX8_faultOf_20 rfl (lv_at hl 0 rfl) ?_
        refine lv_aload_n hx hb dX8_faultOf_21 rfl (lv_at hl 0 rfl) ?_
        refine r_get C h fk8 0 0 rfl (by decide) mf_RX8_7 rfl dX8_faultOf_22 ?_
        refine lv_iload_n hx hb dX8_faultOf_25 rfl (lv_at hl 1 rfl) ?_
        refine r_ld C h 1 rfl k (rfl) (by omega) (by decide) (x := nI (pg k)) (rfl) dX8_faultOf_26 ?_
        refine k_Vi (rest := []) (as := [.int (nI (pg k))]) (wc := [(p0, .inr (8, [.ref p1, .int (nI ps), .ref p2, .int (nI (gR pg k)), .int (gB pg rdb k), .int (nI (gS pg k)), .int (nI n), .int bar, .int hrs, .int crd, .ref p3, .ref p4, .ref p5, .ref p6, .ref p7, .int tof, .int tmu, .ref p8, .ref p9, .int bdn, .ref p10, .int snm, .ref p11, .ref p12, .ref p13, .int sdn, .int kcs, .int khr, .int ksn, .ref p14, .ref p15, .ref p16, .ref p17, .long hlg])), (p2, .inl (cI, 15, .inl (gD pg rd k)))]) (wr := [(p1, .inl (cI, 24, .inl (ro pg)))]) (isC := [0, 2]) (isR := [1]) (w2 := fun (_ : Unit) => [(p0, .inr (8, [.ref p1, .int (nI ps), .ref p2, .int (nI (grm (gS pg k) (gR pg k))), .int (grb (gS pg k) (pg k) (gB pg rdb k)), .int (nI (gst (gS pg k) (pg k))), .int (nI n), .int bar, .int hrs, .int crd, .ref p3, .ref p4, .ref p5, .ref p6, .ref p7, .int tof, .int tmu, .ref p8, .ref p9, .int bdn, .ref p10, .int snm, .ref p11, .ref p12, .ref p13, .int sdn, .int kcs, .int khr, .int ksn, .ref p14, .ref p15, .ref p16, .ref p17, .long hlg])), (p1, .inl (cI, 24, .inl (ro pg))), (p2, .inl (cI, 15, .inl (grd (gS pg k) (gR pg k) (pg k) (gD pg rd k))))]) C h (c_X8_go l D cI cZ kS vS p0 p1 p2 p3 p4 p5 p6 p7 p8 p9 p10 p11 p12 p13 p14 p15 p16 p17 n (nI ps) (gB pg rdb k) bar hrs crd tof tmu bdn snm sdn kcs khr ksn hlg (gS pg k) (gR pg k) (pg k) (gD pg rd k) (gS_le ha) hR6 (gR_4 ha) hcd) wv_X8_go rfl ⟨rfl, rfl, rfl, rfl, by decide⟩ fk8 0 rfl ml_RX8_91 [1, 0, 2] rfl (fun _ => rfl) ⟨Nat.le_of_ble_eq_true rfl, Nat.le_of_ble_eq_true rfl⟩ ⟨Nat.le_of_ble_eq_true rfl, Nat.le_of_ble_eq_true rfl⟩ (Nat.le_of_ble_eq_true rfl) hl rfl dX8_faultOf_27 (fun r u H locs hq h => ?_)
        have h : HS D A s H locs [(p0, .inr (8, [.ref p1, .int (nI ps), .ref p2, .int (nI (grm (gS pg k) (gR pg k))), .int (grb (gS pg k) (pg k) (gB pg rdb k)), .int (nI (gst (gS pg k) (pg k))), .int (nI n), .int bar, .int hrs, .int crd, .ref p3, .ref p4, .ref p5, .ref p6, .ref p7, .int tof, .int tmu, .ref p8, .ref p9, .int bdn, .ref p10, .int snm, .ref p11, .ref p12, .ref p13, .int sdn, .int kcs, .int khr, .int ksn, .ref p14, .ref p15, .ref p16, .ref p17, .long hlg])), (p1, .inl (cI, 24, .inl (ro pg))), (p2, .inl (cI, 15, .inl (grd (gS pg k) (gR pg k) (pg k) (gD pg rd k))))] := h
        have hq : r = bI (gfit (gS pg k) (gR pg k) (pg k)) := hq
        have hq := hq.symm
        subst hq
        refine lv_if_eq (tgt := 39) hx hb dX8_faultOf_30 (by decide) (fun c_30 => ?_) (fun c_30 => ?_)
        · skip
          have hfk : ¬ fitb pg k = true := by rw [← eg, bI_0.mp c_30]; decide
          have ek : ff pg ps = k := hf.symm.trans (fs.trans (if_neg hfk))
          refine lv_iload_n hx hb dX8_faultOf_39 rfl (lv_at hl 1 rfl) ?_
          exact hret (r := nI k) (⟨nI (grm (gS pg k) (gR pg k)), nI (gst (gS pg k) (pg k)), grb (gS pg k) (pg k) (gB pg rdb k), grd (gS pg k) (gR pg k) (pg k) (gD pg rd k)⟩) dX8_faultOf_40 h (rfl) (⟨congrArg nI ek.symm, fun z => absurd (ek.symm.trans z) (by omega)⟩)
        · skip
          have hfk : fitb pg k = true := eg.symm.trans (bI_n0.mp c_30)
          refine lv_iinc (v := nI (k + 1)) (lv' := [(1, .int (nI (k + 1))), (0, .ref p0)]) hx hb dX8_faultOf_33 hl (k := 1) rfl (nI_1 k) (by decide) rfl (fun ls hl => ?_)
          refine lv_goto (tgt := 12) hx hb dX8_faultOf_36 (by decide) ?_
          have h := h.arr 2 (g := gD pg rd (k + 1)) rfl (fun j hj => rfl) rfl
          exact ih12  (k + 1) (by omega) (by first | assumption | omega) ((if_pos hfk).symm.trans (fs.symm.trans hf)) (fun j hj => (Nat.lt_succ_iff_lt_or_eq.mp hj).elim (ha j) (fun e => by rw [e]; exact hfk)) _ _ _ h (lv_sub hl [1, 0] rfl)
  have h := h.arr 2 (g := gD pg rd 0) rfl (fun j hj => rfl) rfl
  exact L12 ((ps - 0) + 1) 0 (by omega) (by first | assumption | omega) rfl (fun j hj => absurd hj (Nat.not_lt_zero j)) _ _ _ h (lv_sub hl [1, 0] rfl)

