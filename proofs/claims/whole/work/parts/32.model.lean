set_option maxHeartbeats 4000000 in
set_option maxRecDepth 100000 in
theorem c_X8_layStands (l : Launch) (D : va_G) (cI cZ : ClassId) (kS vS : Nat) (p0 : Nat) (p1 : Nat) (p2 : Nat) (p3 : Nat) (p4 : Nat) (p5 : Nat) (p6 : Nat) (p7 : Nat) (p8 : Nat) (p9 : Nat) (p10 : Nat) (p11 : Nat) (p12 : Nat) (p13 : Nat) (p14 : Nat) (p15 : Nat) (p16 : Nat) (p17 : Nat) (n : Nat) (pgm : Int32) (rdm : Int32) (rdb : Int32) (stt : Int32) (bar : Int32) (hrs : Int32) (crd : Int32) (tof : Int32) (tmu : Int32) (bdn : Int32) (snm : Int32) (sdn : Int32) (kcs : Int32) (khr : Int32) (ksn : Int32) (hlg : Int64) (ρ : Nat → Nat) (code : Nat) (hn2 : 2 ≤ n) (hn5 : n ≤ 5) (hc : code ≤ 3125) : CI l yX8_layStands cX8_layStands 5 .boolean D cI cZ kS vS 0 0 0 0 [.ref p0, .int (nI code)] [(p0, .inr (8, [.ref p1, .int pgm, .ref p2, .int rdm, .int rdb, .int stt, .int (nI n), .int bar, .int hrs, .int crd, .ref p3, .ref p4, .ref p5, .ref p6, .ref p7, .int tof, .int tmu, .ref p8, .ref p9, .int bdn, .ref p10, .int snm, .ref p11, .ref p12, .ref p13, .int sdn, .int kcs, .int khr, .int ksn, .ref p14, .ref p15, .ref p16, .ref p17, .long hlg])), (p6, .inl (cI, 5, .inl (ro ρ)))] (fun (r : Int32) (_ : Unit) => r = bI (isp n code)) (fun (_ : Unit) => [(p0, .inr (8, [.ref p1, .int pgm, .ref p2, .int rdm, .int rdb, .int stt, .int (nI n), .int bar, .int hrs, .int crd, .ref p3, .ref p4, .ref p5, .ref p6, .ref p7, .int tof, .int tmu, .ref p8, .ref p9, .int bdn, .ref p10, .int snm, .ref p11, .ref p12, .ref p13, .int sdn, .int kcs, .int khr, .int ksn, .ref p14, .ref p15, .ref p16, .ref p17, .long hlg])), (p6, .inl (cI, 5, .inl (ro (lyf n n code 0 ρ).2)))]) := by
  refine CI_intro (by decide) (Nat.le_of_ble_eq_true rfl) ?_
  intro p e s m args below meth c A Q ls C h hret hl
  have C : CX p s m args c cX8_layStands 5 RX8 D cI cZ kS vS A := C
  have hx := C.1.1
  have hb := C.1.2.1
  have hl : lv_has ls 5 [(0, .ref p0), (1, .int (nI code))] := hl
  refine lv_iload_n hx hb dX8_layStands_0 rfl (lv_at hl 1 rfl) ?_
  refine lv_istore_n (lv' := [(2, .int (nI code)), (0, .ref p0), (1, .int (nI code))]) hx hb dX8_layStands_1 rfl hl (by decide) rfl (fun ls hl => ?_)
  refine lv_iconst (v := 0) hx hb dX8_layStands_2 (by decide) ?_
  refine lv_istore_n (lv' := [(3, .int 0), (2, .int (nI code)), (0, .ref p0), (1, .int (nI code))]) hx hb dX8_layStands_3 rfl hl (by decide) rfl (fun ls hl => ?_)
  refine lv_aload_n hx hb dX8_layStands_4 rfl (lv_at hl 2 rfl) ?_
  refine r_get C h fk8 0 6 rfl (by decide) mf_RX8_99 rfl dX8_layStands_5 ?_
  refine lv_iconst (v := 1) hx hb dX8_layStands_8 (by decide) ?_
  refine lv_isub hx hb dX8_layStands_9 ?_
  refine r_top (y := tmn n) (rfl) ?_
  refine lv_istore (lv' := [(4, .int (tmn n)), (3, .int 0), (2, .int (nI code)), (0, .ref p0), (1, .int (nI code))]) hx hb dX8_layStands_10 hl (by decide) rfl (fun ls hl => ?_)
  have L12 : ∀ (fu : Nat) (c0 : Nat) (left : Nat) (mask : Nat) (ρ1 : Nat → Nat), c0 < fu → (hl0 : c0 ≤ n ∧ left ≤ 3125 ∧ mask < 32) → (hV : lyf n c0 left mask ρ1 = lyf n n code 0 ρ) → ∀ (H : Heap) (locs : List Loc) (ls : Array Slot), HS D A s H locs [(p0, .inr (8, [.ref p1, .int pgm, .ref p2, .int rdm, .int rdb, .int stt, .int (nI n), .int bar, .int hrs, .int crd, .ref p3, .ref p4, .ref p5, .ref p6, .ref p7, .int tof, .int tmu, .ref p8, .ref p9, .int bdn, .ref p10, .int snm, .ref p11, .ref p12, .ref p13, .int sdn, .int kcs, .int khr, .int ksn, .ref p14, .ref p15, .ref p16, .ref p17, .long hlg])), (p6, .inl (cI, 5, .inl (ro ρ1)))] → lv_has ls 5 [(0, .ref p0), (2, .int (nI left)), (3, .int (nI mask)), (4, .int (tmn c0))] → W p l e (rmO 0 0 0 0) s m args below meth c H locs 0 0 Q (F0 m 12 ls []) := by
    intro fu
    induction fu with
    | zero => intro c0 left mask ρ1 hfu; exact absurd hfu (Nat.not_lt_zero _)
    | succ fu ih12 =>
      intro c0 left mask ρ1 hfu hl0 hV H locs ls h hl
      refine lv_iload hx hb dX8_layStands_12 (lv_at hl 3 rfl) ?_
      refine lv_if_lt (tgt := 55) hx hb dX8_layStands_14 (by decide) (fun c_14 => ?_) (fun c_14 => ?_)
      · skip
        have c_14 := (tmn_lt (by omega)).mp c_14
        subst c_14
        have hm : (lyf n n code 0 ρ).1 = mask := (congrArg Prod.fst hV).symm
        refine lv_iload_n hx hb dX8_layStands_55 rfl (lv_at hl 2 rfl) ?_
        refine lv_iconst (v := 1) hx hb dX8_layStands_56 (by decide) ?_
        refine lv_aload_n hx hb dX8_layStands_57 rfl (lv_at hl 0 rfl) ?_
        refine r_get C h fk8 0 6 rfl (by decide) mf_RX8_99 rfl dX8_layStands_58 ?_
        refine lv_ishl hx hb dX8_layStands_61 ?_
        refine lv_iconst (v := 1) hx hb dX8_layStands_62 (by decide) ?_
        refine lv_isub hx hb dX8_layStands_63 ?_
        refine r_top (y := nI (2 ^ n - 1)) (mask_e n (by omega)) ?_
        have hp2 := pow2_n n (by omega)
        refine lv_icmp_ne (tgt := 71) hx hb dX8_layStands_64 (by decide) (fun c_64 => ?_) (fun c_64 => ?_)
        · skip
          have c_64 : ¬ mask = (2 ^ n - 1) := fun z => c_64 ((jeq (a := mask) (b := (2 ^ n - 1)) (by omega) (by omega)).mpr z)
          refine lv_iconst (v := 0) hx hb dX8_layStands_71 (by decide) ?_
          have h := h.arr 1 (g := ro (lyf n n code 0 ρ).2) rfl (fun j _ => congrArg (fun z : Nat × (Nat → Nat) => nI (z.2 j)) hV) rfl
          exact hret (r := 0) () dX8_layStands_72 h (rfl) (by rw [isp_f (fun z => c_64 (hm.symm.trans z))]; rfl)
        · skip
          have c_64 := (jeq (a := mask) (b := (2 ^ n - 1)) (by omega) (by omega)).mp c_64
          refine lv_iconst (v := 1) hx hb dX8_layStands_67 (by decide) ?_
          refine lv_goto (tgt := 72) hx hb dX8_layStands_68 (by decide) ?_
          have h := h.arr 1 (g := ro (lyf n n code 0 ρ).2) rfl (fun j _ => congrArg (fun z : Nat × (Nat → Nat) => nI (z.2 j)) hV) rfl
          exact hret (r := 1) () dX8_layStands_72 h (rfl) (by rw [isp_t (hm.trans c_64)]; rfl)
      · skip
        have c_14 : ¬ c0 = 0 := fun z => c_14 ((tmn_lt (by omega)).mpr z)
        obtain ⟨k, rfl⟩ : ∃ k, c0 = k + 1 := ⟨c0 - 1, by omega⟩
        have hl : lv_has ls 5 [(0, .ref p0), (2, .int (nI left)), (3, .int (nI mask)), (4, .int (nI k))] := by rw [← tmn_s k]; exact hl
        have hdn : left % n < n := Nat.mod_lt _ (by omega)
        have hd5 : left % n < 5 := by omega
        refine lv_aload_n hx hb dX8_layStands_17 rfl (lv_at hl 0 rfl) ?_
        refine r_get C h fk8 0 13 rfl (by decide) mf_RX8_25 rfl dX8_layStands_18 ?_
        refine lv_iload hx hb dX8_layStands_21 (lv_at hl 3 rfl) ?_
        refine lv_iload_n hx hb dX8_layStands_23 rfl (lv_at hl 1 rfl) ?_
        refine lv_aload_n hx hb dX8_layStands_24 rfl (lv_at hl 0 rfl) ?_
        refine r_get C h fk8 0 6 rfl (by decide) mf_RX8_99 rfl dX8_layStands_25 ?_
        refine lv_irem hx hb dX8_layStands_28 (nI_ne0 (by omega) (by omega)) ?_
        refine r_top (y := nI (left % n)) (pk_rem (by omega) (by omega) (by omega)) ?_
        refine r_st C h 1 rfl k (rfl) (by omega) (by decide) (g := ro (un ρ1 k (left % n))) (fun j _ => ro_un j) (ws' := [(p0, .inr (8, [.ref p1, .int pgm, .ref p2, .int rdm, .int rdb, .int stt, .int (nI n), .int bar, .int hrs, .int crd, .ref p3, .ref p4, .ref p5, .ref p6, .ref p7, .int tof, .int tmu, .ref p8, .ref p9, .int bdn, .ref p10, .int snm, .ref p11, .ref p12, .ref p13, .int sdn, .int kcs, .int khr, .int ksn, .ref p14, .ref p15, .ref p16, .ref p17, .long hlg])), (p6, .inl (cI, 5, .inl (ro (un ρ1 k (left % n)))))]) rfl dX8_layStands_29 (fun H locs h => ?_)
        refine lv_iload_n hx hb dX8_layStands_30 rfl (lv_at hl 2 rfl) ?_
        refine lv_iconst (v := 1) hx hb dX8_layStands_31 (by decide) ?_
        refine lv_aload_n hx hb dX8_layStands_32 rfl (lv_at hl 0 rfl) ?_
        refine r_get C h fk8 0 13 rfl (by decide) mf_RX8_25 rfl dX8_layStands_33 ?_
        refine lv_iload hx hb dX8_layStands_36 (lv_at hl 3 rfl) ?_
        refine r_ld C h 1 rfl k (rfl) (by omega) (by decide) (x := nI (left % n)) (congrArg nI (un_s _ _ _)) dX8_layStands_38 ?_
        refine lv_ishl hx hb dX8_layStands_39 ?_
        refine lv_ior hx hb dX8_layStands_40 ?_
        refine r_top (y := nI (mask ||| 2 ^ (left % n))) (mask_or _ hl0.2.2 _ hd5) ?_
        refine lv_istore_n (lv' := [(3, .int (nI (mask ||| 2 ^ (left % n)))), (0, .ref p0), (2, .int (nI left)), (4, .int (nI k))]) hx hb dX8_layStands_41 rfl hl (by decide) rfl (fun ls hl => ?_)
        refine lv_iload_n hx hb dX8_layStands_42 rfl (lv_at hl 2 rfl) ?_
        refine lv_aload_n hx hb dX8_layStands_43 rfl (lv_at hl 1 rfl) ?_
        refine r_get C h fk8 0 6 rfl (by decide) mf_RX8_99 rfl dX8_layStands_44 ?_
        refine lv_idiv hx hb dX8_layStands_47 (nI_ne0 (by omega) (by omega)) ?_
        refine r_top (y := nI (left / n)) (pk_div (by omega) (by omega) (by omega)) ?_
        refine lv_istore_n (lv' := [(2, .int (nI (left / n))), (3, .int (nI (mask ||| 2 ^ (left % n)))), (0, .ref p0), (4, .int (nI k))]) hx hb dX8_layStands_48 rfl hl (by decide) rfl (fun ls hl => ?_)
        refine lv_iinc (v := tmn k) (lv' := [(4, .int (tmn k)), (2, .int (nI (left / n))), (3, .int (nI (mask ||| 2 ^ (left % n)))), (0, .ref p0)]) hx hb dX8_layStands_49 hl (k := 3) rfl (tmn_d k) (by decide) rfl (fun ls hl => ?_)
        refine lv_goto (tgt := 12) hx hb dX8_layStands_52 (by decide) ?_
        exact ih12  k (left / n) (mask ||| 2 ^ (left % n)) (un ρ1 k (left % n)) (by omega) (⟨by omega, Nat.le_trans (Nat.div_le_self _ _) (by omega), mask_lt _ hl0.2.2 _ hd5⟩) hV _ _ _ h (lv_sub hl [3, 1, 2, 0] rfl)
  exact L12 (n + 1) n code 0 ρ (by omega) (by omega) rfl _ _ _ h (lv_sub hl [3, 2, 1, 0] rfl)

set_option maxHeartbeats 4000000 in
set_option maxRecDepth 100000 in
theorem c_X8_layBest (l : Launch) (D : va_G) (cI cZ : ClassId) (kS vS : Nat) (p0 : Nat) (p1 : Nat) (p2 : Nat) (p3 : Nat) (p4 : Nat) (p5 : Nat) (p6 : Nat) (p7 : Nat) (p8 : Nat) (p9 : Nat) (p10 : Nat) (p11 : Nat) (p12 : Nat) (p13 : Nat) (p14 : Nat) (p15 : Nat) (p16 : Nat) (p17 : Nat) (n : Nat) (pgm : Int32) (rdm : Int32) (rdb : Int32) (stt : Int32) (bar : Int32) (hrs : Int32) (crd : Int32) (tof : Int32) (tmu : Int32) (bdn : Int32) (snm : Int32) (sdn : Int32) (kcs : Int32) (khr : Int32) (ksn : Int32) (hlg : Int64) (w : Nat → Int32) (ρ : Nat → Nat) (K : Nat → Int32) (F : Nat → Int32) (sw : Nat → Int32) (ss : Nat → Int32) (f0 : Nat → Int32) (hn2 : 2 ≤ n) (hn5 : n ≤ 5) (hK : ∀ j, j < n → K j = 0 ∨ K j = 1 ∨ K j = 2 ∨ K j = 3 ∨ K j = 4) (hv0 : ∀ l, l ∈ PL n → ¬ hvl n K F bar w l = -1) : CI l yX8_layBest cX8_layBest 6 .int D cI cZ kS vS 2 48 0 0 [.ref p0] [(p0, .inr (8, [.ref p1, .int pgm, .ref p2, .int rdm, .int rdb, .int stt, .int (nI n), .int bar, .int hrs, .int crd, .ref p3, .ref p4, .ref p5, .ref p6, .ref p7, .int tof, .int tmu, .ref p8, .ref p9, .int bdn, .ref p10, .int snm, .ref p11, .ref p12, .ref p13, .int sdn, .int kcs, .int khr, .int ksn, .ref p14, .ref p15, .ref p16, .ref p17, .long hlg])), (p3, .inl (cI, 5, .inl K)), (p4, .inl (cI, 5, .inl F)), (p5, .inl (cI, 5, .inl w)), (p6, .inl (cI, 5, .inl (ro ρ))), (p8, .inl (cI, 5, .inl sw)), (p9, .inl (cI, 5, .inl ss)), (p10, .inl (cI, 5, .inl f0))] (fun (r : Int32) (u : Int32 × Int32 × (Nat → Int32)) => r = (cst (hvl n K F bar w) (PL n) ((PL n).length - 1)).1 ∧ (∀ j, j < n → u.2.2 j = nI (lg (cst (hvl n K F bar w) (PL n) ((PL n).length - 1)).2 j))) (fun (u : Int32 × Int32 × (Nat → Int32)) => [(p0, .inr (8, [.ref p1, .int pgm, .ref p2, .int rdm, .int rdb, .int stt, .int (nI n), .int bar, .int hrs, .int crd, .ref p3, .ref p4, .ref p5, .ref p6, .ref p7, .int u.1, .int u.2.1, .ref p8, .ref p9, .int bdn, .ref p10, .int snm, .ref p11, .ref p12, .ref p13, .int sdn, .int kcs, .int khr, .int ksn, .ref p14, .ref p15, .ref p16, .ref p17, .long hlg])), (p3, .inl (cI, 5, .inl K)), (p4, .inl (cI, 5, .inl F)), (p5, .inl (cI, 5, .inl w)), (p6, .inl (cI, 5, .inl (ro ρ))), (p8, .inl (cI, 5, .inl w)), (p9, .inl (cI, 5, .inl (ro ρ))), (p10, .inl (cI, 5, .inl u.2.2))]) := by
  refine CI_intro (by decide) (Nat.le_of_ble_eq_true rfl) ?_
  intro p e s m args below meth c A Q ls C h hret hl
  have C : CX p s m args c cX8_layBest 6 RX8 D cI cZ kS vS A := C
  have hx := C.1.1
  have hb := C.1.2.1
  have hl : lv_has ls 6 [(0, .ref p0)] := hl
  have h6 : n < 6 := by omega
  have hPn := pow_n n h6 n (by omega)
  refine lv_iconst (v := 1) hx hb dX8_layBest_0 (by decide) ?_
  refine lv_istore_n (lv' := [(1, .int 1), (0, .ref p0)]) hx hb dX8_layBest_1 rfl hl (by decide) rfl (fun ls hl => ?_)
  refine lv_iconst (v := 0) hx hb dX8_layBest_2 (by decide) ?_
  refine lv_istore_n (lv' := [(2, .int 0), (1, .int 1), (0, .ref p0)]) hx hb dX8_layBest_3 rfl hl (by decide) rfl (fun ls hl => ?_)
  have L4 : ∀ (fu : Nat) (i : Nat), (n - i) < fu → (hi : i ≤ n) → ∀ (H : Heap) (locs : List Loc) (ls : Array Slot), HS D A s H locs [(p0, .inr (8, [.ref p1, .int pgm, .ref p2, .int rdm, .int rdb, .int stt, .int (nI n), .int bar, .int hrs, .int crd, .ref p3, .ref p4, .ref p5, .ref p6, .ref p7, .int tof, .int tmu, .ref p8, .ref p9, .int bdn, .ref p10, .int snm, .ref p11, .ref p12, .ref p13, .int sdn, .int kcs, .int khr, .int ksn, .ref p14, .ref p15, .ref p16, .ref p17, .long hlg])), (p3, .inl (cI, 5, .inl K)), (p4, .inl (cI, 5, .inl F)), (p5, .inl (cI, 5, .inl w)), (p6, .inl (cI, 5, .inl (ro ρ))), (p8, .inl (cI, 5, .inl sw)), (p9, .inl (cI, 5, .inl ss)), (p10, .inl (cI, 5, .inl f0))] → lv_has ls 6 [(0, .ref p0), (1, .int (nI (n ^ i))), (2, .int (nI i))] → W p l e (rmO 2 48 0 0) s m args below meth c H locs 0 0 Q (F0 m 4 ls []) := by
    intro fu
    induction fu with
    | zero => intro i hfu; exact absurd hfu (Nat.not_lt_zero _)
    | succ fu ih4 =>
      intro i hfu hi H locs ls h hl
      refine lv_iload_n hx hb dX8_layBest_4 rfl (lv_at hl 2 rfl) ?_
      refine lv_aload_n hx hb dX8_layBest_5 rfl (lv_at hl 0 rfl) ?_
      refine r_get C h fk8 0 6 rfl (by decide) mf_RX8_99 rfl dX8_layBest_6 ?_
      refine lv_icmp_ge (tgt := 25) hx hb dX8_layBest_9 (by decide) (fun c_9 => ?_) (fun c_9 => ?_)
      · skip
        have c_9 := (jle (a := n) (b := i) (by omega) (by omega)).mp c_9
        obtain rfl : n = i := by omega
        refine lv_iconst (v := (-1)) hx hb dX8_layBest_25 (by decide) ?_
        refine lv_istore_n (lv' := [(2, .int (-1)), (0, .ref p0), (1, .int (nI (n ^ n)))]) hx hb dX8_layBest_26 rfl hl (by decide) rfl (fun ls hl => ?_)
        refine lv_aload_n hx hb dX8_layBest_27 rfl (lv_at hl 1 rfl) ?_
        refine k_Vv (rest := []) (as := []) (wc := [(p0, .inr (8, [.ref p1, .int pgm, .ref p2, .int rdm, .int rdb, .int stt, .int (nI n), .int bar, .int hrs, .int crd, .ref p3, .ref p4, .ref p5, .ref p6, .ref p7, .int tof, .int tmu, .ref p8, .ref p9, .int bdn, .ref p10, .int snm, .ref p11, .ref p12, .ref p13, .int sdn, .int kcs, .int khr, .int ksn, .ref p14, .ref p15, .ref p16, .ref p17, .long hlg])), (p5, .inl (cI, 5, .inl w)), (p6, .inl (cI, 5, .inl (ro ρ))), (p8, .inl (cI, 5, .inl sw)), (p9, .inl (cI, 5, .inl ss))]) (wr := [(p3, .inl (cI, 5, .inl K)), (p4, .inl (cI, 5, .inl F)), (p10, .inl (cI, 5, .inl f0))]) (isC := [0, 3, 4, 5, 6]) (isR := [1, 2, 7]) (w2 := fun (_ : Unit) => [(p0, .inr (8, [.ref p1, .int pgm, .ref p2, .int rdm, .int rdb, .int stt, .int (nI n), .int bar, .int hrs, .int crd, .ref p3, .ref p4, .ref p5, .ref p6, .ref p7, .int tof, .int tmu, .ref p8, .ref p9, .int bdn, .ref p10, .int snm, .ref p11, .ref p12, .ref p13, .int sdn, .int kcs, .int khr, .int ksn, .ref p14, .ref p15, .ref p16, .ref p17, .long hlg])), (p3, .inl (cI, 5, .inl K)), (p4, .inl (cI, 5, .inl F)), (p5, .inl (cI, 5, .inl w)), (p6, .inl (cI, 5, .inl (ro ρ))), (p8, .inl (cI, 5, .inl w)), (p9, .inl (cI, 5, .inl (ro ρ))), (p10, .inl (cI, 5, .inl f0))]) C h (c_X8_layAside l D cI cZ kS vS p0 p1 p2 p3 p4 p5 p6 p7 p8 p9 p10 p11 p12 p13 p14 p15 p16 p17 n pgm rdm rdb stt bar hrs crd tof tmu bdn snm sdn kcs khr ksn hlg w (ro ρ) sw ss ) wv_X8_layAside rfl ⟨rfl, rfl, rfl, rfl, by decide⟩ fk8 0 rfl ml_RX8_132 [3, 0, 1, 4, 5, 6, 7, 2] rfl (fun _ => rfl) ⟨Nat.le_of_ble_eq_true rfl, Nat.le_of_ble_eq_true rfl⟩ ⟨Nat.le_of_ble_eq_true rfl, Nat.le_of_ble_eq_true rfl⟩ (Nat.le_of_ble_eq_true rfl) hl rfl dX8_layBest_28 (fun u H locs hq h => ?_)
        have h : HS D A s H locs [(p0, .inr (8, [.ref p1, .int pgm, .ref p2, .int rdm, .int rdb, .int stt, .int (nI n), .int bar, .int hrs, .int crd, .ref p3, .ref p4, .ref p5, .ref p6, .ref p7, .int tof, .int tmu, .ref p8, .ref p9, .int bdn, .ref p10, .int snm, .ref p11, .ref p12, .ref p13, .int sdn, .int kcs, .int khr, .int ksn, .ref p14, .ref p15, .ref p16, .ref p17, .long hlg])), (p3, .inl (cI, 5, .inl K)), (p4, .inl (cI, 5, .inl F)), (p5, .inl (cI, 5, .inl w)), (p6, .inl (cI, 5, .inl (ro ρ))), (p8, .inl (cI, 5, .inl w)), (p9, .inl (cI, 5, .inl (ro ρ))), (p10, .inl (cI, 5, .inl f0))] := h
        have hq : True := hq
        refine lv_iconst (v := 0) hx hb dX8_layBest_31 (by decide) ?_
        refine lv_istore_n (lv' := [(3, .int 0), (2, .int (-1)), (0, .ref p0), (1, .int (nI (n ^ n)))]) hx hb dX8_layBest_32 rfl hl (by decide) rfl (fun ls hl => ?_)
        have L33 : ∀ (fu : Nat) (c1 : Nat) (to1 : Int32) (tm1 : Int32) (ρ1 : Nat → Nat) (f1 : Nat → Int32), (n ^ n - c1) < fu → (hc1 : c1 ≤ n ^ n) → (hb1 : ¬ (mst (hvl n K F bar w) n c1).1 = -1 → ∀ j, j < n → f1 j = nI (lg (mst (hvl n K F bar w) n c1).2 j)) → ∀ (H : Heap) (locs : List Loc) (ls : Array Slot), HS D A s H locs [(p0, .inr (8, [.ref p1, .int pgm, .ref p2, .int rdm, .int rdb, .int stt, .int (nI n), .int bar, .int hrs, .int crd, .ref p3, .ref p4, .ref p5, .ref p6, .ref p7, .int to1, .int tm1, .ref p8, .ref p9, .int bdn, .ref p10, .int snm, .ref p11, .ref p12, .ref p13, .int sdn, .int kcs, .int khr, .int ksn, .ref p14, .ref p15, .ref p16, .ref p17, .long hlg])), (p3, .inl (cI, 5, .inl K)), (p4, .inl (cI, 5, .inl F)), (p5, .inl (cI, 5, .inl w)), (p6, .inl (cI, 5, .inl (ro ρ1))), (p8, .inl (cI, 5, .inl w)), (p9, .inl (cI, 5, .inl (ro ρ))), (p10, .inl (cI, 5, .inl f1))] → lv_has ls 6 [(0, .ref p0), (1, .int (nI (n ^ n))), (2, .int (mst (hvl n K F bar w) n c1).1), (3, .int (nI c1))] → W p l e (rmO 2 48 0 0) s m args below meth c H locs 0 0 Q (F0 m 33 ls []) := by
          intro fu
          induction fu with
          | zero => intro c1 to1 tm1 ρ1 f1 hfu; exact absurd hfu (Nat.not_lt_zero _)
          | succ fu ih33 =>
            intro c1 to1 tm1 ρ1 f1 hfu hc1 hb1 H locs ls h hl
            refine lv_iload_n hx hb dX8_layBest_33 rfl (lv_at hl 3 rfl) ?_
            refine lv_iload_n hx hb dX8_layBest_34 rfl (lv_at hl 1 rfl) ?_
            refine lv_icmp_ge (tgt := 121) hx hb dX8_layBest_35 (by decide) (fun c_35 => ?_) (fun c_35 => ?_)
            · skip
              have c_35 := (jle (a := (n ^ n)) (b := c1) (by omega) (by omega)).mp c_35
              obtain rfl : n ^ n = c1 := by omega
              have eM := mst_cst h6 hn2 hv0
              have hne := (cst_fold hv0 ((PL n).length - 1) (by have := (tb1 n h6 hn2).1; omega)).2
              refine lv_aload_n hx hb dX8_layBest_121 rfl (lv_at hl 0 rfl) ?_
              refine k_Vv (rest := []) (as := []) (wc := [(p0, .inr (8, [.ref p1, .int pgm, .ref p2, .int rdm, .int rdb, .int stt, .int (nI n), .int bar, .int hrs, .int crd, .ref p3, .ref p4, .ref p5, .ref p6, .ref p7, .int to1, .int tm1, .ref p8, .ref p9, .int bdn, .ref p10, .int snm, .ref p11, .ref p12, .ref p13, .int sdn, .int kcs, .int khr, .int ksn, .ref p14, .ref p15, .ref p16, .ref p17, .long hlg])), (p8, .inl (cI, 5, .inl w)), (p9, .inl (cI, 5, .inl (ro ρ))), (p5, .inl (cI, 5, .inl w)), (p6, .inl (cI, 5, .inl (ro ρ1)))]) (wr := [(p3, .inl (cI, 5, .inl K)), (p4, .inl (cI, 5, .inl F)), (p10, .inl (cI, 5, .inl f1))]) (isC := [0, 5, 6, 3, 4]) (isR := [1, 2, 7]) (w2 := fun (_ : Unit) => [(p0, .inr (8, [.ref p1, .int pgm, .ref p2, .int rdm, .int rdb, .int stt, .int (nI n), .int bar, .int hrs, .int crd, .ref p3, .ref p4, .ref p5, .ref p6, .ref p7, .int to1, .int tm1, .ref p8, .ref p9, .int bdn, .ref p10, .int snm, .ref p11, .ref p12, .ref p13, .int sdn, .int kcs, .int khr, .int ksn, .ref p14, .ref p15, .ref p16, .ref p17, .long hlg])), (p3, .inl (cI, 5, .inl K)), (p4, .inl (cI, 5, .inl F)), (p5, .inl (cI, 5, .inl w)), (p6, .inl (cI, 5, .inl (ro ρ))), (p8, .inl (cI, 5, .inl w)), (p9, .inl (cI, 5, .inl (ro ρ))), (p10, .inl (cI, 5, .inl f1))]) C h (c_X8_layBack l D cI cZ kS vS p0 p1 p2 p3 p4 p5 p6 p7 p8 p9 p10 p11 p12 p13 p14 p15 p16 p17 n pgm rdm rdb stt bar hrs crd to1 tm1 bdn snm sdn kcs khr ksn hlg w (ro ρ) w (ro ρ1) ) wv_X8_layBack rfl ⟨rfl, rfl, rfl, rfl, by decide⟩ fk8 0 rfl ml_RX8_138 [3, 0, 1, 6, 7, 4, 5, 2] rfl (fun _ => rfl) ⟨Nat.le_of_ble_eq_true rfl, Nat.le_of_ble_eq_true rfl⟩ ⟨Nat.le_of_ble_eq_true rfl, Nat.le_of_ble_eq_true rfl⟩ (Nat.le_of_ble_eq_true rfl) hl rfl dX8_layBest_122 (fun u H locs hq h => ?_)
              have h : HS D A s H locs [(p0, .inr (8, [.ref p1, .int pgm, .ref p2, .int rdm, .int rdb, .int stt, .int (nI n), .int bar, .int hrs, .int crd, .ref p3, .ref p4, .ref p5, .ref p6, .ref p7, .int to1, .int tm1, .ref p8, .ref p9, .int bdn, .ref p10, .int snm, .ref p11, .ref p12, .ref p13, .int sdn, .int kcs, .int khr, .int ksn, .ref p14, .ref p15, .ref p16, .ref p17, .long hlg])), (p3, .inl (cI, 5, .inl K)), (p4, .inl (cI, 5, .inl F)), (p5, .inl (cI, 5, .inl w)), (p6, .inl (cI, 5, .inl (ro ρ))), (p8, .inl (cI, 5, .inl w)), (p9, .inl (cI, 5, .inl (ro ρ))), (p10, .inl (cI, 5, .inl f1))] := h
              have hq : True := hq
              refine lv_iload_n hx hb dX8_layBest_125 rfl (lv_at hl 2 rfl) ?_
              exact hret (r := (mst (hvl n K F bar w) n (n ^ n)).1) (⟨to1, tm1, f1⟩) dX8_layBest_126 h (rfl) (⟨congrArg Prod.fst eM, fun j hj => (hb1 (by rw [eM]; exact hne) j hj).trans (by rw [eM])⟩)
            · skip
              have c_35 : ¬ (n ^ n) ≤ c1 := fun z => c_35 ((jle (a := (n ^ n)) (b := c1) (by omega) (by omega)).mpr z)
              have hlt : c1 < n ^ n := by omega
              refine lv_aload_n hx hb dX8_layBest_38 rfl (lv_at hl 0 rfl) ?_
              refine lv_iload_n hx hb dX8_layBest_39 rfl (lv_at hl 3 rfl) ?_
              refine k_Vi (rest := []) (as := [.int (nI c1)]) (wc := [(p0, .inr (8, [.ref p1, .int pgm, .ref p2, .int rdm, .int rdb, .int stt, .int (nI n), .int bar, .int hrs, .int crd, .ref p3, .ref p4, .ref p5, .ref p6, .ref p7, .int to1, .int tm1, .ref p8, .ref p9, .int bdn, .ref p10, .int snm, .ref p11, .ref p12, .ref p13, .int sdn, .int kcs, .int khr, .int ksn, .ref p14, .ref p15, .ref p16, .ref p17, .long hlg])), (p6, .inl (cI, 5, .inl (ro ρ1)))]) (wr := [(p3, .inl (cI, 5, .inl K)), (p4, .inl (cI, 5, .inl F)), (p5, .inl (cI, 5, .inl w)), (p8, .inl (cI, 5, .inl w)), (p9, .inl (cI, 5, .inl (ro ρ))), (p10, .inl (cI, 5, .inl f1))]) (isC := [0, 4]) (isR := [1, 2, 3, 5, 6, 7]) (w2 := fun (_ : Unit) => [(p0, .inr (8, [.ref p1, .int pgm, .ref p2, .int rdm, .int rdb, .int stt, .int (nI n), .int bar, .int hrs, .int crd, .ref p3, .ref p4, .ref p5, .ref p6, .ref p7, .int to1, .int tm1, .ref p8, .ref p9, .int bdn, .ref p10, .int snm, .ref p11, .ref p12, .ref p13, .int sdn, .int kcs, .int khr, .int ksn, .ref p14, .ref p15, .ref p16, .ref p17, .long hlg])), (p3, .inl (cI, 5, .inl K)), (p4, .inl (cI, 5, .inl F)), (p5, .inl (cI, 5, .inl w)), (p6, .inl (cI, 5, .inl (ro (lyf n n c1 0 ρ1).2))), (p8, .inl (cI, 5, .inl w)), (p9, .inl (cI, 5, .inl (ro ρ))), (p10, .inl (cI, 5, .inl f1))]) C h (c_X8_layStands l D cI cZ kS vS p0 p1 p2 p3 p4 p5 p6 p7 p8 p9 p10 p11 p12 p13 p14 p15 p16 p17 n pgm rdm rdb stt bar hrs crd to1 tm1 bdn snm sdn kcs khr ksn hlg ρ1 c1 hn2 hn5 (by omega)) wv_X8_layStands rfl ⟨rfl, rfl, rfl, rfl, by decide⟩ fk8 0 rfl ml_RX8_179 [6, 0, 1, 2, 7, 3, 4, 5] rfl (fun _ => rfl) ⟨Nat.le_of_ble_eq_true rfl, Nat.le_of_ble_eq_true rfl⟩ ⟨Nat.le_of_ble_eq_true rfl, Nat.le_of_ble_eq_true rfl⟩ (Nat.le_of_ble_eq_true rfl) hl rfl dX8_layBest_40 (fun r u H locs hq h => ?_)
              have h : HS D A s H locs [(p0, .inr (8, [.ref p1, .int pgm, .ref p2, .int rdm, .int rdb, .int stt, .int (nI n), .int bar, .int hrs, .int crd, .ref p3, .ref p4, .ref p5, .ref p6, .ref p7, .int to1, .int tm1, .ref p8, .ref p9, .int bdn, .ref p10, .int snm, .ref p11, .ref p12, .ref p13, .int sdn, .int kcs, .int khr, .int ksn, .ref p14, .ref p15, .ref p16, .ref p17, .long hlg])), (p3, .inl (cI, 5, .inl K)), (p4, .inl (cI, 5, .inl F)), (p5, .inl (cI, 5, .inl w)), (p6, .inl (cI, 5, .inl (ro (lyf n n c1 0 ρ1).2))), (p8, .inl (cI, 5, .inl w)), (p9, .inl (cI, 5, .inl (ro ρ))), (p10, .inl (cI, 5, .inl f1))] := h
              have hq : r = bI (isp n c1) := hq
              have hq := hq.symm
              subst hq
              refine lv_if_eq (tgt := 115) hx hb dX8_layBest_43 (by decide) (fun c_43 => ?_) (fun c_43 => ?_)
              · skip
                have em := mst_f (v := hvl n K F bar w) (bI_0.mp c_43)
                have hb2 : ¬ (mst (hvl n K F bar w) n (c1 + 1)).1 = -1 → ∀ j, j < n → f1 j = nI (lg (mst (hvl n K F bar w) n (c1 + 1)).2 j) := by rw [em]; exact hb1
                refine lv_iinc (v := nI (c1 + 1)) (lv' := [(3, .int (nI (c1 + 1))), (0, .ref p0), (1, .int (nI (n ^ n))), (2, .int (mst (hvl n K F bar w) n c1).1)]) hx hb dX8_layBest_115 hl (k := 3) rfl (nI_1 c1) (by decide) rfl (fun ls hl => ?_)
                refine lv_goto (tgt := 33) hx hb dX8_layBest_118 (by decide) ?_
                have hl : lv_has ls 6 [(3, .int (nI (c1 + 1))), (0, .ref p0), (1, .int (nI (n ^ n))), (2, .int (mst (hvl n K F bar w) n (c1 + 1)).1)] := by rw [em]; exact hl
                exact ih33  (c1 + 1) to1 tm1 (lyf n n c1 0 ρ1).2 f1 (by omega) (by first | assumption | omega) hb2 _ _ _ h (lv_sub hl [1, 2, 3, 0] rfl)
              · skip
                have ep := bI_n0.mp c_43
                have hpm := isp_pm (ρ := ρ1) h6 hn2 hlt ep
                have em0 := mst_t (v := hvl n K F bar w) ep
                refine lv_iconst (v := 0) hx hb dX8_layBest_46 (by decide) ?_
                refine lv_istore (lv' := [(4, .int 0), (0, .ref p0), (1, .int (nI (n ^ n))), (2, .int (mst (hvl n K F bar w) n c1).1), (3, .int (nI c1))]) hx hb dX8_layBest_47 hl (by decide) rfl (fun ls hl => ?_)
                have L49 : ∀ (fu : Nat) (k : Nat) (to2 : Int32) (tm2 : Int32), (10 - k) < fu → (hk : k ≤ 10) → ∀ (H : Heap) (locs : List Loc) (ls : Array Slot), HS D A s H locs [(p0, .inr (8, [.ref p1, .int pgm, .ref p2, .int rdm, .int rdb, .int stt, .int (nI n), .int bar, .int hrs, .int crd, .ref p3, .ref p4, .ref p5, .ref p6, .ref p7, .int to2, .int tm2, .ref p8, .ref p9, .int bdn, .ref p10, .int snm, .ref p11, .ref p12, .ref p13, .int sdn, .int kcs, .int khr, .int ksn, .ref p14, .ref p15, .ref p16, .ref p17, .long hlg])), (p3, .inl (cI, 5, .inl K)), (p4, .inl (cI, 5, .inl F)), (p5, .inl (cI, 5, .inl (hit n K F bar w (lyf n n c1 0 ρ1).2 k).1)), (p6, .inl (cI, 5, .inl (ro (hit n K F bar w (lyf n n c1 0 ρ1).2 k).2))), (p8, .inl (cI, 5, .inl w)), (p9, .inl (cI, 5, .inl (ro ρ))), (p10, .inl (cI, 5, .inl f1))] → lv_has ls 6 [(0, .ref p0), (1, .int (nI (n ^ n))), (2, .int (mst (hvl n K F bar w) n c1).1), (3, .int (nI c1)), (4, .int (nI k))] → W p l e (rmO 2 48 0 0) s m args below meth c H locs 0 0 Q (F0 m 49 ls []) := by
                  intro fu
                  induction fu with
                  | zero => intro k to2 tm2 hfu; exact absurd hfu (Nat.not_lt_zero _)
                  | succ fu ih49 =>
                    intro k to2 tm2 hfu hk H locs ls h hl
                    refine lv_iload hx hb dX8_layBest_49 (lv_at hl 4 rfl) ?_
                    refine lv_bipush (v := 10) hx hb dX8_layBest_51 (by decide) ?_
                    refine lv_icmp_ge (tgt := 66) hx hb dX8_layBest_53 (by decide) (fun c_53 => ?_) (fun c_53 => ?_)
                    · skip
                      have c_53 := (jle (a := 10) (b := k) (by omega) (by omega)).mp c_53
                      obtain rfl : 10 = k := by omega
                      refine lv_aload_n hx hb dX8_layBest_66 rfl (lv_at hl 0 rfl) ?_
                      refine k_Vi (rest := []) (as := []) (wc := [(p0, .inr (8, [.ref p1, .int pgm, .ref p2, .int rdm, .int rdb, .int stt, .int (nI n), .int bar, .int hrs, .int crd, .ref p3, .ref p4, .ref p5, .ref p6, .ref p7, .int to2, .int tm2, .ref p8, .ref p9, .int bdn, .ref p10, .int snm, .ref p11, .ref p12, .ref p13, .int sdn, .int kcs, .int khr, .int ksn, .ref p14, .ref p15, .ref p16, .ref p17, .long hlg])), (p5, .inl (cI, 5, .inl (hit n K F bar w (lyf n n c1 0 ρ1).2 10).1))]) (wr := [(p3, .inl (cI, 5, .inl K)), (p4, .inl (cI, 5, .inl F)), (p6, .inl (cI, 5, .inl (ro (hit n K F bar w (lyf n n c1 0 ρ1).2 10).2))), (p8, .inl (cI, 5, .inl w)), (p9, .inl (cI, 5, .inl (ro ρ))), (p10, .inl (cI, 5, .inl f1))]) (isC := [0, 3]) (isR := [1, 2, 4, 5, 6, 7]) (w2 := fun (_ : Unit) => [(p0, .inr (8, [.ref p1, .int pgm, .ref p2, .int rdm, .int rdb, .int stt, .int (nI n), .int bar, .int hrs, .int crd, .ref p3, .ref p4, .ref p5, .ref p6, .ref p7, .int to2, .int tm2, .ref p8, .ref p9, .int bdn, .ref p10, .int snm, .ref p11, .ref p12, .ref p13, .int sdn, .int kcs, .int khr, .int ksn, .ref p14, .ref p15, .ref p16, .ref p17, .long hlg])), (p3, .inl (cI, 5, .inl K)), (p4, .inl (cI, 5, .inl F)), (p5, .inl (cI, 5, .inl (hit n K F bar w (lyf n n c1 0 ρ1).2 10).1)), (p6, .inl (cI, 5, .inl (ro (hit n K F bar w (lyf n n c1 0 ρ1).2 10).2))), (p8, .inl (cI, 5, .inl w)), (p9, .inl (cI, 5, .inl (ro ρ))), (p10, .inl (cI, 5, .inl f1))]) C h (c_X8_standing l D cI cZ kS vS p0 p1 p2 p3 p4 p5 p6 p7 p8 p9 p10 p11 p12 p13 p14 p15 p16 p17 n pgm rdm rdb stt bar hrs crd to2 tm2 bdn snm sdn kcs khr ksn hlg (hit n K F bar w (lyf n n c1 0 ρ1).2 10).1 hn5) wv_X8_standing rfl ⟨rfl, rfl, rfl, rfl, by decide⟩ fk8 0 rfl ml_RX8_171 [6, 0, 1, 7, 2, 3, 4, 5] rfl (fun _ => rfl) ⟨Nat.le_of_ble_eq_true rfl, Nat.le_of_ble_eq_true rfl⟩ ⟨Nat.le_of_ble_eq_true rfl, Nat.le_of_ble_eq_true rfl⟩ (Nat.le_of_ble_eq_true rfl) hl rfl dX8_layBest_67 (fun r u H locs hq h => ?_)
                      have h : HS D A s H locs [(p0, .inr (8, [.ref p1, .int pgm, .ref p2, .int rdm, .int rdb, .int stt, .int (nI n), .int bar, .int hrs, .int crd, .ref p3, .ref p4, .ref p5, .ref p6, .ref p7, .int to2, .int tm2, .ref p8, .ref p9, .int bdn, .ref p10, .int snm, .ref p11, .ref p12, .ref p13, .int sdn, .int kcs, .int khr, .int ksn, .ref p14, .ref p15, .ref p16, .ref p17, .long hlg])), (p3, .inl (cI, 5, .inl K)), (p4, .inl (cI, 5, .inl F)), (p5, .inl (cI, 5, .inl (hit n K F bar w (lyf n n c1 0 ρ1).2 10).1)), (p6, .inl (cI, 5, .inl (ro (hit n K F bar w (lyf n n c1 0 ρ1).2 10).2))), (p8, .inl (cI, 5, .inl w)), (p9, .inl (cI, 5, .inl (ro ρ))), (p10, .inl (cI, 5, .inl f1))] := h
                      have hq : r = hsum (hit n K F bar w (lyf n n c1 0 ρ1).2 10).1 n := hq
                      have hq := hq.symm
                      subst hq
                      refine r_top (y := hvl n K F bar w (dgs n c1)) (hvl_of hn2 (fun j hj => lyf_lg hj)) ?_
                      refine lv_istore (lv' := [(4, .int (hvl n K F bar w (dgs n c1))), (0, .ref p0), (1, .int (nI (n ^ n))), (2, .int (mst (hvl n K F bar w) n c1).1), (3, .int (nI c1))]) hx hb dX8_layBest_70 hl (by decide) rfl (fun ls hl => ?_)
                      refine lv_aload_n hx hb dX8_layBest_72 rfl (lv_at hl 1 rfl) ?_
                      refine r_get C h fk8 0 17 rfl (by decide) mf_RX8_31 rfl dX8_layBest_73 ?_
                      refine lv_aload_n hx hb dX8_layBest_76 rfl (lv_at hl 1 rfl) ?_
                      refine r_get C h fk8 0 12 rfl (by decide) mf_RX8_22 rfl dX8_layBest_77 ?_
                      refine k_Sv (rest := []) (as := [.ref p8, .ref p5]) (wc := [(p8, .inl (cI, 5, .inl w)), (p5, .inl (cI, 5, .inl (hit n K F bar w (lyf n n c1 0 ρ1).2 10).1))]) (wr := [(p0, .inr (8, [.ref p1, .int pgm, .ref p2, .int rdm, .int rdb, .int stt, .int (nI n), .int bar, .int hrs, .int crd, .ref p3, .ref p4, .ref p5, .ref p6, .ref p7, .int to2, .int tm2, .ref p8, .ref p9, .int bdn, .ref p10, .int snm, .ref p11, .ref p12, .ref p13, .int sdn, .int kcs, .int khr, .int ksn, .ref p14, .ref p15, .ref p16, .ref p17, .long hlg])), (p3, .inl (cI, 5, .inl K)), (p4, .inl (cI, 5, .inl F)), (p6, .inl (cI, 5, .inl (ro (hit n K F bar w (lyf n n c1 0 ρ1).2 10).2))), (p9, .inl (cI, 5, .inl (ro ρ))), (p10, .inl (cI, 5, .inl f1))]) (isC := [5, 3]) (isR := [0, 1, 2, 4, 6, 7]) (w2 := fun (_ : Unit) => [(p0, .inr (8, [.ref p1, .int pgm, .ref p2, .int rdm, .int rdb, .int stt, .int (nI n), .int bar, .int hrs, .int crd, .ref p3, .ref p4, .ref p5, .ref p6, .ref p7, .int to2, .int tm2, .ref p8, .ref p9, .int bdn, .ref p10, .int snm, .ref p11, .ref p12, .ref p13, .int sdn, .int kcs, .int khr, .int ksn, .ref p14, .ref p15, .ref p16, .ref p17, .long hlg])), (p3, .inl (cI, 5, .inl K)), (p4, .inl (cI, 5, .inl F)), (p5, .inl (cI, 5, .inl w)), (p6, .inl (cI, 5, .inl (ro (hit n K F bar w (lyf n n c1 0 ρ1).2 10).2))), (p8, .inl (cI, 5, .inl w)), (p9, .inl (cI, 5, .inl (ro ρ))), (p10, .inl (cI, 5, .inl f1))]) C h (c_X8_copy5 l D cI cZ kS vS p8 p5 w (hit n K F bar w (lyf n n c1 0 ρ1).2 10).1 ) wv_X8_copy rfl ⟨rfl, rfl, rfl, rfl, by decide⟩ ml_RX8_128 [0, 1, 2, 7, 3, 6, 4, 5] rfl (fun _ => rfl) ⟨Nat.le_of_ble_eq_true rfl, Nat.le_of_ble_eq_true rfl⟩ ⟨Nat.le_of_ble_eq_true rfl, Nat.le_of_ble_eq_true rfl⟩ (Nat.le_of_ble_eq_true rfl) hl rfl dX8_layBest_80 (fun u H locs hq h => ?_)
                      have h : HS D A s H locs [(p0, .inr (8, [.ref p1, .int pgm, .ref p2, .int rdm, .int rdb, .int stt, .int (nI n), .int bar, .int hrs, .int crd, .ref p3, .ref p4, .ref p5, .ref p6, .ref p7, .int to2, .int tm2, .ref p8, .ref p9, .int bdn, .ref p10, .int snm, .ref p11, .ref p12, .ref p13, .int sdn, .int kcs, .int khr, .int ksn, .ref p14, .ref p15, .ref p16, .ref p17, .long hlg])), (p3, .inl (cI, 5, .inl K)), (p4, .inl (cI, 5, .inl F)), (p5, .inl (cI, 5, .inl w)), (p6, .inl (cI, 5, .inl (ro (hit n K F bar w (lyf n n c1 0 ρ1).2 10).2))), (p8, .inl (cI, 5, .inl w)), (p9, .inl (cI, 5, .inl (ro ρ))), (p10, .inl (cI, 5, .inl f1))] := h
                      have hq : True := hq
                      refine lv_iload_n hx hb dX8_layBest_83 rfl (lv_at hl 3 rfl) ?_
                      refine lv_iconst (v := (-1)) hx hb dX8_layBest_84 (by decide) ?_
                      refine lv_icmp_eq (tgt := 94) hx hb dX8_layBest_85 (by decide) (fun c_85 => ?_) (fun c_85 => ?_)
                      · skip
                        have em : (mst (hvl n K F bar w) n (c1 + 1)) = (hvl n K F bar w (dgs n c1), dgs n c1) := em0.trans (if_pos c_85)
                        refine lv_iload hx hb dX8_layBest_94 (lv_at hl 0 rfl) ?_
                        refine lv_istore_n (lv' := [(2, .int (hvl n K F bar w (dgs n c1))), (4, .int (hvl n K F bar w (dgs n c1))), (0, .ref p0), (1, .int (nI (n ^ n))), (3, .int (nI c1))]) hx hb dX8_layBest_96 rfl hl (by decide) rfl (fun ls hl => ?_)
                        refine lv_aload_n hx hb dX8_layBest_97 rfl (lv_at hl 2 rfl) ?_
                        refine lv_iload_n hx hb dX8_layBest_98 rfl (lv_at hl 4 rfl) ?_
                        refine k_Vi (rest := []) (as := [.int (nI c1)]) (wc := [(p0, .inr (8, [.ref p1, .int pgm, .ref p2, .int rdm, .int rdb, .int stt, .int (nI n), .int bar, .int hrs, .int crd, .ref p3, .ref p4, .ref p5, .ref p6, .ref p7, .int to2, .int tm2, .ref p8, .ref p9, .int bdn, .ref p10, .int snm, .ref p11, .ref p12, .ref p13, .int sdn, .int kcs, .int khr, .int ksn, .ref p14, .ref p15, .ref p16, .ref p17, .long hlg])), (p6, .inl (cI, 5, .inl (ro (hit n K F bar w (lyf n n c1 0 ρ1).2 10).2)))]) (wr := [(p3, .inl (cI, 5, .inl K)), (p4, .inl (cI, 5, .inl F)), (p5, .inl (cI, 5, .inl w)), (p8, .inl (cI, 5, .inl w)), (p9, .inl (cI, 5, .inl (ro ρ))), (p10, .inl (cI, 5, .inl f1))]) (isC := [0, 4]) (isR := [1, 2, 3, 5, 6, 7]) (w2 := fun (_ : Unit) => [(p0, .inr (8, [.ref p1, .int pgm, .ref p2, .int rdm, .int rdb, .int stt, .int (nI n), .int bar, .int hrs, .int crd, .ref p3, .ref p4, .ref p5, .ref p6, .ref p7, .int to2, .int tm2, .ref p8, .ref p9, .int bdn, .ref p10, .int snm, .ref p11, .ref p12, .ref p13, .int sdn, .int kcs, .int khr, .int ksn, .ref p14, .ref p15, .ref p16, .ref p17, .long hlg])), (p3, .inl (cI, 5, .inl K)), (p4, .inl (cI, 5, .inl F)), (p5, .inl (cI, 5, .inl w)), (p6, .inl (cI, 5, .inl (ro (lyf n n c1 0 (hit n K F bar w (lyf n n c1 0 ρ1).2 10).2).2))), (p8, .inl (cI, 5, .inl w)), (p9, .inl (cI, 5, .inl (ro ρ))), (p10, .inl (cI, 5, .inl f1))]) C h (c_X8_layStands l D cI cZ kS vS p0 p1 p2 p3 p4 p5 p6 p7 p8 p9 p10 p11 p12 p13 p14 p15 p16 p17 n pgm rdm rdb stt bar hrs crd to2 tm2 bdn snm sdn kcs khr ksn hlg (hit n K F bar w (lyf n n c1 0 ρ1).2 10).2 c1 hn2 hn5 (by omega)) wv_X8_layStands rfl ⟨rfl, rfl, rfl, rfl, by decide⟩ fk8 0 rfl ml_RX8_179 [6, 0, 1, 2, 7, 3, 4, 5] rfl (fun _ => rfl) ⟨Nat.le_of_ble_eq_true rfl, Nat.le_of_ble_eq_true rfl⟩ ⟨Nat.le_of_ble_eq_true rfl, Nat.le_of_ble_eq_true rfl⟩ (Nat.le_of_ble_eq_true rfl) hl rfl dX8_layBest_99 (fun r u H locs hq h => ?_)
                        have h : HS D A s H locs [(p0, .inr (8, [.ref p1, .int pgm, .ref p2, .int rdm, .int rdb, .int stt, .int (nI n), .int bar, .int hrs, .int crd, .ref p3, .ref p4, .ref p5, .ref p6, .ref p7, .int to2, .int tm2, .ref p8, .ref p9, .int bdn, .ref p10, .int snm, .ref p11, .ref p12, .ref p13, .int sdn, .int kcs, .int khr, .int ksn, .ref p14, .ref p15, .ref p16, .ref p17, .long hlg])), (p3, .inl (cI, 5, .inl K)), (p4, .inl (cI, 5, .inl F)), (p5, .inl (cI, 5, .inl w)), (p6, .inl (cI, 5, .inl (ro (lyf n n c1 0 (hit n K F bar w (lyf n n c1 0 ρ1).2 10).2).2))), (p8, .inl (cI, 5, .inl w)), (p9, .inl (cI, 5, .inl (ro ρ))), (p10, .inl (cI, 5, .inl f1))] := h
                        have hq : r = bI (isp n c1) := hq
                        have hq := hq.symm
                        subst hq
                        refine lv_istore (lv' := [(5, .int (bI (isp n c1))), (2, .int (hvl n K F bar w (dgs n c1))), (4, .int (hvl n K F bar w (dgs n c1))), (0, .ref p0), (1, .int (nI (n ^ n))), (3, .int (nI c1))]) hx hb dX8_layBest_102 hl (by decide) rfl (fun ls hl => ?_)
                        refine lv_aload_n hx hb dX8_layBest_104 rfl (lv_at hl 3 rfl) ?_
                        refine r_get C h fk8 0 13 rfl (by decide) mf_RX8_25 rfl dX8_layBest_105 ?_
                        refine lv_aload_n hx hb dX8_layBest_108 rfl (lv_at hl 3 rfl) ?_
                        refine r_get C h fk8 0 20 rfl (by decide) mf_RX8_37 rfl dX8_layBest_109 ?_
                        refine k_Sv (rest := []) (as := [.ref p6, .ref p10]) (wc := [(p6, .inl (cI, 5, .inl (ro (lyf n n c1 0 (hit n K F bar w (lyf n n c1 0 ρ1).2 10).2).2))), (p10, .inl (cI, 5, .inl f1))]) (wr := [(p0, .inr (8, [.ref p1, .int pgm, .ref p2, .int rdm, .int rdb, .int stt, .int (nI n), .int bar, .int hrs, .int crd, .ref p3, .ref p4, .ref p5, .ref p6, .ref p7, .int to2, .int tm2, .ref p8, .ref p9, .int bdn, .ref p10, .int snm, .ref p11, .ref p12, .ref p13, .int sdn, .int kcs, .int khr, .int ksn, .ref p14, .ref p15, .ref p16, .ref p17, .long hlg])), (p3, .inl (cI, 5, .inl K)), (p4, .inl (cI, 5, .inl F)), (p5, .inl (cI, 5, .inl w)), (p8, .inl (cI, 5, .inl w)), (p9, .inl (cI, 5, .inl (ro ρ)))]) (isC := [4, 7]) (isR := [0, 1, 2, 3, 5, 6]) (w2 := fun (_ : Unit) => [(p0, .inr (8, [.ref p1, .int pgm, .ref p2, .int rdm, .int rdb, .int stt, .int (nI n), .int bar, .int hrs, .int crd, .ref p3, .ref p4, .ref p5, .ref p6, .ref p7, .int to2, .int tm2, .ref p8, .ref p9, .int bdn, .ref p10, .int snm, .ref p11, .ref p12, .ref p13, .int sdn, .int kcs, .int khr, .int ksn, .ref p14, .ref p15, .ref p16, .ref p17, .long hlg])), (p3, .inl (cI, 5, .inl K)), (p4, .inl (cI, 5, .inl F)), (p5, .inl (cI, 5, .inl w)), (p6, .inl (cI, 5, .inl (ro (lyf n n c1 0 (hit n K F bar w (lyf n n c1 0 ρ1).2 10).2).2))), (p8, .inl (cI, 5, .inl w)), (p9, .inl (cI, 5, .inl (ro ρ))), (p10, .inl (cI, 5, .inl (ro (lyf n n c1 0 (hit n K F bar w (lyf n n c1 0 ρ1).2 10).2).2)))]) C h (c_X8_copy5 l D cI cZ kS vS p6 p10 (ro (lyf n n c1 0 (hit n K F bar w (lyf n n c1 0 ρ1).2 10).2).2) f1 ) wv_X8_copy rfl ⟨rfl, rfl, rfl, rfl, by decide⟩ ml_RX8_128 [0, 1, 2, 3, 6, 4, 5, 7] rfl (fun _ => rfl) ⟨Nat.le_of_ble_eq_true rfl, Nat.le_of_ble_eq_true rfl⟩ ⟨Nat.le_of_ble_eq_true rfl, Nat.le_of_ble_eq_true rfl⟩ (Nat.le_of_ble_eq_true rfl) hl rfl dX8_layBest_112 (fun u H locs hq h => ?_)
                        have h : HS D A s H locs [(p0, .inr (8, [.ref p1, .int pgm, .ref p2, .int rdm, .int rdb, .int stt, .int (nI n), .int bar, .int hrs, .int crd, .ref p3, .ref p4, .ref p5, .ref p6, .ref p7, .int to2, .int tm2, .ref p8, .ref p9, .int bdn, .ref p10, .int snm, .ref p11, .ref p12, .ref p13, .int sdn, .int kcs, .int khr, .int ksn, .ref p14, .ref p15, .ref p16, .ref p17, .long hlg])), (p3, .inl (cI, 5, .inl K)), (p4, .inl (cI, 5, .inl F)), (p5, .inl (cI, 5, .inl w)), (p6, .inl (cI, 5, .inl (ro (lyf n n c1 0 (hit n K F bar w (lyf n n c1 0 ρ1).2 10).2).2))), (p8, .inl (cI, 5, .inl w)), (p9, .inl (cI, 5, .inl (ro ρ))), (p10, .inl (cI, 5, .inl (ro (lyf n n c1 0 (hit n K F bar w (lyf n n c1 0 ρ1).2 10).2).2)))] := h
                        have hq : True := hq
                        have hb2 : ¬ (mst (hvl n K F bar w) n (c1 + 1)).1 = -1 → ∀ j, j < n → ro (lyf n n c1 0 (hit n K F bar w (lyf n n c1 0 ρ1).2 10).2).2 j = nI (lg (mst (hvl n K F bar w) n (c1 + 1)).2 j) := fun _ j hj => by rw [em]; exact congrArg nI (lyf_lg hj)
                        refine lv_iinc (v := nI (c1 + 1)) (lv' := [(3, .int (nI (c1 + 1))), (5, .int (bI (isp n c1))), (2, .int (hvl n K F bar w (dgs n c1))), (4, .int (hvl n K F bar w (dgs n c1))), (0, .ref p0), (1, .int (nI (n ^ n)))]) hx hb dX8_layBest_115 hl (k := 5) rfl (nI_1 c1) (by decide) rfl (fun ls hl => ?_)
                        refine lv_goto (tgt := 33) hx hb dX8_layBest_118 (by decide) ?_
                        have hl : lv_has ls 6 [(3, .int (nI (c1 + 1))), (5, .int (bI (isp n c1))), (2, .int (mst (hvl n K F bar w) n (c1 + 1)).1), (4, .int (hvl n K F bar w (dgs n c1))), (0, .ref p0), (1, .int (nI (n ^ n)))] := by rw [em]; exact hl
                        have h := h.arr 7 (g := (ro (lyf n n c1 0 (hit n K F bar w (lyf n n c1 0 ρ1).2 10).2).2)) rfl (fun j hj => rfl) rfl
                        exact ih33  (c1 + 1) to2 tm2 (lyf n n c1 0 (hit n K F bar w (lyf n n c1 0 ρ1).2 10).2).2 (ro (lyf n n c1 0 (hit n K F bar w (lyf n n c1 0 ρ1).2 10).2).2) (by omega) (by first | assumption | omega) hb2 _ _ _ h (lv_sub hl [4, 5, 2, 0] rfl)
                      · skip
                        refine lv_iload hx hb dX8_layBest_88 (lv_at hl 0 rfl) ?_
                        refine lv_iload_n hx hb dX8_layBest_90 rfl (lv_at hl 3 rfl) ?_
                        refine lv_icmp_ge (tgt := 115) hx hb dX8_layBest_91 (by decide) (fun c_91 => ?_) (fun c_91 => ?_)
                        · skip
                          have em : (mst (hvl n K F bar w) n (c1 + 1)) = (mst (hvl n K F bar w) n c1) := em0.trans ((if_neg c_85).trans (if_pos c_91))
                          have hb2 : ¬ (mst (hvl n K F bar w) n (c1 + 1)).1 = -1 → ∀ j, j < n → f1 j = nI (lg (mst (hvl n K F bar w) n (c1 + 1)).2 j) := by rw [em]; exact hb1
                          refine lv_iinc (v := nI (c1 + 1)) (lv' := [(3, .int (nI (c1 + 1))), (4, .int (hvl n K F bar w (dgs n c1))), (0, .ref p0), (1, .int (nI (n ^ n))), (2, .int (mst (hvl n K F bar w) n c1).1)]) hx hb dX8_layBest_115 hl (k := 4) rfl (nI_1 c1) (by decide) rfl (fun ls hl => ?_)
                          refine lv_goto (tgt := 33) hx hb dX8_layBest_118 (by decide) ?_
                          have hl : lv_has ls 6 [(3, .int (nI (c1 + 1))), (4, .int (hvl n K F bar w (dgs n c1))), (0, .ref p0), (1, .int (nI (n ^ n))), (2, .int (mst (hvl n K F bar w) n (c1 + 1)).1)] := by rw [em]; exact hl
                          exact ih33  (c1 + 1) to2 tm2 (hit n K F bar w (lyf n n c1 0 ρ1).2 10).2 f1 (by omega) (by first | assumption | omega) hb2 _ _ _ h (lv_sub hl [2, 3, 4, 0] rfl)
                        · skip
                          have em : (mst (hvl n K F bar w) n (c1 + 1)) = (hvl n K F bar w (dgs n c1), dgs n c1) := em0.trans ((if_neg c_85).trans (if_neg c_91))
                          refine lv_iload hx hb dX8_layBest_94 (lv_at hl 0 rfl) ?_
                          refine lv_istore_n (lv' := [(2, .int (hvl n K F bar w (dgs n c1))), (4, .int (hvl n K F bar w (dgs n c1))), (0, .ref p0), (1, .int (nI (n ^ n))), (3, .int (nI c1))]) hx hb dX8_layBest_96 rfl hl (by decide) rfl (fun ls hl => ?_)
                          refine lv_aload_n hx hb dX8_layBest_97 rfl (lv_at hl 2 rfl) ?_
                          refine lv_iload_n hx hb dX8_layBest_98 rfl (lv_at hl 4 rfl) ?_
                          refine k_Vi (rest := []) (as := [.int (nI c1)]) (wc := [(p0, .inr (8, [.ref p1, .int pgm, .ref p2, .int rdm, .int rdb, .int stt, .int (nI n), .int bar, .int hrs, .int crd, .ref p3, .ref p4, .ref p5, .ref p6, .ref p7, .int to2, .int tm2, .ref p8, .ref p9, .int bdn, .ref p10, .int snm, .ref p11, .ref p12, .ref p13, .int sdn, .int kcs, .int khr, .int ksn, .ref p14, .ref p15, .ref p16, .ref p17, .long hlg])), (p6, .inl (cI, 5, .inl (ro (hit n K F bar w (lyf n n c1 0 ρ1).2 10).2)))]) (wr := [(p3, .inl (cI, 5, .inl K)), (p4, .inl (cI, 5, .inl F)), (p5, .inl (cI, 5, .inl w)), (p8, .inl (cI, 5, .inl w)), (p9, .inl (cI, 5, .inl (ro ρ))), (p10, .inl (cI, 5, .inl f1))]) (isC := [0, 4]) (isR := [1, 2, 3, 5, 6, 7]) (w2 := fun (_ : Unit) => [(p0, .inr (8, [.ref p1, .int pgm, .ref p2, .int rdm, .int rdb, .int stt, .int (nI n), .int bar, .int hrs, .int crd, .ref p3, .ref p4, .ref p5, .ref p6, .ref p7, .int to2, .int tm2, .ref p8, .ref p9, .int bdn, .ref p10, .int snm, .ref p11, .ref p12, .ref p13, .int sdn, .int kcs, .int khr, .int ksn, .ref p14, .ref p15, .ref p16, .ref p17, .long hlg])), (p3, .inl (cI, 5, .inl K)), (p4, .inl (cI, 5, .inl F)), (p5, .inl (cI, 5, .inl w)), (p6, .inl (cI, 5, .inl (ro (lyf n n c1 0 (hit n K F bar w (lyf n n c1 0 ρ1).2 10).2).2))), (p8, .inl (cI, 5, .inl w)), (p9, .inl (cI, 5, .inl (ro ρ))), (p10, .inl (cI, 5, .inl f1))]) C h (c_X8_layStands l D cI cZ kS vS p0 p1 p2 p3 p4 p5 p6 p7 p8 p9 p10 p11 p12 p13 p14 p15 p16 p17 n pgm rdm rdb stt bar hrs crd to2 tm2 bdn snm sdn kcs khr ksn hlg (hit n K F bar w (lyf n n c1 0 ρ1).2 10).2 c1 hn2 hn5 (by omega)) wv_X8_layStands rfl ⟨rfl, rfl, rfl, rfl, by decide⟩ fk8 0 rfl ml_RX8_179 [6, 0, 1, 2, 7, 3, 4, 5] rfl (fun _ => rfl) ⟨Nat.le_of_ble_eq_true rfl, Nat.le_of_ble_eq_true rfl⟩ ⟨Nat.le_of_ble_eq_true rfl, Nat.le_of_ble_eq_true rfl⟩ (Nat.le_of_ble_eq_true rfl) hl rfl dX8_layBest_99 (fun r u H locs hq h => ?_)
                          have h : HS D A s H locs [(p0, .inr (8, [.ref p1, .int pgm, .ref p2, .int rdm, .int rdb, .int stt, .int (nI n), .int bar, .int hrs, .int crd, .ref p3, .ref p4, .ref p5, .ref p6, .ref p7, .int to2, .int tm2, .ref p8, .ref p9, .int bdn, .ref p10, .int snm, .ref p11, .ref p12, .ref p13, .int sdn, .int kcs, .int khr, .int ksn, .ref p14, .ref p15, .ref p16, .ref p17, .long hlg])), (p3, .inl (cI, 5, .inl K)), (p4, .inl (cI, 5, .inl F)), (p5, .inl (cI, 5, .inl w)), (p6, .inl (cI, 5, .inl (ro (lyf n n c1 0 (hit n K F bar w (lyf n n c1 0 ρ1).2 10).2).2))), (p8, .inl (cI, 5, .inl w)), (p9, .inl (cI, 5, .inl (ro ρ))), (p10, .inl (cI, 5, .inl f1))] := h
                          have hq : r = bI (isp n c1) := hq
                          have hq := hq.symm
                          subst hq
                          refine lv_istore (lv' := [(5, .int (bI (isp n c1))), (2, .int (hvl n K F bar w (dgs n c1))), (4, .int (hvl n K F bar w (dgs n c1))), (0, .ref p0), (1, .int (nI (n ^ n))), (3, .int (nI c1))]) hx hb dX8_layBest_102 hl (by decide) rfl (fun ls hl => ?_)
                          refine lv_aload_n hx hb dX8_layBest_104 rfl (lv_at hl 3 rfl) ?_
                          refine r_get C h fk8 0 13 rfl (by decide) mf_RX8_25 rfl dX8_layBest_105 ?_
                          refine lv_aload_n hx hb dX8_layBest_108 rfl (lv_at hl 3 rfl) ?_
                          refine r_get C h fk8 0 20 rfl (by decide) mf_RX8_37 rfl dX8_layBest_109 ?_
                          refine k_Sv (rest := []) (as := [.ref p6, .ref p10]) (wc := [(p6, .inl (cI, 5, .inl (ro (lyf n n c1 0 (hit n K F bar w (lyf n n c1 0 ρ1).2 10).2).2))), (p10, .inl (cI, 5, .inl f1))]) (wr := [(p0, .inr (8, [.ref p1, .int pgm, .ref p2, .int rdm, .int rdb, .int stt, .int (nI n), .int bar, .int hrs, .int crd, .ref p3, .ref p4, .ref p5, .ref p6, .ref p7, .int to2, .int tm2, .ref p8, .ref p9, .int bdn, .ref p10, .int snm, .ref p11, .ref p12, .ref p13, .int sdn, .int kcs, .int khr, .int ksn, .ref p14, .ref p15, .ref p16, .ref p17, .long hlg])), (p3, .inl (cI, 5, .inl K)), (p4, .inl (cI, 5, .inl F)), (p5, .inl (cI, 5, .inl w)), (p8, .inl (cI, 5, .inl w)), (p9, .inl (cI, 5, .inl (ro ρ)))]) (isC := [4, 7]) (isR := [0, 1, 2, 3, 5, 6]) (w2 := fun (_ : Unit) => [(p0, .inr (8, [.ref p1, .int pgm, .ref p2, .int rdm, .int rdb, .int stt, .int (nI n), .int bar, .int hrs, .int crd, .ref p3, .ref p4, .ref p5, .ref p6, .ref p7, .int to2, .int tm2, .ref p8, .ref p9, .int bdn, .ref p10, .int snm, .ref p11, .ref p12, .ref p13, .int sdn, .int kcs, .int khr, .int ksn, .ref p14, .ref p15, .ref p16, .ref p17, .long hlg])), (p3, .inl (cI, 5, .inl K)), (p4, .inl (cI, 5, .inl F)), (p5, .inl (cI, 5, .inl w)), (p6, .inl (cI, 5, .inl (ro (lyf n n c1 0 (hit n K F bar w (lyf n n c1 0 ρ1).2 10).2).2))), (p8, .inl (cI, 5, .inl w)), (p9, .inl (cI, 5, .inl (ro ρ))), (p10, .inl (cI, 5, .inl (ro (lyf n n c1 0 (hit n K F bar w (lyf n n c1 0 ρ1).2 10).2).2)))]) C h (c_X8_copy5 l D cI cZ kS vS p6 p10 (ro (lyf n n c1 0 (hit n K F bar w (lyf n n c1 0 ρ1).2 10).2).2) f1 ) wv_X8_copy rfl ⟨rfl, rfl, rfl, rfl, by decide⟩ ml_RX8_128 [0, 1, 2, 3, 6, 4, 5, 7] rfl (fun _ => rfl) ⟨Nat.le_of_ble_eq_true rfl, Nat.le_of_ble_eq_true rfl⟩ ⟨Nat.le_of_ble_eq_true rfl, Nat.le_of_ble_eq_true rfl⟩ (Nat.le_of_ble_eq_true rfl) hl rfl dX8_layBest_112 (fun u H locs hq h => ?_)
                          have h : HS D A s H locs [(p0, .inr (8, [.ref p1, .int pgm, .ref p2, .int rdm, .int rdb, .int stt, .int (nI n), .int bar, .int hrs, .int crd, .ref p3, .ref p4, .ref p5, .ref p6, .ref p7, .int to2, .int tm2, .ref p8, .ref p9, .int bdn, .ref p10, .int snm, .ref p11, .ref p12, .ref p13, .int sdn, .int kcs, .int khr, .int ksn, .ref p14, .ref p15, .ref p16, .ref p17, .long hlg])), (p3, .inl (cI, 5, .inl K)), (p4, .inl (cI, 5, .inl F)), (p5, .inl (cI, 5, .inl w)), (p6, .inl (cI, 5, .inl (ro (lyf n n c1 0 (hit n K F bar w (lyf n n c1 0 ρ1).2 10).2).2))), (p8, .inl (cI, 5, .inl w)), (p9, .inl (cI, 5, .inl (ro ρ))), (p10, .inl (cI, 5, .inl (ro (lyf n n c1 0 (hit n K F bar w (lyf n n c1 0 ρ1).2 10).2).2)))] := h
                          have hq : True := hq
                          have hb2 : ¬ (mst (hvl n K F bar w) n (c1 + 1)).1 = -1 → ∀ j, j < n → ro (lyf n n c1 0 (hit n K F bar w (lyf n n c1 0 ρ1).2 10).2).2 j = nI (lg (mst (hvl n K F bar w) n (c1 + 1)).2 j) := fun _ j hj => by rw [em]; exact congrArg nI (lyf_lg hj)
                          refine lv_iinc (v := nI (c1 + 1)) (lv' := [(3, .int (nI (c1 + 1))), (5, .int (bI (isp n c1))), (2, .int (hvl n K F bar w (dgs n c1))), (4, .int (hvl n K F bar w (dgs n c1))), (0, .ref p0), (1, .int (nI (n ^ n)))]) hx hb dX8_layBest_115 hl (k := 5) rfl (nI_1 c1) (by decide) rfl (fun ls hl => ?_)
                          refine lv_goto (tgt := 33) hx hb dX8_layBest_118 (by decide) ?_
                          have hl : lv_has ls 6 [(3, .int (nI (c1 + 1))), (5, .int (bI (isp n c1))), (2, .int (mst (hvl n K F bar w) n (c1 + 1)).1), (4, .int (hvl n K F bar w (dgs n c1))), (0, .ref p0), (1, .int (nI (n ^ n)))] := by rw [em]; exact hl
                          have h := h.arr 7 (g := (ro (lyf n n c1 0 (hit n K F bar w (lyf n n c1 0 ρ1).2 10).2).2)) rfl (fun j hj => rfl) rfl
                          exact ih33  (c1 + 1) to2 tm2 (lyf n n c1 0 (hit n K F bar w (lyf n n c1 0 ρ1).2 10).2).2 (ro (lyf n n c1 0 (hit n K F bar w (lyf n n c1 0 ρ1).2 10).2).2) (by omega) (by first | assumption | omega) hb2 _ _ _ h (lv_sub hl [4, 5, 2, 0] rfl)
                    · skip
                      have c_53 : ¬ 10 ≤ k := fun z => c_53 ((jle (a := 10) (b := k) (by omega) (by omega)).mpr z)
                      have hk1 : k < 10 := by omega
                      have hpk := hpm.hit (K := K) (F := F) (bar := bar) (w := w) hn2 k
                      refine lv_aload_n hx hb dX8_layBest_56 rfl (lv_at hl 0 rfl) ?_
                      refine k_Vv (rest := []) (as := []) (wc := [(p0, .inr (8, [.ref p1, .int pgm, .ref p2, .int rdm, .int rdb, .int stt, .int (nI n), .int bar, .int hrs, .int crd, .ref p3, .ref p4, .ref p5, .ref p6, .ref p7, .int to2, .int tm2, .ref p8, .ref p9, .int bdn, .ref p10, .int snm, .ref p11, .ref p12, .ref p13, .int sdn, .int kcs, .int khr, .int ksn, .ref p14, .ref p15, .ref p16, .ref p17, .long hlg])), (p3, .inl (cI, 5, .inl K)), (p4, .inl (cI, 5, .inl F)), (p5, .inl (cI, 5, .inl (hit n K F bar w (lyf n n c1 0 ρ1).2 k).1)), (p6, .inl (cI, 5, .inl (ro (hit n K F bar w (lyf n n c1 0 ρ1).2 k).2)))]) (wr := [(p8, .inl (cI, 5, .inl w)), (p9, .inl (cI, 5, .inl (ro ρ))), (p10, .inl (cI, 5, .inl f1))]) (isC := [0, 1, 2, 3, 4]) (isR := [5, 6, 7]) (w2 := fun (_ : Unit) => [(p0, .inr (8, [.ref p1, .int pgm, .ref p2, .int rdm, .int rdb, .int stt, .int (nI n), .int bar, .int hrs, .int crd, .ref p3, .ref p4, .ref p5, .ref p6, .ref p7, .int (hoo n K F bar (hit n K F bar w (lyf n n c1 0 ρ1).2 k).1 (hit n K F bar w (lyf n n c1 0 ρ1).2 k).2), .int (hmm n K F bar (hit n K F bar w (lyf n n c1 0 ρ1).2 k).1 (hit n K F bar w (lyf n n c1 0 ρ1).2 k).2), .ref p8, .ref p9, .int bdn, .ref p10, .int snm, .ref p11, .ref p12, .ref p13, .int sdn, .int kcs, .int khr, .int ksn, .ref p14, .ref p15, .ref p16, .ref p17, .long hlg])), (p3, .inl (cI, 5, .inl K)), (p4, .inl (cI, 5, .inl F)), (p5, .inl (cI, 5, .inl (hww n K F bar (hit n K F bar w (lyf n n c1 0 ρ1).2 k).1 (hit n K F bar w (lyf n n c1 0 ρ1).2 k).2))), (p6, .inl (cI, 5, .inl (ro (hrr n K F bar (hit n K F bar w (lyf n n c1 0 ρ1).2 k).1 (hit n K F bar w (lyf n n c1 0 ρ1).2 k).2)))), (p8, .inl (cI, 5, .inl w)), (p9, .inl (cI, 5, .inl (ro ρ))), (p10, .inl (cI, 5, .inl f1))]) C h (c_X8_goesBy l D cI cZ kS vS p0 p1 p2 p3 p4 p5 p6 p7 p8 p9 p10 p11 p12 p13 p14 p15 p16 p17 n pgm rdm rdb stt bar hrs crd to2 tm2 bdn snm sdn kcs khr ksn hlg (hit n K F bar w (lyf n n c1 0 ρ1).2 k).1 (hit n K F bar w (lyf n n c1 0 ρ1).2 k).2 K F hn2 hn5 hpk hK) wv_X8_goesBy rfl ⟨rfl, rfl, rfl, rfl, by decide⟩ fk8 0 rfl ml_RX8_135 [3, 4, 5, 6, 7, 0, 1, 2] rfl (fun _ => rfl) ⟨Nat.le_of_ble_eq_true rfl, Nat.le_of_ble_eq_true rfl⟩ ⟨Nat.le_of_ble_eq_true rfl, Nat.le_of_ble_eq_true rfl⟩ (Nat.le_of_ble_eq_true rfl) hl rfl dX8_layBest_57 (fun u H locs hq h => ?_)
                      have h : HS D A s H locs [(p0, .inr (8, [.ref p1, .int pgm, .ref p2, .int rdm, .int rdb, .int stt, .int (nI n), .int bar, .int hrs, .int crd, .ref p3, .ref p4, .ref p5, .ref p6, .ref p7, .int (hoo n K F bar (hit n K F bar w (lyf n n c1 0 ρ1).2 k).1 (hit n K F bar w (lyf n n c1 0 ρ1).2 k).2), .int (hmm n K F bar (hit n K F bar w (lyf n n c1 0 ρ1).2 k).1 (hit n K F bar w (lyf n n c1 0 ρ1).2 k).2), .ref p8, .ref p9, .int bdn, .ref p10, .int snm, .ref p11, .ref p12, .ref p13, .int sdn, .int kcs, .int khr, .int ksn, .ref p14, .ref p15, .ref p16, .ref p17, .long hlg])), (p3, .inl (cI, 5, .inl K)), (p4, .inl (cI, 5, .inl F)), (p5, .inl (cI, 5, .inl (hww n K F bar (hit n K F bar w (lyf n n c1 0 ρ1).2 k).1 (hit n K F bar w (lyf n n c1 0 ρ1).2 k).2))), (p6, .inl (cI, 5, .inl (ro (hrr n K F bar (hit n K F bar w (lyf n n c1 0 ρ1).2 k).1 (hit n K F bar w (lyf n n c1 0 ρ1).2 k).2)))), (p8, .inl (cI, 5, .inl w)), (p9, .inl (cI, 5, .inl (ro ρ))), (p10, .inl (cI, 5, .inl f1))] := h
                      have hq : True := hq
                      refine lv_iinc (v := nI (k + 1)) (lv' := [(4, .int (nI (k + 1))), (0, .ref p0), (1, .int (nI (n ^ n))), (2, .int (mst (hvl n K F bar w) n c1).1), (3, .int (nI c1))]) hx hb dX8_layBest_60 hl (k := 4) rfl (nI_1 k) (by decide) rfl (fun ls hl => ?_)
                      refine lv_goto (tgt := 49) hx hb dX8_layBest_63 (by decide) ?_
                      have h := h.arr 3 (g := (hit n K F bar w (lyf n n c1 0 ρ1).2 (k + 1)).1) rfl (fun j hj => rfl) rfl
                      have h := h.arr 4 (g := ro (hit n K F bar w (lyf n n c1 0 ρ1).2 (k + 1)).2) rfl (fun j hj => rfl) rfl
                      exact ih49  (k + 1) (hoo n K F bar (hit n K F bar w (lyf n n c1 0 ρ1).2 k).1 (hit n K F bar w (lyf n n c1 0 ρ1).2 k).2) (hmm n K F bar (hit n K F bar w (lyf n n c1 0 ρ1).2 k).1 (hit n K F bar w (lyf n n c1 0 ρ1).2 k).2) (by omega) (by first | assumption | omega) _ _ _ h (lv_sub hl [1, 2, 3, 4, 0] rfl)
                have h := h.arr 3 (g := (hit n K F bar w (lyf n n c1 0 ρ1).2 0).1) rfl (fun j hj => rfl) rfl
                have h := h.arr 4 (g := ro (hit n K F bar w (lyf n n c1 0 ρ1).2 0).2) rfl (fun j hj => rfl) rfl
                exact L49 ((10 - 0) + 1) 0 to1 tm1 (by omega) (by first | assumption | omega) _ _ _ h (lv_sub hl [1, 2, 3, 4, 0] rfl)
        exact L33 ((n ^ n - 0) + 1) 0 tof tmu ρ f0 (by omega) (by first | assumption | omega) (fun z => absurd rfl z) _ _ _ h (lv_sub hl [2, 3, 1, 0] rfl)
      · skip
        have c_9 : ¬ n ≤ i := fun z => c_9 ((jle (a := n) (b := i) (by omega) (by omega)).mpr z)
        have hlt : i < n := by omega
        have hPi := pow_n n h6 i (by omega)
        refine lv_iload_n hx hb dX8_layBest_12 rfl (lv_at hl 1 rfl) ?_
        refine lv_aload_n hx hb dX8_layBest_13 rfl (lv_at hl 0 rfl) ?_
        refine r_get C h fk8 0 6 rfl (by decide) mf_RX8_99 rfl dX8_layBest_14 ?_
        refine lv_imul hx hb dX8_layBest_17 ?_
        refine r_top (y := nI ((n ^ i) * n)) (pk_mul (n ^ i) n) ?_
        refine r_top (y := nI (n ^ (i + 1))) (rfl) ?_
        refine lv_istore_n (lv' := [(1, .int (nI (n ^ (i + 1)))), (0, .ref p0), (2, .int (nI i))]) hx hb dX8_layBest_18 rfl hl (by decide) rfl (fun ls hl => ?_)
        refine lv_iinc (v := nI (i + 1)) (lv' := [(2, .int (nI (i + 1))), (1, .int (nI (n ^ (i + 1)))), (0, .ref p0)]) hx hb dX8_layBest_19 hl (k := 2) rfl (nI_1 i) (by decide) rfl (fun ls hl => ?_)
        refine lv_goto (tgt := 4) hx hb dX8_layBest_22 (by decide) ?_
        exact ih4  (i + 1) (by omega) (by first | assumption | omega) _ _ _ h (lv_sub hl [2, 1, 0] rfl)
  exact L4 ((n - 0) + 1) 0 (by omega) (by first | assumption | omega) _ _ _ h (lv_sub hl [2, 1, 0] rfl)

