set_option maxHeartbeats 4000000 in
set_option maxRecDepth 100000 in
theorem c_X7_within (l : Launch) (D : va_G) (cI cZ : ClassId) (kS vS : Nat) (x : Int32) (lo : Int32) (hi : Int32)  : CI l yX7_within cX7_within 3 .boolean D cI cZ kS vS 0 0 0 0 [.int x, .int lo, .int hi] [] (fun (r : Int32) (_ : Unit) => r = bI (wth x lo hi)) (fun (_ : Unit) => []) := by
  refine CI_intro (by decide) (Nat.le_of_ble_eq_true rfl) ?_
  intro p e s m args below meth c A Q ls C h hret hl
  have C : CX p s m args c cX7_within 3 RX7 D cI cZ kS vS A := C
  have hx := C.1.1
  have hb := C.1.2.1
  have hl : lv_has ls 3 [(0, .int x), (1, .int lo), (2, .int hi)] := hl
  refine lv_iload_n hx hb dX7_within_0 rfl (lv_at hl 0 rfl) ?_
  refine lv_iload_n hx hb dX7_within_1 rfl (lv_at hl 1 rfl) ?_
  refine lv_icmp_lt (tgt := 14) hx hb dX7_within_2 (by decide) (fun c_2 => ?_) (fun c_2 => ?_)
  · skip
    refine lv_iconst (v := 0) hx hb dX7_within_14 (by decide) ?_
    exact hret (r := 0) () dX7_within_15 h (rfl) (by simp [wth, bI, c_2])
  · skip
    refine lv_iload_n hx hb dX7_within_5 rfl (lv_at hl 0 rfl) ?_
    refine lv_iload_n hx hb dX7_within_6 rfl (lv_at hl 2 rfl) ?_
    refine lv_icmp_gt (tgt := 14) hx hb dX7_within_7 (by decide) (fun c_7 => ?_) (fun c_7 => ?_)
    · skip
      refine lv_iconst (v := 0) hx hb dX7_within_14 (by decide) ?_
      exact hret (r := 0) () dX7_within_15 h (rfl) (by simp [wth, bI, c_2, c_7])
    · skip
      refine lv_iconst (v := 1) hx hb dX7_within_10 (by decide) ?_
      refine lv_goto (tgt := 15) hx hb dX7_within_11 (by decide) ?_
      exact hret (r := 1) () dX7_within_15 h (rfl) (by simp [wth, bI, c_2, c_7])

set_option maxHeartbeats 4000000 in
set_option maxRecDepth 100000 in
theorem c_X4_isFull (l : Launch) (D : va_G) (cI cZ : ClassId) (kS vS : Nat) (g0 : Nat) (g1 : Nat) (ps : Nat) (pg : Nat → Nat) (hp24 : ps ≤ 24) : CI l yX4_isFull cX4_isFull 1 .boolean D cI cZ kS vS 0 0 0 0 [.ref g0] [(g0, .inr (4, [.ref g1, .int (nI ps)])), (g1, .inl (cI, 24, .inl (ro pg)))] (fun (r : Int32) (_ : Unit) => r = bI (decide (24 ≤ ps))) (fun (_ : Unit) => [(g0, .inr (4, [.ref g1, .int (nI ps)])), (g1, .inl (cI, 24, .inl (ro pg)))]) := by
  refine CI_intro (by decide) (Nat.le_of_ble_eq_true rfl) ?_
  intro p e s m args below meth c A Q ls C h hret hl
  have C : CX p s m args c cX4_isFull 1 RX4 D cI cZ kS vS A := C
  have hx := C.1.1
  have hb := C.1.2.1
  have hl : lv_has ls 1 [(0, .ref g0)] := hl
  refine lv_aload_n hx hb dX4_isFull_0 rfl (lv_at hl 0 rfl) ?_
  refine r_get C h fk4 0 1 rfl (by decide) mf_RX4_15 rfl dX4_isFull_1 ?_
  refine lv_bipush (v := 24) hx hb dX4_isFull_4 (by decide) ?_
  refine lv_icmp_lt (tgt := 13) hx hb dX4_isFull_6 (by decide) (fun c_6 => ?_) (fun c_6 => ?_)
  · skip
    have c_6 := (jlt (a := ps) (b := 24) (by omega) (by omega)).mp c_6
    refine lv_iconst (v := 0) hx hb dX4_isFull_13 (by decide) ?_
    exact hret (r := 0) () dX4_isFull_14 h (rfl) (by rw [decide_eq_false (by omega)]; rfl)
  · skip
    have c_6 : ¬ ps < 24 := fun z => c_6 ((jlt (a := ps) (b := 24) (by omega) (by omega)).mpr z)
    refine lv_iconst (v := 1) hx hb dX4_isFull_9 (by decide) ?_
    refine lv_goto (tgt := 14) hx hb dX4_isFull_10 (by decide) ?_
    exact hret (r := 1) () dX4_isFull_14 h (rfl) (by rw [decide_eq_true (by omega)]; rfl)

set_option maxHeartbeats 4000000 in
set_option maxRecDepth 100000 in
theorem c_X4_write (l : Launch) (D : va_G) (cI cZ : ClassId) (kS vS : Nat) (g0 : Nat) (g1 : Nat) (ps : Nat) (pg : Nat → Nat) (cd : Nat) (hp24 : ps ≤ 24) (hps : ps < 24) : CI l yX4_write cX4_write 2 .int D cI cZ kS vS 1 20 0 0 [.ref g0, .int (nI cd)] [(g0, .inr (4, [.ref g1, .int (nI ps)])), (g1, .inl (cI, 24, .inl (ro pg)))] (fun (r : Int32) (_ : Unit) => r = nI (ps + 1)) (fun (_ : Unit) => [(g0, .inr (4, [.ref g1, .int (nI (ps + 1))])), (g1, .inl (cI, 24, .inl (ro (un pg ps cd))))]) := by
  refine CI_intro (by decide) (Nat.le_of_ble_eq_true rfl) ?_
  intro p e s m args below meth c A Q ls C h hret hl
  have C : CX p s m args c cX4_write 2 RX4 D cI cZ kS vS A := C
  have hx := C.1.1
  have hb := C.1.2.1
  have hl : lv_has ls 2 [(0, .ref g0), (1, .int (nI cd))] := hl
  refine lv_aload_n hx hb dX4_write_0 rfl (lv_at hl 0 rfl) ?_
  refine k_Vi (rest := []) (as := []) (wc := [(g0, .inr (4, [.ref g1, .int (nI ps)])), (g1, .inl (cI, 24, .inl (ro pg)))]) (wr := []) (isC := [0, 1]) (isR := []) (w2 := fun (_ : Unit) => [(g0, .inr (4, [.ref g1, .int (nI ps)])), (g1, .inl (cI, 24, .inl (ro pg)))]) C h (c_X4_isFull l D cI cZ kS vS g0 g1 ps pg hp24) wv_X4_isFull rfl ⟨rfl, rfl, rfl, rfl, by decide⟩ fk4 0 rfl ml_RX4_19 [0, 1] rfl (fun _ => rfl) ⟨Nat.le_of_ble_eq_true rfl, Nat.le_of_ble_eq_true rfl⟩ ⟨Nat.le_of_ble_eq_true rfl, Nat.le_of_ble_eq_true rfl⟩ (Nat.le_of_ble_eq_true rfl) hl rfl dX4_write_1 (fun r u H locs hq h => ?_)
  have h : HS D A s H locs [(g0, .inr (4, [.ref g1, .int (nI ps)])), (g1, .inl (cI, 24, .inl (ro pg)))] := h
  have hq : r = bI (decide (24 ≤ ps)) := hq
  have hq := hq.symm
  subst hq
  refine lv_if_ne (tgt := 27) hx hb dX4_write_4 (by decide) (fun c_4 => ?_) (fun c_4 => ?_)
  · skip
    exact absurd (bI_n0.mp c_4) (by rw [decide_eq_false (by omega)]; decide)
  · skip
    refine lv_aload_n hx hb dX4_write_7 rfl (lv_at hl 0 rfl) ?_
    refine r_get C h fk4 0 0 rfl (by decide) mf_RX4_9 rfl dX4_write_8 ?_
    refine lv_aload_n hx hb dX4_write_11 rfl (lv_at hl 0 rfl) ?_
    refine r_get C h fk4 0 1 rfl (by decide) mf_RX4_15 rfl dX4_write_12 ?_
    refine lv_iload_n hx hb dX4_write_15 rfl (lv_at hl 1 rfl) ?_
    refine r_st C h 1 rfl ps (rfl) (by omega) (by decide) (g := ro (un pg ps cd)) (fun j _ => ro_un j) (ws' := [(g0, .inr (4, [.ref g1, .int (nI ps)])), (g1, .inl (cI, 24, .inl (ro (un pg ps cd))))]) rfl dX4_write_16 (fun H locs h => ?_)
    refine lv_aload_n hx hb dX4_write_17 rfl (lv_at hl 0 rfl) ?_
    refine lv_dup hx hb dX4_write_18 rfl ?_
    refine r_get C h fk4 0 1 rfl (by decide) mf_RX4_15 rfl dX4_write_19 ?_
    refine lv_iconst (v := 1) hx hb dX4_write_22 (by decide) ?_
    refine lv_iadd hx hb dX4_write_23 ?_
    refine r_top (y := nI (ps + 1)) (nI_add ps 1) ?_
    refine r_put C h fk4 0 1 rfl (by decide) mf_RX4_15 rfl (rfl) rfl (Nat.le_of_ble_eq_true rfl) (ws' := [(g0, .inr (4, [.ref g1, .int (nI (ps + 1))])), (g1, .inl (cI, 24, .inl (ro (un pg ps cd))))]) rfl dX4_write_24 (fun H locs h => ?_)
    refine lv_aload_n hx hb dX4_write_27 rfl (lv_at hl 0 rfl) ?_
    refine r_get C h fk4 0 1 rfl (by decide) mf_RX4_15 rfl dX4_write_28 ?_
    exact hret (r := nI (ps + 1)) () dX4_write_31 h (rfl) (rfl)

set_option maxHeartbeats 4000000 in
set_option maxRecDepth 100000 in
theorem c_X4_clear (l : Launch) (D : va_G) (cI cZ : ClassId) (kS vS : Nat) (g0 : Nat) (g1 : Nat) (ps : Nat) (pg : Nat → Nat)  : CI l yX4_clear cX4_clear 2 .int D cI cZ kS vS 0 0 0 0 [.ref g0] [(g0, .inr (4, [.ref g1, .int (nI ps)])), (g1, .inl (cI, 24, .inl (ro pg)))] (fun (r : Int32) (_ : Unit) => r = nI ps) (fun (_ : Unit) => [(g0, .inr (4, [.ref g1, .int 0])), (g1, .inl (cI, 24, .inl (ro pg)))]) := by
  refine CI_intro (by decide) (Nat.le_of_ble_eq_true rfl) ?_
  intro p e s m args below meth c A Q ls C h hret hl
  have C : CX p s m args c cX4_clear 2 RX4 D cI cZ kS vS A := C
  have hx := C.1.1
  have hb := C.1.2.1
  have hl : lv_has ls 2 [(0, .ref g0)] := hl
  refine lv_aload_n hx hb dX4_clear_0 rfl (lv_at hl 0 rfl) ?_
  refine r_get C h fk4 0 1 rfl (by decide) mf_RX4_15 rfl dX4_clear_1 ?_
  refine lv_istore_n (lv' := [(1, .int (nI ps)), (0, .ref g0)]) hx hb dX4_clear_4 rfl hl (by decide) rfl (fun ls hl => ?_)
  refine lv_aload_n hx hb dX4_clear_5 rfl (lv_at hl 1 rfl) ?_
  refine lv_iconst (v := 0) hx hb dX4_clear_6 (by decide) ?_
  refine r_put C h fk4 0 1 rfl (by decide) mf_RX4_15 rfl (rfl) rfl (Nat.le_of_ble_eq_true rfl) (ws' := [(g0, .inr (4, [.ref g1, .int 0])), (g1, .inl (cI, 24, .inl (ro pg)))]) rfl dX4_clear_7 (fun H locs h => ?_)
  refine lv_iload_n hx hb dX4_clear_10 rfl (lv_at hl 0 rfl) ?_
  exact hret (r := nI ps) () dX4_clear_11 h (rfl) (rfl)

set_option maxHeartbeats 4000000 in
set_option maxRecDepth 100000 in
theorem c_X4_codeAt (l : Launch) (D : va_G) (cI cZ : ClassId) (kS vS : Nat) (g0 : Nat) (g1 : Nat) (ps : Nat) (pg : Nat → Nat) (x : Int32) (hp24 : ps ≤ 24) : CI l yX4_codeAt cX4_codeAt 2 .int D cI cZ kS vS 0 0 0 0 [.ref g0, .int x] [(g0, .inr (4, [.ref g1, .int (nI ps)])), (g1, .inl (cI, 24, .inl (ro pg)))] (fun (r : Int32) (_ : Unit) => r = nI (cat pg ps x)) (fun (_ : Unit) => [(g0, .inr (4, [.ref g1, .int (nI ps)])), (g1, .inl (cI, 24, .inl (ro pg)))]) := by
  refine CI_intro (by decide) (Nat.le_of_ble_eq_true rfl) ?_
  intro p e s m args below meth c A Q ls C h hret hl
  have C : CX p s m args c cX4_codeAt 2 RX4 D cI cZ kS vS A := C
  have hx := C.1.1
  have hb := C.1.2.1
  have hl : lv_has ls 2 [(0, .ref g0), (1, .int x)] := hl
  refine lv_iload_n hx hb dX4_codeAt_0 rfl (lv_at hl 1 rfl) ?_
  refine lv_if_lt (tgt := 30) hx hb dX4_codeAt_1 (by decide) (fun c_1 => ?_) (fun c_1 => ?_)
  · skip
    have ec : cat pg ps x = 0 := cat_neg c_1
    refine lv_iconst (v := 0) hx hb dX4_codeAt_30 (by decide) ?_
    exact hret (r := 0) () dX4_codeAt_31 h (rfl) (congrArg nI ec.symm)
  · skip
    refine lv_iload_n hx hb dX4_codeAt_4 rfl (lv_at hl 1 rfl) ?_
    refine lv_aload_n hx hb dX4_codeAt_5 rfl (lv_at hl 0 rfl) ?_
    refine r_get C h fk4 0 1 rfl (by decide) mf_RX4_15 rfl dX4_codeAt_6 ?_
    refine lv_icmp_ge (tgt := 30) hx hb dX4_codeAt_9 (by decide) (fun c_9 => ?_) (fun c_9 => ?_)
    · skip
      have ec : cat pg ps x = 0 := cat_big c_9
      refine lv_iconst (v := 0) hx hb dX4_codeAt_30 (by decide) ?_
      exact hret (r := 0) () dX4_codeAt_31 h (rfl) (congrArg nI ec.symm)
    · skip
      obtain ⟨j, hj, rfl⟩ : ∃ j, j < ps ∧ x = nI j := by
        rcases pk_ix x (n := ps) (by omega) with z | z | z
        · exact absurd z c_1
        · exact absurd z c_9
        · exact z
      have ec : cat pg ps (nI j) = pg j := cat_nI hj (by omega)
      refine lv_iload_n hx hb dX4_codeAt_12 rfl (lv_at hl 1 rfl) ?_
      refine lv_aload_n hx hb dX4_codeAt_13 rfl (lv_at hl 0 rfl) ?_
      refine r_get C h fk4 0 0 rfl (by decide) mf_RX4_9 rfl dX4_codeAt_14 ?_
      refine r_alen C h 1 rfl dX4_codeAt_17 ?_
      refine lv_icmp_ge (tgt := 30) hx hb dX4_codeAt_18 (by decide) (fun c_18 => ?_) (fun c_18 => ?_)
      · skip
        have c_18 := (jle (a := 24) (b := j) (by omega) (by omega)).mp c_18
        exact absurd c_18 (by omega)
      · skip
        have c_18 : ¬ 24 ≤ j := fun z => c_18 ((jle (a := 24) (b := j) (by omega) (by omega)).mpr z)
        refine lv_aload_n hx hb dX4_codeAt_21 rfl (lv_at hl 0 rfl) ?_
        refine r_get C h fk4 0 0 rfl (by decide) mf_RX4_9 rfl dX4_codeAt_22 ?_
        refine lv_iload_n hx hb dX4_codeAt_25 rfl (lv_at hl 1 rfl) ?_
        refine r_ld C h 1 rfl j (rfl) (by omega) (by decide) (x := nI (pg j)) (rfl) dX4_codeAt_26 ?_
        refine lv_goto (tgt := 31) hx hb dX4_codeAt_27 (by decide) ?_
        exact hret (r := nI (pg j)) () dX4_codeAt_31 h (rfl) (congrArg nI ec.symm)

set_option maxHeartbeats 4000000 in
set_option maxRecDepth 100000 in
theorem c_X4_standsBehindEnd (l : Launch) (D : va_G) (cI cZ : ClassId) (kS vS : Nat) (g0 : Nat) (g1 : Nat) (ps : Nat) (pg : Nat → Nat) (x : Int32) (hp24 : ps ≤ 24) (hct : ∀ z, cat pg ps z < 2 ^ 31) : CI l yX4_standsBehindEnd cX4_standsBehindEnd 2 .boolean D cI cZ kS vS 1 21 0 0 [.ref g0, .int x] [(g0, .inr (4, [.ref g1, .int (nI ps)])), (g1, .inl (cI, 24, .inl (ro pg)))] (fun (r : Int32) (_ : Unit) => r = bI (decide (cat pg ps (x - 1) = 59))) (fun (_ : Unit) => [(g0, .inr (4, [.ref g1, .int (nI ps)])), (g1, .inl (cI, 24, .inl (ro pg)))]) := by
  refine CI_intro (by decide) (Nat.le_of_ble_eq_true rfl) ?_
  intro p e s m args below meth c A Q ls C h hret hl
  have C : CX p s m args c cX4_standsBehindEnd 2 RX4 D cI cZ kS vS A := C
  have hx := C.1.1
  have hb := C.1.2.1
  have hl : lv_has ls 2 [(0, .ref g0), (1, .int x)] := hl
  have hcl : cat pg ps (x - 1) < 2 ^ 31 := hct _
  refine lv_aload_n hx hb dX4_standsBehindEnd_0 rfl (lv_at hl 0 rfl) ?_
  refine lv_iload_n hx hb dX4_standsBehindEnd_1 rfl (lv_at hl 1 rfl) ?_
  refine lv_iconst (v := 1) hx hb dX4_standsBehindEnd_2 (by decide) ?_
  refine lv_isub hx hb dX4_standsBehindEnd_3 ?_
  refine k_Vi (rest := []) (as := [.int (x - 1)]) (wc := [(g0, .inr (4, [.ref g1, .int (nI ps)])), (g1, .inl (cI, 24, .inl (ro pg)))]) (wr := []) (isC := [0, 1]) (isR := []) (w2 := fun (_ : Unit) => [(g0, .inr (4, [.ref g1, .int (nI ps)])), (g1, .inl (cI, 24, .inl (ro pg)))]) C h (c_X4_codeAt l D cI cZ kS vS g0 g1 ps pg (x - 1) hp24) wv_X4_codeAt rfl ⟨rfl, rfl, rfl, rfl, by decide⟩ fk4 0 rfl ml_RX4_36 [0, 1] rfl (fun _ => rfl) ⟨Nat.le_of_ble_eq_true rfl, Nat.le_of_ble_eq_true rfl⟩ ⟨Nat.le_of_ble_eq_true rfl, Nat.le_of_ble_eq_true rfl⟩ (Nat.le_of_ble_eq_true rfl) hl rfl dX4_standsBehindEnd_4 (fun r u H locs hq h => ?_)
  have h : HS D A s H locs [(g0, .inr (4, [.ref g1, .int (nI ps)])), (g1, .inl (cI, 24, .inl (ro pg)))] := h
  have hq : r = nI (cat pg ps (x - 1)) := hq
  have hq := hq.symm
  subst hq
  refine lv_bipush (v := 59) hx hb dX4_standsBehindEnd_7 (by decide) ?_
  refine lv_icmp_ne (tgt := 16) hx hb dX4_standsBehindEnd_9 (by decide) (fun c_9 => ?_) (fun c_9 => ?_)
  · skip
    have c_9 : ¬ (cat pg ps (x - 1)) = 59 := fun z => c_9 ((jeq (a := (cat pg ps (x - 1))) (b := 59) (by omega) (by omega)).mpr z)
    refine lv_iconst (v := 0) hx hb dX4_standsBehindEnd_16 (by decide) ?_
    exact hret (r := 0) () dX4_standsBehindEnd_17 h (rfl) (by rw [decide_eq_false c_9]; rfl)
  · skip
    have c_9 := (jeq (a := (cat pg ps (x - 1))) (b := 59) (by omega) (by omega)).mp c_9
    refine lv_iconst (v := 1) hx hb dX4_standsBehindEnd_12 (by decide) ?_
    refine lv_goto (tgt := 17) hx hb dX4_standsBehindEnd_13 (by decide) ?_
    exact hret (r := 1) () dX4_standsBehindEnd_17 h (rfl) (by rw [decide_eq_true c_9]; rfl)

set_option maxHeartbeats 4000000 in
set_option maxRecDepth 100000 in
theorem c_X4_fitsBehindRiver (l : Launch) (D : va_G) (cI cZ : ClassId) (kS vS : Nat) (cd : Nat) (rv : Nat) (hc : cd < 128 ∧ rv < 100) : CI l yX4_fitsBehindRiver cX4_fitsBehindRiver 2 .boolean D cI cZ kS vS 0 0 0 0 [.int (nI cd), .int (nI rv)] [] (fun (r : Int32) (_ : Unit) => r = bI (fbr cd rv)) (fun (_ : Unit) => []) := by
  refine CI_intro (by decide) (Nat.le_of_ble_eq_true rfl) ?_
  intro p e s m args below meth c A Q ls C h hret hl
  have C : CX p s m args c cX4_fitsBehindRiver 2 RX4 D cI cZ kS vS A := C
  have hx := C.1.1
  have hb := C.1.2.1
  have hl : lv_has ls 2 [(0, .int (nI cd)), (1, .int (nI rv))] := hl
  refine lv_iload_n hx hb dX4_fitsBehindRiver_0 rfl (lv_at hl 0 rfl) ?_
  refine lv_bipush (v := 44) hx hb dX4_fitsBehindRiver_1 (by decide) ?_
  refine lv_icmp_ne (tgt := 17) hx hb dX4_fitsBehindRiver_3 (by decide) (fun c_3 => ?_) (fun c_3 => ?_)
  · skip
    have c_3 : ¬ cd = 44 := fun z => c_3 ((jeq (a := cd) (b := 44) (by omega) (by omega)).mpr z)
    refine lv_iload_n hx hb dX4_fitsBehindRiver_17 rfl (lv_at hl 0 rfl) ?_
    refine lv_bipush (v := 59) hx hb dX4_fitsBehindRiver_18 (by decide) ?_
    refine lv_icmp_ne (tgt := 32) hx hb dX4_fitsBehindRiver_20 (by decide) (fun c_20 => ?_) (fun c_20 => ?_)
    · skip
      have c_20 : ¬ cd = 59 := fun z => c_20 ((jeq (a := cd) (b := 59) (by omega) (by omega)).mpr z)
      refine lv_iconst (v := 0) hx hb dX4_fitsBehindRiver_32 (by decide) ?_
      exact hret (r := 0) () dX4_fitsBehindRiver_33 h (rfl) (by simp [fbr, bI, c_3, c_20])
    · skip
      have c_20 := (jeq (a := cd) (b := 59) (by omega) (by omega)).mp c_20
      refine lv_iload_n hx hb dX4_fitsBehindRiver_23 rfl (lv_at hl 1 rfl) ?_
      refine lv_iconst (v := 2) hx hb dX4_fitsBehindRiver_24 (by decide) ?_
      refine lv_icmp_lt (tgt := 32) hx hb dX4_fitsBehindRiver_25 (by decide) (fun c_25 => ?_) (fun c_25 => ?_)
      · skip
        have c_25 := (jlt (a := rv) (b := 2) (by omega) (by omega)).mp c_25
        refine lv_iconst (v := 0) hx hb dX4_fitsBehindRiver_32 (by decide) ?_
        exact hret (r := 0) () dX4_fitsBehindRiver_33 h (rfl) (by simp [fbr, bI, c_3, c_20, c_25])
      · skip
        have c_25 : ¬ rv < 2 := fun z => c_25 ((jlt (a := rv) (b := 2) (by omega) (by omega)).mpr z)
        refine lv_iconst (v := 1) hx hb dX4_fitsBehindRiver_28 (by decide) ?_
        refine lv_goto (tgt := 33) hx hb dX4_fitsBehindRiver_29 (by decide) ?_
        exact hret (r := 1) () dX4_fitsBehindRiver_33 h (rfl) (by simp [fbr, bI, c_3, c_20, c_25])
  · skip
    have c_3 := (jeq (a := cd) (b := 44) (by omega) (by omega)).mp c_3
    refine lv_iload_n hx hb dX4_fitsBehindRiver_6 rfl (lv_at hl 1 rfl) ?_
    refine lv_iconst (v := 5) hx hb dX4_fitsBehindRiver_7 (by decide) ?_
    refine lv_icmp_ge (tgt := 15) hx hb dX4_fitsBehindRiver_8 (by decide) (fun c_8 => ?_) (fun c_8 => ?_)
    · skip
      have c_8 := (jle (a := 5) (b := rv) (by omega) (by omega)).mp c_8
      refine lv_iconst (v := 0) hx hb dX4_fitsBehindRiver_15 (by decide) ?_
      exact hret (r := 0) () dX4_fitsBehindRiver_16 h (rfl) (by simp [fbr, bI, c_3, c_8])
    · skip
      have c_8 : ¬ 5 ≤ rv := fun z => c_8 ((jle (a := 5) (b := rv) (by omega) (by omega)).mpr z)
      refine lv_iconst (v := 1) hx hb dX4_fitsBehindRiver_11 (by decide) ?_
      refine lv_goto (tgt := 16) hx hb dX4_fitsBehindRiver_12 (by decide) ?_
      exact hret (r := 1) () dX4_fitsBehindRiver_16 h (rfl) (by simp [fbr, bI, c_3, c_8])

set_option maxHeartbeats 4000000 in
set_option maxRecDepth 100000 in
theorem c_J0_isLatin1_aae02 (l : Launch) (D : va_G) (cI cZ : ClassId) (kS vS : Nat)   : CI l yJ0_isLatin1_aae02 cJ0_isLatin1_aae02 1 .boolean D cI cZ kS vS 0 0 0 0 [.ref kS] [] (fun (r : Int32) (_ : Unit) => r = 1) (fun (_ : Unit) => []) := by
  refine CI_intro (by decide) (Nat.le_of_ble_eq_true rfl) ?_
  intro p e s m args below meth c A Q ls C h hret hl
  have C : CX p s m args c cJ0_isLatin1_aae02 1 RJ0 D cI cZ kS vS A := C
  have hx := C.1.1
  have hb := C.1.2.1
  have hl : lv_has ls 1 [(0, .ref kS)] := hl
  refine r_scmp C h mf_RJ0_38 dJ0_isLatin1_aae02_0 ?_
  refine lv_if_eq (tgt := 17) hx hb dJ0_isLatin1_aae02_3 (by decide) (fun c_3 => ?_) (fun c_3 => ?_)
  · skip
    have c_3 := (jeq (a := 1) (b := 0) (by omega) (by omega)).mp c_3
    exact absurd c_3 (by decide)
  · skip
    have c_3 : ¬ 1 = 0 := fun z => c_3 ((jeq (a := 1) (b := 0) (by omega) (by omega)).mpr z)
    refine lv_aload_n hx hb dJ0_isLatin1_aae02_6 rfl (lv_at hl 0 rfl) ?_
    refine r_scod C h mf_RJ0_15 dJ0_isLatin1_aae02_7 ?_
    refine lv_if_ne (tgt := 17) hx hb dJ0_isLatin1_aae02_10 (by decide) (fun c_10 => ?_) (fun c_10 => ?_)
    · skip
      have c_10 : ¬ 0 = 0 := fun z => c_10 ((jeq (a := 0) (b := 0) (by omega) (by omega)).mpr z)
      exact absurd (show (0 : Nat) = 0 from rfl) c_10
    · skip
      have c_10 := (jeq (a := 0) (b := 0) (by omega) (by omega)).mp c_10
      refine lv_iconst (v := 1) hx hb dJ0_isLatin1_aae02_13 (by decide) ?_
      refine lv_goto (tgt := 18) hx hb dJ0_isLatin1_aae02_14 (by decide) ?_
      exact hret (r := 1) () dJ0_isLatin1_aae02_18 h (rfl) (rfl)

set_option maxHeartbeats 4000000 in
set_option maxRecDepth 100000 in
theorem c_J0_coder_7d493 (l : Launch) (D : va_G) (cI cZ : ClassId) (kS vS : Nat)   : CI l yJ0_coder_7d493 cJ0_coder_7d493 1 .byte D cI cZ kS vS 0 0 0 0 [.ref kS] [] (fun (r : Int32) (_ : Unit) => r = 0) (fun (_ : Unit) => []) := by
  refine CI_intro (by decide) (Nat.le_of_ble_eq_true rfl) ?_
  intro p e s m args below meth c A Q ls C h hret hl
  have C : CX p s m args c cJ0_coder_7d493 1 RJ0 D cI cZ kS vS A := C
  have hx := C.1.1
  have hb := C.1.2.1
  have hl : lv_has ls 1 [(0, .ref kS)] := hl
  refine r_scmp C h mf_RJ0_38 dJ0_coder_7d493_0 ?_
  refine lv_if_eq (tgt := 13) hx hb dJ0_coder_7d493_3 (by decide) (fun c_3 => ?_) (fun c_3 => ?_)
  · skip
    have c_3 := (jeq (a := 1) (b := 0) (by omega) (by omega)).mp c_3
    exact absurd c_3 (by decide)
  · skip
    have c_3 : ¬ 1 = 0 := fun z => c_3 ((jeq (a := 1) (b := 0) (by omega) (by omega)).mpr z)
    refine lv_aload_n hx hb dJ0_coder_7d493_6 rfl (lv_at hl 0 rfl) ?_
    refine r_scod C h mf_RJ0_15 dJ0_coder_7d493_7 ?_
    refine lv_goto (tgt := 14) hx hb dJ0_coder_7d493_10 (by decide) ?_
    exact hret (r := 0) () dJ0_coder_7d493_14 h (rfl) (rfl)

set_option maxHeartbeats 4000000 in
set_option maxRecDepth 100000 in
theorem c_J0_length_8abf5 (l : Launch) (D : va_G) (cI cZ : ClassId) (kS vS : Nat)   : CI l yJ0_length_8abf5 cJ0_length_8abf5 1 .int D cI cZ kS vS 1 20 0 0 [.ref kS] [] (fun (r : Int32) (_ : Unit) => r = nI 5) (fun (_ : Unit) => []) := by
  refine CI_intro (by decide) (Nat.le_of_ble_eq_true rfl) ?_
  intro p e s m args below meth c A Q ls C h hret hl
  have C : CX p s m args c cJ0_length_8abf5 1 RJ0 D cI cZ kS vS A := C
  have hx := C.1.1
  have hb := C.1.2.1
  have hl : lv_has ls 1 [(0, .ref kS)] := hl
  refine lv_aload_n hx hb dJ0_length_8abf5_0 rfl (lv_at hl 0 rfl) ?_
  refine r_sval C h mf_RJ0_9 dJ0_length_8abf5_1 ?_
  refine r_slen C h dJ0_length_8abf5_4 ?_
  refine lv_aload_n hx hb dJ0_length_8abf5_5 rfl (lv_at hl 0 rfl) ?_
  refine k_ViS (rest := [.int (nI 5)]) (as := []) (wc := []) (wr := []) (isC := []) (isR := []) (w2 := fun (_ : Unit) => []) C h (c_J0_coder_7d493 l D cI cZ kS vS  ) wv_J0_coder_7d493 rfl ⟨rfl, rfl, rfl, rfl, by decide⟩ rfl ml_RJ0_335 [] rfl (fun _ => rfl) ⟨Nat.le_of_ble_eq_true rfl, Nat.le_of_ble_eq_true rfl⟩ ⟨Nat.le_of_ble_eq_true rfl, Nat.le_of_ble_eq_true rfl⟩ (Nat.le_of_ble_eq_true rfl) hl rfl dJ0_length_8abf5_6 (fun r u H locs hq h => ?_)
  have h : HS D A s H locs [] := h
  have hq : r = 0 := hq
  have hq := hq.symm
  subst hq
  refine lv_ishr hx hb dJ0_length_8abf5_9 ?_
  refine r_top (y := nI 5) (by decide) ?_
  exact hret (r := nI 5) () dJ0_length_8abf5_10 h (rfl) (rfl)

set_option maxHeartbeats 4000000 in
set_option maxRecDepth 100000 in
theorem c_J1_canEncode_9a6ad (l : Launch) (D : va_G) (cI cZ : ClassId) (kS vS : Nat) (cd : Nat) (hc : cd < 127) : CI l yJ1_canEncode_9a6ad cJ1_canEncode_9a6ad 1 .boolean D cI cZ kS vS 0 0 0 0 [.int (nI cd)] [] (fun (r : Int32) (_ : Unit) => r = 1) (fun (_ : Unit) => []) := by
  refine CI_intro (by decide) (Nat.le_of_ble_eq_true rfl) ?_
  intro p e s m args below meth c A Q ls C h hret hl
  have C : CX p s m args c cJ1_canEncode_9a6ad 1 RJ1 D cI cZ kS vS A := C
  have hx := C.1.1
  have hb := C.1.2.1
  have hl : lv_has ls 1 [(0, .int (nI cd))] := hl
  refine lv_iload_n hx hb dJ1_canEncode_9a6ad_0 rfl (lv_at hl 0 rfl) ?_
  refine lv_if_lt (tgt := 15) hx hb dJ1_canEncode_9a6ad_1 (by decide) (fun c_1 => ?_) (fun c_1 => ?_)
  · skip
    have c_1 := (jlt (a := cd) (b := 0) (by omega) (by omega)).mp c_1
    exact absurd c_1 (by omega)
  · skip
    have c_1 : ¬ cd < 0 := fun z => c_1 ((jlt (a := cd) (b := 0) (by omega) (by omega)).mpr z)
    refine lv_iload_n hx hb dJ1_canEncode_9a6ad_4 rfl (lv_at hl 0 rfl) ?_
    refine lv_sipush (v := 255) hx hb dJ1_canEncode_9a6ad_5 (by decide) ?_
    refine lv_icmp_gt (tgt := 15) hx hb dJ1_canEncode_9a6ad_8 (by decide) (fun c_8 => ?_) (fun c_8 => ?_)
    · skip
      have c_8 := (jlt (a := 255) (b := cd) (by omega) (by omega)).mp c_8
      exact absurd c_8 (by omega)
    · skip
      have c_8 : ¬ 255 < cd := fun z => c_8 ((jlt (a := 255) (b := cd) (by omega) (by omega)).mpr z)
      refine lv_iconst (v := 1) hx hb dJ1_canEncode_9a6ad_11 (by decide) ?_
      refine lv_goto (tgt := 16) hx hb dJ1_canEncode_9a6ad_12 (by decide) ?_
      exact hret (r := 1) () dJ1_canEncode_9a6ad_16 h (rfl) (rfl)

set_option maxHeartbeats 4000000 in
set_option maxRecDepth 100000 in
theorem c_J1_indexOfChar_4cfef (l : Launch) (D : va_G) (cI cZ : ClassId) (kS vS : Nat) (cd : Nat) (hc : cd < 127) : CI l yJ1_indexOfChar_4cfef cJ1_indexOfChar_4cfef 6 .int D cI cZ kS vS 0 0 0 0 [.ref vS, .int (nI cd), .int 0, .int (nI 5)] [] (fun (r : Int32) (_ : Unit) => r = kb cd) (fun (_ : Unit) => []) := by
  refine CI_intro (by decide) (Nat.le_of_ble_eq_true rfl) ?_
  intro p e s m args below meth c A Q ls C h hret hl
  have C : CX p s m args c cJ1_indexOfChar_4cfef 6 RJ1 D cI cZ kS vS A := C
  have hx := C.1.1
  have hb := C.1.2.1
  have hl : lv_has ls 6 [(0, .ref vS), (1, .int (nI cd)), (2, .int 0), (3, .int (nI 5))] := hl
  refine lv_iload_n hx hb dJ1_indexOfChar_4cfef_0 rfl (lv_at hl 1 rfl) ?_
  refine lv_i2b hx hb dJ1_indexOfChar_4cfef_1 rfl ?_
  refine r_top (y := nI cd) (i2b_c cd (by omega)) ?_
  refine lv_istore (lv' := [(4, .int (nI cd)), (0, .ref vS), (1, .int (nI cd)), (2, .int 0), (3, .int (nI 5))]) hx hb dJ1_indexOfChar_4cfef_2 hl (by decide) rfl (fun ls hl => ?_)
  refine lv_iload_n hx hb dJ1_indexOfChar_4cfef_4 rfl (lv_at hl 3 rfl) ?_
  refine lv_istore (lv' := [(5, .int 0), (4, .int (nI cd)), (0, .ref vS), (1, .int (nI cd)), (2, .int 0), (3, .int (nI 5))]) hx hb dJ1_indexOfChar_4cfef_5 hl (by decide) rfl (fun ls hl => ?_)
  have L7 : ∀ (fu : Nat) (i : Nat), (5 - i) < fu → (hi : i ≤ 5) → (hno : ∀ j, j < i → ¬ bt j = cd) → ∀ (H : Heap) (locs : List Loc) (ls : Array Slot), HS D A s H locs [] → lv_has ls 6 [(0, .ref vS), (3, .int (nI 5)), (4, .int (nI cd)), (5, .int (nI i))] → W p l e (rmO 0 0 0 0) s m args below meth c H locs 0 0 Q (F0 m 7 ls []) := by
    intro fu
    induction fu with
    | zero => intro i hfu; exact absurd hfu (Nat.not_lt_zero _)
    | succ fu ih7 =>
      intro i hfu hi hno H locs ls h hl
      refine lv_iload hx hb dJ1_indexOfChar_4cfef_7 (lv_at hl 3 rfl) ?_
      refine lv_iload_n hx hb dJ1_indexOfChar_4cfef_9 rfl (lv_at hl 1 rfl) ?_
      refine lv_icmp_ge (tgt := 31) hx hb dJ1_indexOfChar_4cfef_10 (by decide) (fun c_10 => ?_) (fun c_10 => ?_)
      · skip
        have c_10 := (jle (a := 5) (b := i) (by omega) (by omega)).mp c_10
        obtain rfl : 5 = i := by omega
        refine lv_iconst (v := (-1)) hx hb dJ1_indexOfChar_4cfef_31 (by decide) ?_
        exact hret (r := (-1)) () dJ1_indexOfChar_4cfef_32 h (rfl) (kb_no hno)
      · skip
        have c_10 : ¬ 5 ≤ i := fun z => c_10 ((jle (a := 5) (b := i) (by omega) (by omega)).mpr z)
        have hl5 : i < 5 := by omega
        have hb128 := bt_lt i hl5
        refine lv_aload_n hx hb dJ1_indexOfChar_4cfef_13 rfl (lv_at hl 0 rfl) ?_
        refine lv_iload hx hb dJ1_indexOfChar_4cfef_14 (lv_at hl 3 rfl) ?_
        refine r_sld C h i (by omega) (bt_v i hl5) dJ1_indexOfChar_4cfef_16 ?_
        refine lv_iload hx hb dJ1_indexOfChar_4cfef_17 (lv_at hl 2 rfl) ?_
        refine lv_icmp_ne (tgt := 25) hx hb dJ1_indexOfChar_4cfef_19 (by decide) (fun c_19 => ?_) (fun c_19 => ?_)
        · skip
          have c_19 : ¬ (bt i) = cd := fun z => c_19 ((jeq (a := (bt i)) (b := cd) (by omega) (by omega)).mpr z)
          refine lv_iinc (v := nI (i + 1)) (lv' := [(5, .int (nI (i + 1))), (0, .ref vS), (3, .int (nI 5)), (4, .int (nI cd))]) hx hb dJ1_indexOfChar_4cfef_25 hl (k := 3) rfl (nI_1 i) (by decide) rfl (fun ls hl => ?_)
          refine lv_goto (tgt := 7) hx hb dJ1_indexOfChar_4cfef_28 (by decide) ?_
          exact ih7  (i + 1) (by omega) (by first | assumption | omega) (fun j hj => (Nat.lt_succ_iff_lt_or_eq.mp hj).elim (hno j) (fun e => by rw [e]; exact c_19)) _ _ _ h (lv_sub hl [1, 2, 3, 0] rfl)
        · skip
          have c_19 := (jeq (a := (bt i)) (b := cd) (by omega) (by omega)).mp c_19
          refine lv_iload hx hb dJ1_indexOfChar_4cfef_22 (lv_at hl 3 rfl) ?_
          exact hret (r := nI i) () dJ1_indexOfChar_4cfef_24 h (rfl) (by rw [← c_19]; exact kb_at i hl5)
  exact L7 ((5 - 0) + 1) 0 (by omega) (by first | assumption | omega) (fun j hj => absurd hj (Nat.not_lt_zero j)) _ _ _ h (lv_sub hl [2, 5, 1, 0] rfl)

set_option maxHeartbeats 4000000 in
set_option maxRecDepth 100000 in
theorem c_J1_indexOf_4cfef (l : Launch) (D : va_G) (cI cZ : ClassId) (kS vS : Nat) (cd : Nat) (hc : cd < 127) : CI l yJ1_indexOf_4cfef cJ1_indexOf_4cfef 4 .int D cI cZ kS vS 1 25 0 0 [.ref vS, .int (nI cd), .int 0, .int (nI 5)] [] (fun (r : Int32) (_ : Unit) => r = kb cd) (fun (_ : Unit) => []) := by
  refine CI_intro (by decide) (Nat.le_of_ble_eq_true rfl) ?_
  intro p e s m args below meth c A Q ls C h hret hl
  have C : CX p s m args c cJ1_indexOf_4cfef 4 RJ1 D cI cZ kS vS A := C
  have hx := C.1.1
  have hb := C.1.2.1
  have hl : lv_has ls 4 [(0, .ref vS), (1, .int (nI cd)), (2, .int 0), (3, .int (nI 5))] := hl
  refine lv_iload_n hx hb dJ1_indexOf_4cfef_0 rfl (lv_at hl 1 rfl) ?_
  refine k_Si (rest := []) (as := [.int (nI cd)]) (wc := []) (wr := []) (isC := []) (isR := []) (w2 := fun (_ : Unit) => []) C h (c_J1_canEncode_9a6ad l D cI cZ kS vS cd hc) wv_J1_canEncode_9a6ad rfl ⟨rfl, rfl, rfl, rfl, by decide⟩ ml_RJ1_88 [] rfl (fun _ => rfl) ⟨Nat.le_of_ble_eq_true rfl, Nat.le_of_ble_eq_true rfl⟩ ⟨Nat.le_of_ble_eq_true rfl, Nat.le_of_ble_eq_true rfl⟩ (Nat.le_of_ble_eq_true rfl) hl rfl dJ1_indexOf_4cfef_1 (fun r u H locs hq h => ?_)
  have h : HS D A s H locs [] := h
  have hq : r = 1 := hq
  have hq := hq.symm
  subst hq
  refine lv_if_ne (tgt := 9) hx hb dJ1_indexOf_4cfef_4 (by decide) (fun c_4 => ?_) (fun c_4 => ?_)
  · skip
    have c_4 : ¬ 1 = 0 := fun z => c_4 ((jeq (a := 1) (b := 0) (by omega) (by omega)).mpr z)
    refine lv_iload_n hx hb dJ1_indexOf_4cfef_9 rfl (lv_at hl 2 rfl) ?_
    refine lv_iconst (v := 0) hx hb dJ1_indexOf_4cfef_10 (by decide) ?_
    refine r_max C ml_RJ1_92 hl ⟨Nat.le_of_ble_eq_true rfl, Nat.le_of_ble_eq_true rfl⟩ ⟨Nat.le_of_ble_eq_true rfl, Nat.le_of_ble_eq_true rfl⟩ dJ1_indexOf_4cfef_11 ?_
    refine r_top (y := 0) (rfl) ?_
    refine lv_istore_n (lv' := [(2, .int 0), (0, .ref vS), (1, .int (nI cd)), (3, .int (nI 5))]) hx hb dJ1_indexOf_4cfef_14 rfl hl (by decide) rfl (fun ls hl => ?_)
    refine lv_iload_n hx hb dJ1_indexOf_4cfef_15 rfl (lv_at hl 3 rfl) ?_
    refine lv_aload_n hx hb dJ1_indexOf_4cfef_16 rfl (lv_at hl 1 rfl) ?_
    refine r_slen C h dJ1_indexOf_4cfef_17 ?_
    refine r_min C ml_RJ1_38 hl ⟨Nat.le_of_ble_eq_true rfl, Nat.le_of_ble_eq_true rfl⟩ ⟨Nat.le_of_ble_eq_true rfl, Nat.le_of_ble_eq_true rfl⟩ dJ1_indexOf_4cfef_18 ?_
    refine r_top (y := nI 5) (by decide) ?_
    refine lv_istore_n (lv' := [(3, .int (nI 5)), (2, .int 0), (0, .ref vS), (1, .int (nI cd))]) hx hb dJ1_indexOf_4cfef_21 rfl hl (by decide) rfl (fun ls hl => ?_)
    refine lv_iload_n hx hb dJ1_indexOf_4cfef_22 rfl (lv_at hl 1 rfl) ?_
    refine lv_iload_n hx hb dJ1_indexOf_4cfef_23 rfl (lv_at hl 0 rfl) ?_
    refine lv_icmp_lt (tgt := 29) hx hb dJ1_indexOf_4cfef_24 (by decide) (fun c_24 => ?_) (fun c_24 => ?_)
    · skip
      have c_24 := (jlt (a := 0) (b := 5) (by omega) (by omega)).mp c_24
      refine lv_aload_n hx hb dJ1_indexOf_4cfef_29 rfl (lv_at hl 2 rfl) ?_
      refine lv_iload_n hx hb dJ1_indexOf_4cfef_30 rfl (lv_at hl 3 rfl) ?_
      refine lv_iload_n hx hb dJ1_indexOf_4cfef_31 rfl (lv_at hl 1 rfl) ?_
      refine lv_iload_n hx hb dJ1_indexOf_4cfef_32 rfl (lv_at hl 0 rfl) ?_
      refine k_Si (rest := []) (as := [.ref vS, .int (nI cd), .int 0, .int (nI 5)]) (wc := []) (wr := []) (isC := []) (isR := []) (w2 := fun (_ : Unit) => []) C h (c_J1_indexOfChar_4cfef l D cI cZ kS vS cd hc) wv_J1_indexOfChar_4cfef rfl ⟨rfl, rfl, rfl, rfl, by decide⟩ ml_RJ1_95 [] rfl (fun _ => rfl) ⟨Nat.le_of_ble_eq_true rfl, Nat.le_of_ble_eq_true rfl⟩ ⟨Nat.le_of_ble_eq_true rfl, Nat.le_of_ble_eq_true rfl⟩ (Nat.le_of_ble_eq_true rfl) hl rfl dJ1_indexOf_4cfef_33 (fun r u H locs hq h => ?_)
      have h : HS D A s H locs [] := h
      have hq : r = kb cd := hq
      have hq := hq.symm
      subst hq
      exact hret (r := kb cd) () dJ1_indexOf_4cfef_36 h (rfl) (rfl)
    · skip
      have c_24 : ¬ 0 < 5 := fun z => c_24 ((jlt (a := 0) (b := 5) (by omega) (by omega)).mpr z)
      exact absurd (show (0 : Nat) < 5 by decide) c_24
  · skip
    have c_4 := (jeq (a := 1) (b := 0) (by omega) (by omega)).mp c_4
    exact absurd c_4 (by decide)

set_option maxHeartbeats 4000000 in
set_option maxRecDepth 100000 in
theorem c_J0_indexOf_7cf53 (l : Launch) (D : va_G) (cI cZ : ClassId) (kS vS : Nat) (cd : Nat) (hc : cd < 127) : CI l yJ0_indexOf_7cf53 cJ0_indexOf_7cf53 3 .int D cI cZ kS vS 2 48 0 0 [.ref kS, .int (nI cd), .int 0] [] (fun (r : Int32) (_ : Unit) => r = kb cd) (fun (_ : Unit) => []) := by
  refine CI_intro (by decide) (Nat.le_of_ble_eq_true rfl) ?_
  intro p e s m args below meth c A Q ls C h hret hl
  have C : CX p s m args c cJ0_indexOf_7cf53 3 RJ0 D cI cZ kS vS A := C
  have hx := C.1.1
  have hb := C.1.2.1
  have hl : lv_has ls 3 [(0, .ref kS), (1, .int (nI cd)), (2, .int 0)] := hl
  refine lv_aload_n hx hb dJ0_indexOf_7cf53_0 rfl (lv_at hl 0 rfl) ?_
  refine k_ViS (rest := []) (as := []) (wc := []) (wr := []) (isC := []) (isR := []) (w2 := fun (_ : Unit) => []) C h (c_J0_isLatin1_aae02 l D cI cZ kS vS  ) wv_J0_isLatin1_aae02 rfl ⟨rfl, rfl, rfl, rfl, by decide⟩ rfl ml_RJ0_492 [] rfl (fun _ => rfl) ⟨Nat.le_of_ble_eq_true rfl, Nat.le_of_ble_eq_true rfl⟩ ⟨Nat.le_of_ble_eq_true rfl, Nat.le_of_ble_eq_true rfl⟩ (Nat.le_of_ble_eq_true rfl) hl rfl dJ0_indexOf_7cf53_1 (fun r u H locs hq h => ?_)
  have h : HS D A s H locs [] := h
  have hq : r = 1 := hq
  have hq := hq.symm
  subst hq
  refine lv_if_eq (tgt := 23) hx hb dJ0_indexOf_7cf53_4 (by decide) (fun c_4 => ?_) (fun c_4 => ?_)
  · skip
    have c_4 := (jeq (a := 1) (b := 0) (by omega) (by omega)).mp c_4
    exact absurd c_4 (by decide)
  · skip
    have c_4 : ¬ 1 = 0 := fun z => c_4 ((jeq (a := 1) (b := 0) (by omega) (by omega)).mpr z)
    refine lv_aload_n hx hb dJ0_indexOf_7cf53_7 rfl (lv_at hl 0 rfl) ?_
    refine r_sval C h mf_RJ0_9 dJ0_indexOf_7cf53_8 ?_
    refine lv_iload_n hx hb dJ0_indexOf_7cf53_11 rfl (lv_at hl 1 rfl) ?_
    refine lv_iload_n hx hb dJ0_indexOf_7cf53_12 rfl (lv_at hl 2 rfl) ?_
    refine lv_aload_n hx hb dJ0_indexOf_7cf53_13 rfl (lv_at hl 0 rfl) ?_
    refine k_ViS (rest := [.int 0, .int (nI cd), .ref vS]) (as := []) (wc := []) (wr := []) (isC := []) (isR := []) (w2 := fun (_ : Unit) => []) C h (c_J0_length_8abf5 l D cI cZ kS vS  ) wv_J0_length_8abf5 rfl ⟨rfl, rfl, rfl, rfl, by decide⟩ rfl ml_RJ0_505 [] rfl (fun _ => rfl) ⟨Nat.le_of_ble_eq_true rfl, Nat.le_of_ble_eq_true rfl⟩ ⟨Nat.le_of_ble_eq_true rfl, Nat.le_of_ble_eq_true rfl⟩ (Nat.le_of_ble_eq_true rfl) hl rfl dJ0_indexOf_7cf53_14 (fun r u H locs hq h => ?_)
    have h : HS D A s H locs [] := h
    have hq : r = nI 5 := hq
    have hq := hq.symm
    subst hq
    refine k_Si (rest := []) (as := [.ref vS, .int (nI cd), .int 0, .int (nI 5)]) (wc := []) (wr := []) (isC := []) (isR := []) (w2 := fun (_ : Unit) => []) C h (c_J1_indexOf_4cfef l D cI cZ kS vS cd hc) wv_J1_indexOf_4cfef rfl ⟨rfl, rfl, rfl, rfl, by decide⟩ ml_RJ0_637 [] rfl (fun _ => rfl) ⟨Nat.le_of_ble_eq_true rfl, Nat.le_of_ble_eq_true rfl⟩ ⟨Nat.le_of_ble_eq_true rfl, Nat.le_of_ble_eq_true rfl⟩ (Nat.le_of_ble_eq_true rfl) hl rfl dJ0_indexOf_7cf53_17 (fun r u H locs hq h => ?_)
    have h : HS D A s H locs [] := h
    have hq : r = kb cd := hq
    have hq := hq.symm
    subst hq
    refine lv_goto (tgt := 36) hx hb dJ0_indexOf_7cf53_20 (by decide) ?_
    exact hret (r := kb cd) () dJ0_indexOf_7cf53_36 h (rfl) (rfl)

set_option maxHeartbeats 4000000 in
set_option maxRecDepth 100000 in
theorem c_J0_indexOf_0f7a4 (l : Launch) (D : va_G) (cI cZ : ClassId) (kS vS : Nat) (cd : Nat) (hc : cd < 127) : CI l yJ0_indexOf_0f7a4 cJ0_indexOf_0f7a4 2 .int D cI cZ kS vS 3 70 0 0 [.ref kS, .int (nI cd)] [] (fun (r : Int32) (_ : Unit) => r = kb cd) (fun (_ : Unit) => []) := by
  refine CI_intro (by decide) (Nat.le_of_ble_eq_true rfl) ?_
  intro p e s m args below meth c A Q ls C h hret hl
  have C : CX p s m args c cJ0_indexOf_0f7a4 2 RJ0 D cI cZ kS vS A := C
  have hx := C.1.1
  have hb := C.1.2.1
  have hl : lv_has ls 2 [(0, .ref kS), (1, .int (nI cd))] := hl
  refine lv_aload_n hx hb dJ0_indexOf_0f7a4_0 rfl (lv_at hl 0 rfl) ?_
  refine lv_iload_n hx hb dJ0_indexOf_0f7a4_1 rfl (lv_at hl 1 rfl) ?_
  refine lv_iconst (v := 0) hx hb dJ0_indexOf_0f7a4_2 (by decide) ?_
  refine k_ViS (rest := []) (as := [.int (nI cd), .int 0]) (wc := []) (wr := []) (isC := []) (isR := []) (w2 := fun (_ : Unit) => []) C h (c_J0_indexOf_7cf53 l D cI cZ kS vS cd hc) wv_J0_indexOf_7cf53 rfl ⟨rfl, rfl, rfl, rfl, by decide⟩ rfl ml_RJ0_633 [] rfl (fun _ => rfl) ⟨Nat.le_of_ble_eq_true rfl, Nat.le_of_ble_eq_true rfl⟩ ⟨Nat.le_of_ble_eq_true rfl, Nat.le_of_ble_eq_true rfl⟩ (Nat.le_of_ble_eq_true rfl) hl rfl dJ0_indexOf_0f7a4_3 (fun r u H locs hq h => ?_)
  have h : HS D A s H locs [] := h
  have hq : r = kb cd := hq
  have hq := hq.symm
  subst hq
  exact hret (r := kb cd) () dJ0_indexOf_0f7a4_6 h (rfl) (rfl)

set_option maxHeartbeats 4000000 in
set_option maxRecDepth 100000 in
theorem c_X4_fits (l : Launch) (D : va_G) (cI cZ : ClassId) (kS vS : Nat) (g0 : Nat) (g1 : Nat) (ps : Nat) (pg : Nat → Nat) (k : Nat) (hp24 : ps ≤ 24) (hlt : ∀ j, j < ps → pg j < 127) (hct : ∀ z, cat pg ps z < 127) (hk : k < ps) : CI l yX4_fits cX4_fits 4 .boolean D cI cZ kS vS 4 91 0 0 [.ref g0, .int (nI k)] [(g0, .inr (4, [.ref g1, .int (nI ps)])), (g1, .inl (cI, 24, .inl (ro pg)))] (fun (r : Int32) (_ : Unit) => r = bI (fitb pg k)) (fun (_ : Unit) => [(g0, .inr (4, [.ref g1, .int (nI ps)])), (g1, .inl (cI, 24, .inl (ro pg)))]) := by
  refine CI_intro (by decide) (Nat.le_of_ble_eq_true rfl) ?_
  intro p e s m args below meth c A Q ls C h hret hl
  have C : CX p s m args c cX4_fits 4 RX4 D cI cZ kS vS A := C
  have hx := C.1.1
  have hb := C.1.2.1
  have hl : lv_has ls 4 [(0, .ref g0), (1, .int (nI k))] := hl
  have hk127 := hlt k hk
  have ek : cat pg ps (nI k) = pg k := cat_nI hk (by omega)
  have es1 := sem_1 (pg := pg) (k := k) (ps := ps) (by omega) (by omega)
  have es2 := sem_2 (pg := pg) (k := k) (ps := ps) (by omega) (by omega)
  refine lv_aload_n hx hb dX4_fits_0 rfl (lv_at hl 0 rfl) ?_
  refine lv_iload_n hx hb dX4_fits_1 rfl (lv_at hl 1 rfl) ?_
  refine k_Vi (rest := []) (as := [.int (nI k)]) (wc := [(g0, .inr (4, [.ref g1, .int (nI ps)])), (g1, .inl (cI, 24, .inl (ro pg)))]) (wr := []) (isC := [0, 1]) (isR := []) (w2 := fun (_ : Unit) => [(g0, .inr (4, [.ref g1, .int (nI ps)])), (g1, .inl (cI, 24, .inl (ro pg)))]) C h (c_X4_codeAt l D cI cZ kS vS g0 g1 ps pg (nI k) hp24) wv_X4_codeAt rfl ⟨rfl, rfl, rfl, rfl, by decide⟩ fk4 0 rfl ml_RX4_36 [0, 1] rfl (fun _ => rfl) ⟨Nat.le_of_ble_eq_true rfl, Nat.le_of_ble_eq_true rfl⟩ ⟨Nat.le_of_ble_eq_true rfl, Nat.le_of_ble_eq_true rfl⟩ (Nat.le_of_ble_eq_true rfl) hl rfl dX4_fits_2 (fun r u H locs hq h => ?_)
  have h : HS D A s H locs [(g0, .inr (4, [.ref g1, .int (nI ps)])), (g1, .inl (cI, 24, .inl (ro pg)))] := h
  have hq : r = nI (cat pg ps (nI k)) := hq
  have hq := hq.symm
  subst hq
  refine r_top (y := nI (pg k)) (congrArg nI ek) ?_
  refine lv_istore_n (lv' := [(2, .int (nI (pg k))), (0, .ref g0), (1, .int (nI k))]) hx hb dX4_fits_5 rfl hl (by decide) rfl (fun ls hl => ?_)
  refine lv_aload_n hx hb dX4_fits_6 rfl (lv_at hl 1 rfl) ?_
  refine lv_iload_n hx hb dX4_fits_7 rfl (lv_at hl 2 rfl) ?_
  refine lv_iconst (v := 1) hx hb dX4_fits_8 (by decide) ?_
  refine lv_isub hx hb dX4_fits_9 ?_
  refine k_Vi (rest := []) (as := [.int ((nI k) - 1)]) (wc := [(g0, .inr (4, [.ref g1, .int (nI ps)])), (g1, .inl (cI, 24, .inl (ro pg)))]) (wr := []) (isC := [0, 1]) (isR := []) (w2 := fun (_ : Unit) => [(g0, .inr (4, [.ref g1, .int (nI ps)])), (g1, .inl (cI, 24, .inl (ro pg)))]) C h (c_X4_standsBehindEnd l D cI cZ kS vS g0 g1 ps pg ((nI k) - 1) hp24 (fun z => Nat.lt_trans (hct z) (by decide))) wv_X4_standsBehindEnd rfl ⟨rfl, rfl, rfl, rfl, by decide⟩ fk4 0 rfl ml_RX4_31 [0, 1] rfl (fun _ => rfl) ⟨Nat.le_of_ble_eq_true rfl, Nat.le_of_ble_eq_true rfl⟩ ⟨Nat.le_of_ble_eq_true rfl, Nat.le_of_ble_eq_true rfl⟩ (Nat.le_of_ble_eq_true rfl) hl rfl dX4_fits_10 (fun r u H locs hq h => ?_)
  have h : HS D A s H locs [(g0, .inr (4, [.ref g1, .int (nI ps)])), (g1, .inl (cI, 24, .inl (ro pg)))] := h
  have hq : r = bI (decide (cat pg ps (((nI k) - 1) - 1) = 59)) := hq
  have hq := hq.symm
  subst hq
  refine r_top (y := bI (sem pg k 2)) (congrArg bI es2) ?_
  refine lv_if_eq (tgt := 18) hx hb dX4_fits_13 (by decide) (fun c_13 => ?_) (fun c_13 => ?_)
  · skip
    have c_13 := bI_0.mp c_13
    refine lv_aload_n hx hb dX4_fits_18 rfl (lv_at hl 1 rfl) ?_
    refine lv_iload_n hx hb dX4_fits_19 rfl (lv_at hl 2 rfl) ?_
    refine k_Vi (rest := []) (as := [.int (nI k)]) (wc := [(g0, .inr (4, [.ref g1, .int (nI ps)])), (g1, .inl (cI, 24, .inl (ro pg)))]) (wr := []) (isC := [0, 1]) (isR := []) (w2 := fun (_ : Unit) => [(g0, .inr (4, [.ref g1, .int (nI ps)])), (g1, .inl (cI, 24, .inl (ro pg)))]) C h (c_X4_standsBehindEnd l D cI cZ kS vS g0 g1 ps pg (nI k) hp24 (fun z => Nat.lt_trans (hct z) (by decide))) wv_X4_standsBehindEnd rfl ⟨rfl, rfl, rfl, rfl, by decide⟩ fk4 0 rfl ml_RX4_31 [0, 1] rfl (fun _ => rfl) ⟨Nat.le_of_ble_eq_true rfl, Nat.le_of_ble_eq_true rfl⟩ ⟨Nat.le_of_ble_eq_true rfl, Nat.le_of_ble_eq_true rfl⟩ (Nat.le_of_ble_eq_true rfl) hl rfl dX4_fits_20 (fun r u H locs hq h => ?_)
    have h : HS D A s H locs [(g0, .inr (4, [.ref g1, .int (nI ps)])), (g1, .inl (cI, 24, .inl (ro pg)))] := h
    have hq : r = bI (decide (cat pg ps ((nI k) - 1) = 59)) := hq
    have hq := hq.symm
    subst hq
    refine r_top (y := bI (sem pg k 1)) (congrArg bI es1) ?_
    refine lv_if_eq (tgt := 35) hx hb dX4_fits_23 (by decide) (fun c_23 => ?_) (fun c_23 => ?_)
    · skip
      have c_23 := bI_0.mp c_23
      refine lv_iload_n hx hb dX4_fits_35 rfl (lv_at hl 2 rfl) ?_
      refine lv_iconst (v := 4) hx hb dX4_fits_36 (by decide) ?_
      refine lv_idiv hx hb dX4_fits_37 (by decide) ?_
      refine r_top (y := nI (k / 4)) (pk_div (d := 4) (by omega) (by decide) (by decide)) ?_
      refine lv_istore_n (lv' := [(3, .int (nI (k / 4))), (2, .int (nI (pg k))), (0, .ref g0), (1, .int (nI k))]) hx hb dX4_fits_38 rfl hl (by decide) rfl (fun ls hl => ?_)
      refine lv_iload_n hx hb dX4_fits_39 rfl (lv_at hl 3 rfl) ?_
      refine lv_iconst (v := 4) hx hb dX4_fits_40 (by decide) ?_
      refine lv_irem hx hb dX4_fits_41 (by decide) ?_
      refine r_top (y := nI (k % 4)) (pk_rem (d := 4) (by omega) (by decide) (by decide)) ?_
      by_cases k_42_0 : nI (k % 4) = 0
      · skip
        refine r_top (y := 0) k_42_0 ?_
        have k_42_0 := (jeq (a := k % 4) (b := 0) (by omega) (by omega)).mp k_42_0
        refine lv_tableIn (tgt := 68) hx hb dX4_fits_42 (by decide) (by decide) rfl (by decide) ?_
        refine r_sldc C rfl dX4_fits_68 ?_
        refine lv_iload_n hx hb dX4_fits_70 rfl (lv_at hl 1 rfl) ?_
        refine lv_i2c hx hb dX4_fits_71 rfl ?_
        refine r_top (y := nI (pg k)) (i2c_c _ (by omega)) ?_
        refine k_ViS (rest := []) (as := [.int (nI (pg k))]) (wc := []) (wr := [(g0, .inr (4, [.ref g1, .int (nI ps)])), (g1, .inl (cI, 24, .inl (ro pg)))]) (isC := []) (isR := [0, 1]) (w2 := fun (_ : Unit) => [(g0, .inr (4, [.ref g1, .int (nI ps)])), (g1, .inl (cI, 24, .inl (ro pg)))]) C h (c_J0_indexOf_0f7a4 l D cI cZ kS vS (pg k) hk127) wv_J0_indexOf_0f7a4 rfl ⟨rfl, rfl, rfl, rfl, by decide⟩ rfl ml_RX4_40 [0, 1] rfl (fun _ => rfl) ⟨Nat.le_of_ble_eq_true rfl, Nat.le_of_ble_eq_true rfl⟩ ⟨Nat.le_of_ble_eq_true rfl, Nat.le_of_ble_eq_true rfl⟩ (Nat.le_of_ble_eq_true rfl) hl rfl dX4_fits_72 (fun r u H locs hq h => ?_)
        have h : HS D A s H locs [(g0, .inr (4, [.ref g1, .int (nI ps)])), (g1, .inl (cI, 24, .inl (ro pg)))] := h
        have hq : r = kb (pg k) := hq
        have hq := hq.symm
        subst hq
        refine lv_if_lt (tgt := 82) hx hb dX4_fits_75 (by decide) (fun c_75 => ?_) (fun c_75 => ?_)
        · skip
          refine lv_iconst (v := 0) hx hb dX4_fits_82 (by decide) ?_
          exact hret (r := 0) () dX4_fits_83 h (rfl) (by unfold fitb; rw [c_13, c_23, k_42_0]; simp [bI, c_75])
        · skip
          refine lv_iconst (v := 1) hx hb dX4_fits_78 (by decide) ?_
          refine lv_goto (tgt := 83) hx hb dX4_fits_79 (by decide) ?_
          exact hret (r := 1) () dX4_fits_83 h (rfl) (by unfold fitb; rw [c_13, c_23, k_42_0]; simp [bI, c_75])
      · skip
        by_cases k_42_1 : nI (k % 4) = 1
        · skip
          refine r_top (y := 1) k_42_1 ?_
          have k_42_1 := (jeq (a := k % 4) (b := 1) (by omega) (by omega)).mp k_42_1
          refine lv_tableIn (tgt := 84) hx hb dX4_fits_42 (by decide) (by decide) rfl (by decide) ?_
          refine lv_iload_n hx hb dX4_fits_84 rfl (lv_at hl 1 rfl) ?_
          refine lv_bipush (v := 48) hx hb dX4_fits_85 (by decide) ?_
          refine lv_bipush (v := 57) hx hb dX4_fits_87 (by decide) ?_
          refine k_SiN (nn := 4) (rest := []) (as := [.int (nI (pg k)), .int 48, .int 57]) (wc := []) (wr := [(g0, .inr (4, [.ref g1, .int (nI ps)])), (g1, .inl (cI, 24, .inl (ro pg)))]) (isC := []) (isR := [0, 1]) (w2 := fun (_ : Unit) => [(g0, .inr (4, [.ref g1, .int (nI ps)])), (g1, .inl (cI, 24, .inl (ro pg)))]) C h (c_X7_within l D cI cZ kS vS (nI (pg k)) 48 57 ) wv_X7_within rfl ⟨rfl, rfl, rfl, rfl, by decide⟩ rfl [0, 1] rfl (fun _ => rfl) ⟨Nat.le_of_ble_eq_true rfl, Nat.le_of_ble_eq_true rfl⟩ ⟨Nat.le_of_ble_eq_true rfl, Nat.le_of_ble_eq_true rfl⟩ (Nat.le_of_ble_eq_true rfl) hl rfl dX4_fits_89 (fun r u H locs hq h => ?_)
          have h : HS D A s H locs [(g0, .inr (4, [.ref g1, .int (nI ps)])), (g1, .inl (cI, 24, .inl (ro pg)))] := h
          have hq : r = bI (wth (nI (pg k)) 48 57) := hq
          have hq := hq.symm
          subst hq
          exact hret (r := bI (wth (nI (pg k)) 48 57)) () dX4_fits_92 h (bI_nar _) (by unfold fitb; rw [c_13, c_23, k_42_1]; exact congrArg bI (wth_nI (by omega) (by decide) (by decide)))
        · skip
          by_cases k_42_2 : nI (k % 4) = 2
          · skip
            refine r_top (y := 2) k_42_2 ?_
            have k_42_2 := (jeq (a := k % 4) (b := 2) (by omega) (by omega)).mp k_42_2
            refine lv_tableIn (tgt := 93) hx hb dX4_fits_42 (by decide) (by decide) rfl (by decide) ?_
            refine lv_iload_n hx hb dX4_fits_93 rfl (lv_at hl 1 rfl) ?_
            refine lv_bipush (v := 48) hx hb dX4_fits_94 (by decide) ?_
            refine lv_bipush (v := 53) hx hb dX4_fits_96 (by decide) ?_
            refine k_SiN (nn := 4) (rest := []) (as := [.int (nI (pg k)), .int 48, .int 53]) (wc := []) (wr := [(g0, .inr (4, [.ref g1, .int (nI ps)])), (g1, .inl (cI, 24, .inl (ro pg)))]) (isC := []) (isR := [0, 1]) (w2 := fun (_ : Unit) => [(g0, .inr (4, [.ref g1, .int (nI ps)])), (g1, .inl (cI, 24, .inl (ro pg)))]) C h (c_X7_within l D cI cZ kS vS (nI (pg k)) 48 53 ) wv_X7_within rfl ⟨rfl, rfl, rfl, rfl, by decide⟩ rfl [0, 1] rfl (fun _ => rfl) ⟨Nat.le_of_ble_eq_true rfl, Nat.le_of_ble_eq_true rfl⟩ ⟨Nat.le_of_ble_eq_true rfl, Nat.le_of_ble_eq_true rfl⟩ (Nat.le_of_ble_eq_true rfl) hl rfl dX4_fits_98 (fun r u H locs hq h => ?_)
            have h : HS D A s H locs [(g0, .inr (4, [.ref g1, .int (nI ps)])), (g1, .inl (cI, 24, .inl (ro pg)))] := h
            have hq : r = bI (wth (nI (pg k)) 48 53) := hq
            have hq := hq.symm
            subst hq
            exact hret (r := bI (wth (nI (pg k)) 48 53)) () dX4_fits_101 h (bI_nar _) (by unfold fitb; rw [c_13, c_23, k_42_2]; exact congrArg bI (wth_nI (by omega) (by decide) (by decide)))
          · skip
            have h3 : ¬ k % 4 = 0 ∧ ¬ k % 4 = 1 ∧ ¬ k % 4 = 2 := ⟨fun z => k_42_0 (by rw [z]; rfl), fun z => k_42_1 (by rw [z]; rfl), fun z => k_42_2 (by rw [z]; rfl)⟩
            have hO : (nI (k % 4)).toInt < 0 ∨ 2 < (nI (k % 4)).toInt := by
              have zk_42_0 := lv_neT (a := 0) k_42_0 (by decide)
              have zk_42_1 := lv_neT (a := 1) k_42_1 (by decide)
              have zk_42_2 := lv_neT (a := 2) k_42_2 (by decide)
              omega
            refine lv_tableOut (tgt := 102) hx hb dX4_fits_42 hO (by decide) ?_
            refine lv_iload_n hx hb dX4_fits_102 rfl (lv_at hl 1 rfl) ?_
            refine lv_iload_n hx hb dX4_fits_103 rfl (lv_at hl 0 rfl) ?_
            refine lv_iconst (v := 1) hx hb dX4_fits_104 (by decide) ?_
            refine lv_iadd hx hb dX4_fits_105 ?_
            refine r_top (y := nI ((k / 4) + 1)) (nI_add (k / 4) 1) ?_
            refine k_Si (rest := []) (as := [.int (nI (pg k)), .int (nI ((k / 4) + 1))]) (wc := []) (wr := [(g0, .inr (4, [.ref g1, .int (nI ps)])), (g1, .inl (cI, 24, .inl (ro pg)))]) (isC := []) (isR := [0, 1]) (w2 := fun (_ : Unit) => [(g0, .inr (4, [.ref g1, .int (nI ps)])), (g1, .inl (cI, 24, .inl (ro pg)))]) C h (c_X4_fitsBehindRiver l D cI cZ kS vS (pg k) ((k / 4) + 1) (by omega)) wv_X4_fitsBehindRiver rfl ⟨rfl, rfl, rfl, rfl, by decide⟩ ml_RX4_49 [0, 1] rfl (fun _ => rfl) ⟨Nat.le_of_ble_eq_true rfl, Nat.le_of_ble_eq_true rfl⟩ ⟨Nat.le_of_ble_eq_true rfl, Nat.le_of_ble_eq_true rfl⟩ (Nat.le_of_ble_eq_true rfl) hl rfl dX4_fits_106 (fun r u H locs hq h => ?_)
            have h : HS D A s H locs [(g0, .inr (4, [.ref g1, .int (nI ps)])), (g1, .inl (cI, 24, .inl (ro pg)))] := h
            have hq : r = bI (fbr (pg k) ((k / 4) + 1)) := hq
            have hq := hq.symm
            subst hq
            exact hret (r := bI (fbr (pg k) ((k / 4) + 1))) () dX4_fits_109 h (bI_nar _) (by unfold fitb; rw [c_13, c_23, if_neg (by decide), if_neg (by decide), if_neg h3.1, if_neg h3.2.1, if_neg h3.2.2])
    · skip
      have c_23 := bI_n0.mp c_23
      refine lv_iload_n hx hb dX4_fits_26 rfl (lv_at hl 0 rfl) ?_
      refine lv_bipush (v := 49) hx hb dX4_fits_27 (by decide) ?_
      refine lv_bipush (v := 57) hx hb dX4_fits_29 (by decide) ?_
      refine k_SiN (nn := 4) (rest := []) (as := [.int (nI (pg k)), .int 49, .int 57]) (wc := []) (wr := [(g0, .inr (4, [.ref g1, .int (nI ps)])), (g1, .inl (cI, 24, .inl (ro pg)))]) (isC := []) (isR := [0, 1]) (w2 := fun (_ : Unit) => [(g0, .inr (4, [.ref g1, .int (nI ps)])), (g1, .inl (cI, 24, .inl (ro pg)))]) C h (c_X7_within l D cI cZ kS vS (nI (pg k)) 49 57 ) wv_X7_within rfl ⟨rfl, rfl, rfl, rfl, by decide⟩ rfl [0, 1] rfl (fun _ => rfl) ⟨Nat.le_of_ble_eq_true rfl, Nat.le_of_ble_eq_true rfl⟩ ⟨Nat.le_of_ble_eq_true rfl, Nat.le_of_ble_eq_true rfl⟩ (Nat.le_of_ble_eq_true rfl) hl rfl dX4_fits_31 (fun r u H locs hq h => ?_)
      have h : HS D A s H locs [(g0, .inr (4, [.ref g1, .int (nI ps)])), (g1, .inl (cI, 24, .inl (ro pg)))] := h
      have hq : r = bI (wth (nI (pg k)) 49 57) := hq
      have hq := hq.symm
      subst hq
      exact hret (r := bI (wth (nI (pg k)) 49 57)) () dX4_fits_34 h (bI_nar _) (by unfold fitb; rw [c_13, c_23]; exact congrArg bI (wth_nI (by omega) (by decide) (by decide)))
  · skip
    have c_13 := bI_n0.mp c_13
    refine lv_iconst (v := 0) hx hb dX4_fits_16 (by decide) ?_
    exact hret (r := 0) () dX4_fits_17 h (rfl) (by unfold fitb; rw [if_pos c_13]; rfl)

set_option maxHeartbeats 4000000 in
set_option maxRecDepth 100000 in
theorem c_X4_firstFault (l : Launch) (D : va_G) (cI cZ : ClassId) (kS vS : Nat) (g0 : Nat) (g1 : Nat) (ps : Nat) (pg : Nat → Nat) (hp24 : ps ≤ 24) (hlt : ∀ j, j < ps → pg j < 127) (hct : ∀ z, cat pg ps z < 127) : CI l yX4_firstFault cX4_firstFault 2 .int D cI cZ kS vS 5 114 0 0 [.ref g0] [(g0, .inr (4, [.ref g1, .int (nI ps)])), (g1, .inl (cI, 24, .inl (ro pg)))] (fun (r : Int32) (_ : Unit) => r = nI (ff pg ps)) (fun (_ : Unit) => [(g0, .inr (4, [.ref g1, .int (nI ps)])), (g1, .inl (cI, 24, .inl (ro pg)))]) := by
  refine CI_intro (by decide) (Nat.le_of_ble_eq_true rfl) ?_
  intro p e s m args below meth c A Q ls C h hret hl
  have C : CX p s m args c cX4_firstFault 2 RX4 D cI cZ kS vS A := C
  have hx := C.1.1
  have hb := C.1.2.1
  have hl : lv_has ls 2 [(0, .ref g0)] := hl
  refine lv_iconst (v := 0) hx hb dX4_firstFault_0 (by decide) ?_
  refine lv_istore_n (lv' := [(1, .int 0), (0, .ref g0)]) hx hb dX4_firstFault_1 rfl hl (by decide) rfl (fun ls hl => ?_)
  have L2 : ∀ (fu : Nat) (k : Nat), (ps - k) < fu → (hk0 : k ≤ ps) → (hf : fft pg (ps - k) k = ff pg ps) → ∀ (H : Heap) (locs : List Loc) (ls : Array Slot), HS D A s H locs [(g0, .inr (4, [.ref g1, .int (nI ps)])), (g1, .inl (cI, 24, .inl (ro pg)))] → lv_has ls 2 [(0, .ref g0), (1, .int (nI k))] → W p l e (rmO 5 114 0 0) s m args below meth c H locs 0 0 Q (F0 m 2 ls []) := by
    intro fu
    induction fu with
    | zero => intro k hfu; exact absurd hfu (Nat.not_lt_zero _)
    | succ fu ih2 =>
      intro k hfu hk0 hf H locs ls h hl
      refine lv_iload_n hx hb dX4_firstFault_2 rfl (lv_at hl 1 rfl) ?_
      refine lv_aload_n hx hb dX4_firstFault_3 rfl (lv_at hl 0 rfl) ?_
      refine r_get C h fk4 0 1 rfl (by decide) mf_RX4_15 rfl dX4_firstFault_4 ?_
      refine lv_icmp_ge (tgt := 26) hx hb dX4_firstFault_7 (by decide) (fun c_7 => ?_) (fun c_7 => ?_)
      · skip
        have c_7 := (jle (a := ps) (b := k) (by omega) (by omega)).mp c_7
        have ek : k = ps := by omega
        have ef : ff pg ps = ps := by rw [← hf, ek, Nat.sub_self]; rfl
        refine lv_aload_n hx hb dX4_firstFault_26 rfl (lv_at hl 0 rfl) ?_
        refine r_get C h fk4 0 1 rfl (by decide) mf_RX4_15 rfl dX4_firstFault_27 ?_
        exact hret (r := nI ps) () dX4_firstFault_30 h (rfl) (congrArg nI ef.symm)
      · skip
        have c_7 : ¬ ps ≤ k := fun z => c_7 ((jle (a := ps) (b := k) (by omega) (by omega)).mpr z)
        have hk : k < ps := by omega
        have fs := fft_s (pg := pg) hk
        refine lv_aload_n hx hb dX4_firstFault_10 rfl (lv_at hl 0 rfl) ?_
        refine lv_iload_n hx hb dX4_firstFault_11 rfl (lv_at hl 1 rfl) ?_
        refine k_Vi (rest := []) (as := [.int (nI k)]) (wc := [(g0, .inr (4, [.ref g1, .int (nI ps)])), (g1, .inl (cI, 24, .inl (ro pg)))]) (wr := []) (isC := [0, 1]) (isR := []) (w2 := fun (_ : Unit) => [(g0, .inr (4, [.ref g1, .int (nI ps)])), (g1, .inl (cI, 24, .inl (ro pg)))]) C h (c_X4_fits l D cI cZ kS vS g0 g1 ps pg k hp24 hlt hct hk) wv_X4_fits rfl ⟨rfl, rfl, rfl, rfl, by decide⟩ fk4 0 rfl ml_RX4_23 [0, 1] rfl (fun _ => rfl) ⟨Nat.le_of_ble_eq_true rfl, Nat.le_of_ble_eq_true rfl⟩ ⟨Nat.le_of_ble_eq_true rfl, Nat.le_of_ble_eq_true rfl⟩ (Nat.le_of_ble_eq_true rfl) hl rfl dX4_firstFault_12 (fun r u H locs hq h => ?_)
        have h : HS D A s H locs [(g0, .inr (4, [.ref g1, .int (nI ps)])), (g1, .inl (cI, 24, .inl (ro pg)))] := h
        have hq : r = bI (fitb pg k) := hq
        have hq := hq.symm
        subst hq
        refine lv_if_ne (tgt := 20) hx hb dX4_firstFault_15 (by decide) (fun c_15 => ?_) (fun c_15 => ?_)
        · skip
          refine lv_iinc (v := nI (k + 1)) (lv' := [(1, .int (nI (k + 1))), (0, .ref g0)]) hx hb dX4_firstFault_20 hl (k := 1) rfl (nI_1 k) (by decide) rfl (fun ls hl => ?_)
          refine lv_goto (tgt := 2) hx hb dX4_firstFault_23 (by decide) ?_
          exact ih2  (k + 1) (by omega) (by first | assumption | omega) ((if_pos (bI_n0.mp c_15)).symm.trans (fs.symm.trans hf)) _ _ _ h (lv_sub hl [1, 0] rfl)
        · skip
          refine lv_iload_n hx hb dX4_firstFault_18 rfl (lv_at hl 1 rfl) ?_
          exact hret (r := nI k) () dX4_firstFault_19 h (rfl) (congrArg nI ((if_neg (by rw [bI_0.mp c_15]; decide)).symm.trans (fs.symm.trans hf)))
  exact L2 ((ps - 0) + 1) 0 (by omega) (by first | assumption | omega) rfl _ _ _ h (lv_sub hl [1, 0] rfl)

set_option maxHeartbeats 4000000 in
set_option maxRecDepth 100000 in
theorem c_X4_holdsCoast (l : Launch) (D : va_G) (cI cZ : ClassId) (kS vS : Nat) (g0 : Nat) (g1 : Nat) (ps : Nat) (pg : Nat → Nat) (hp24 : ps ≤ 24) (hlt : ∀ j, j < ps → pg j < 127) (hct : ∀ z, cat pg ps z < 127) : CI l yX4_holdsCoast cX4_holdsCoast 1 .boolean D cI cZ kS vS 6 135 0 0 [.ref g0] [(g0, .inr (4, [.ref g1, .int (nI ps)])), (g1, .inl (cI, 24, .inl (ro pg)))] (fun (r : Int32) (_ : Unit) => r = bI (hcb pg ps)) (fun (_ : Unit) => [(g0, .inr (4, [.ref g1, .int (nI ps)])), (g1, .inl (cI, 24, .inl (ro pg)))]) := by
  refine CI_intro (by decide) (Nat.le_of_ble_eq_true rfl) ?_
  intro p e s m args below meth c A Q ls C h hret hl
  have C : CX p s m args c cX4_holdsCoast 1 RX4 D cI cZ kS vS A := C
  have hx := C.1.1
  have hb := C.1.2.1
  have hl : lv_has ls 1 [(0, .ref g0)] := hl
  have hfl := ff_le pg ps
  have es2 := sem_2 (pg := pg) (k := ps) (ps := ps) (Nat.le_refl _) (by omega)
  refine lv_aload_n hx hb dX4_holdsCoast_0 rfl (lv_at hl 0 rfl) ?_
  refine k_Vi (rest := []) (as := []) (wc := [(g0, .inr (4, [.ref g1, .int (nI ps)])), (g1, .inl (cI, 24, .inl (ro pg)))]) (wr := []) (isC := [0, 1]) (isR := []) (w2 := fun (_ : Unit) => [(g0, .inr (4, [.ref g1, .int (nI ps)])), (g1, .inl (cI, 24, .inl (ro pg)))]) C h (c_X4_firstFault l D cI cZ kS vS g0 g1 ps pg hp24 hlt hct) wv_X4_firstFault rfl ⟨rfl, rfl, rfl, rfl, by decide⟩ fk4 0 rfl ml_RX4_27 [0, 1] rfl (fun _ => rfl) ⟨Nat.le_of_ble_eq_true rfl, Nat.le_of_ble_eq_true rfl⟩ ⟨Nat.le_of_ble_eq_true rfl, Nat.le_of_ble_eq_true rfl⟩ (Nat.le_of_ble_eq_true rfl) hl rfl dX4_holdsCoast_1 (fun r u H locs hq h => ?_)
  have h : HS D A s H locs [(g0, .inr (4, [.ref g1, .int (nI ps)])), (g1, .inl (cI, 24, .inl (ro pg)))] := h
  have hq : r = nI (ff pg ps) := hq
  have hq := hq.symm
  subst hq
  refine lv_aload_n hx hb dX4_holdsCoast_4 rfl (lv_at hl 0 rfl) ?_
  refine r_get C h fk4 0 1 rfl (by decide) mf_RX4_15 rfl dX4_holdsCoast_5 ?_
  refine lv_icmp_ne (tgt := 28) hx hb dX4_holdsCoast_8 (by decide) (fun c_8 => ?_) (fun c_8 => ?_)
  · skip
    have c_8 : ¬ (ff pg ps) = ps := fun z => c_8 ((jeq (a := (ff pg ps)) (b := ps) (by omega) (by omega)).mpr z)
    refine lv_iconst (v := 0) hx hb dX4_holdsCoast_28 (by decide) ?_
    exact hret (r := 0) () dX4_holdsCoast_29 h (rfl) (by unfold hcb; rw [decide_eq_false c_8]; rfl)
  · skip
    have c_8 := (jeq (a := (ff pg ps)) (b := ps) (by omega) (by omega)).mp c_8
    refine lv_aload_n hx hb dX4_holdsCoast_11 rfl (lv_at hl 0 rfl) ?_
    refine lv_aload_n hx hb dX4_holdsCoast_12 rfl (lv_at hl 0 rfl) ?_
    refine r_get C h fk4 0 1 rfl (by decide) mf_RX4_15 rfl dX4_holdsCoast_13 ?_
    refine lv_iconst (v := 1) hx hb dX4_holdsCoast_16 (by decide) ?_
    refine lv_isub hx hb dX4_holdsCoast_17 ?_
    refine k_Vi (rest := []) (as := [.int ((nI ps) - 1)]) (wc := [(g0, .inr (4, [.ref g1, .int (nI ps)])), (g1, .inl (cI, 24, .inl (ro pg)))]) (wr := []) (isC := [0, 1]) (isR := []) (w2 := fun (_ : Unit) => [(g0, .inr (4, [.ref g1, .int (nI ps)])), (g1, .inl (cI, 24, .inl (ro pg)))]) C h (c_X4_standsBehindEnd l D cI cZ kS vS g0 g1 ps pg ((nI ps) - 1) hp24 (fun z => Nat.lt_trans (hct z) (by decide))) wv_X4_standsBehindEnd rfl ⟨rfl, rfl, rfl, rfl, by decide⟩ fk4 0 rfl ml_RX4_31 [0, 1] rfl (fun _ => rfl) ⟨Nat.le_of_ble_eq_true rfl, Nat.le_of_ble_eq_true rfl⟩ ⟨Nat.le_of_ble_eq_true rfl, Nat.le_of_ble_eq_true rfl⟩ (Nat.le_of_ble_eq_true rfl) hl rfl dX4_holdsCoast_18 (fun r u H locs hq h => ?_)
    have h : HS D A s H locs [(g0, .inr (4, [.ref g1, .int (nI ps)])), (g1, .inl (cI, 24, .inl (ro pg)))] := h
    have hq : r = bI (decide (cat pg ps (((nI ps) - 1) - 1) = 59)) := hq
    have hq := hq.symm
    subst hq
    refine r_top (y := bI (sem pg ps 2)) (congrArg bI es2) ?_
    refine lv_if_eq (tgt := 28) hx hb dX4_holdsCoast_21 (by decide) (fun c_21 => ?_) (fun c_21 => ?_)
    · skip
      refine lv_iconst (v := 0) hx hb dX4_holdsCoast_28 (by decide) ?_
      exact hret (r := 0) () dX4_holdsCoast_29 h (rfl) (by unfold hcb; rw [bI_0.mp c_21, Bool.and_false]; rfl)
    · skip
      refine lv_iconst (v := 1) hx hb dX4_holdsCoast_24 (by decide) ?_
      refine lv_goto (tgt := 29) hx hb dX4_holdsCoast_25 (by decide) ?_
      exact hret (r := 1) () dX4_holdsCoast_29 h (rfl) (by unfold hcb; rw [bI_n0.mp c_21, decide_eq_true c_8]; rfl)

set_option maxHeartbeats 4000000 in
set_option maxRecDepth 100000 in
theorem c_X4_rivers (l : Launch) (D : va_G) (cI cZ : ClassId) (kS vS : Nat) (g0 : Nat) (g1 : Nat) (ps : Nat) (pg : Nat → Nat) (hp24 : ps ≤ 24) : CI l yX4_rivers cX4_rivers 1 .int D cI cZ kS vS 0 0 0 0 [.ref g0] [(g0, .inr (4, [.ref g1, .int (nI ps)])), (g1, .inl (cI, 24, .inl (ro pg)))] (fun (r : Int32) (_ : Unit) => r = nI (ps / 4)) (fun (_ : Unit) => [(g0, .inr (4, [.ref g1, .int (nI ps)])), (g1, .inl (cI, 24, .inl (ro pg)))]) := by
  refine CI_intro (by decide) (Nat.le_of_ble_eq_true rfl) ?_
  intro p e s m args below meth c A Q ls C h hret hl
  have C : CX p s m args c cX4_rivers 1 RX4 D cI cZ kS vS A := C
  have hx := C.1.1
  have hb := C.1.2.1
  have hl : lv_has ls 1 [(0, .ref g0)] := hl
  refine lv_aload_n hx hb dX4_rivers_0 rfl (lv_at hl 0 rfl) ?_
  refine r_get C h fk4 0 1 rfl (by decide) mf_RX4_15 rfl dX4_rivers_1 ?_
  refine lv_iconst (v := 4) hx hb dX4_rivers_4 (by decide) ?_
  refine lv_idiv hx hb dX4_rivers_5 (by decide) ?_
  refine r_top (y := nI (ps / 4)) (pk_div (d := 4) (by omega) (by decide) (by decide)) ?_
  exact hret (r := nI (ps / 4)) () dX4_rivers_6 h (rfl) (rfl)

set_option maxHeartbeats 4000000 in
set_option maxRecDepth 100000 in
theorem c_X4_kindAt (l : Launch) (D : va_G) (cI cZ : ClassId) (kS vS : Nat) (g0 : Nat) (g1 : Nat) (ps : Nat) (pg : Nat → Nat) (rv : Nat) (hp24 : ps ≤ 24) (hlt : ∀ j, j < ps → pg j < 127) (hct : ∀ z, cat pg ps z < 127) (hk : rv * 4 < ps) : CI l yX4_kindAt cX4_kindAt 2 .int D cI cZ kS vS 4 91 0 0 [.ref g0, .int (nI rv)] [(g0, .inr (4, [.ref g1, .int (nI ps)])), (g1, .inl (cI, 24, .inl (ro pg)))] (fun (r : Int32) (_ : Unit) => r = kb (pg (rv * 4))) (fun (_ : Unit) => [(g0, .inr (4, [.ref g1, .int (nI ps)])), (g1, .inl (cI, 24, .inl (ro pg)))]) := by
  refine CI_intro (by decide) (Nat.le_of_ble_eq_true rfl) ?_
  intro p e s m args below meth c A Q ls C h hret hl
  have C : CX p s m args c cX4_kindAt 2 RX4 D cI cZ kS vS A := C
  have hx := C.1.1
  have hb := C.1.2.1
  have hl : lv_has ls 2 [(0, .ref g0), (1, .int (nI rv))] := hl
  have hk127 := hlt _ hk
  refine r_sldc C rfl dX4_kindAt_0 ?_
  refine lv_aload_n hx hb dX4_kindAt_2 rfl (lv_at hl 0 rfl) ?_
  refine lv_iload_n hx hb dX4_kindAt_3 rfl (lv_at hl 1 rfl) ?_
  refine lv_iconst (v := 4) hx hb dX4_kindAt_4 (by decide) ?_
  refine lv_imul hx hb dX4_kindAt_5 ?_
  refine r_top (y := nI (rv * 4)) (pk_mul rv 4) ?_
  refine k_Vi (rest := [.ref kS]) (as := [.int (nI (rv * 4))]) (wc := [(g0, .inr (4, [.ref g1, .int (nI ps)])), (g1, .inl (cI, 24, .inl (ro pg)))]) (wr := []) (isC := [0, 1]) (isR := []) (w2 := fun (_ : Unit) => [(g0, .inr (4, [.ref g1, .int (nI ps)])), (g1, .inl (cI, 24, .inl (ro pg)))]) C h (c_X4_codeAt l D cI cZ kS vS g0 g1 ps pg (nI (rv * 4)) hp24) wv_X4_codeAt rfl ⟨rfl, rfl, rfl, rfl, by decide⟩ fk4 0 rfl ml_RX4_36 [0, 1] rfl (fun _ => rfl) ⟨Nat.le_of_ble_eq_true rfl, Nat.le_of_ble_eq_true rfl⟩ ⟨Nat.le_of_ble_eq_true rfl, Nat.le_of_ble_eq_true rfl⟩ (Nat.le_of_ble_eq_true rfl) hl rfl dX4_kindAt_6 (fun r u H locs hq h => ?_)
  have h : HS D A s H locs [(g0, .inr (4, [.ref g1, .int (nI ps)])), (g1, .inl (cI, 24, .inl (ro pg)))] := h
  have hq : r = nI (cat pg ps (nI (rv * 4))) := hq
  have hq := hq.symm
  subst hq
  refine r_top (y := nI (pg (rv * 4))) (congrArg nI (cat_nI hk (by omega))) ?_
  refine lv_i2c hx hb dX4_kindAt_9 rfl ?_
  refine r_top (y := nI (pg (rv * 4))) (i2c_c _ (by omega)) ?_
  refine k_ViS (rest := []) (as := [.int (nI (pg (rv * 4)))]) (wc := []) (wr := [(g0, .inr (4, [.ref g1, .int (nI ps)])), (g1, .inl (cI, 24, .inl (ro pg)))]) (isC := []) (isR := [0, 1]) (w2 := fun (_ : Unit) => [(g0, .inr (4, [.ref g1, .int (nI ps)])), (g1, .inl (cI, 24, .inl (ro pg)))]) C h (c_J0_indexOf_0f7a4 l D cI cZ kS vS (pg (rv * 4)) hk127) wv_J0_indexOf_0f7a4 rfl ⟨rfl, rfl, rfl, rfl, by decide⟩ rfl ml_RX4_40 [0, 1] rfl (fun _ => rfl) ⟨Nat.le_of_ble_eq_true rfl, Nat.le_of_ble_eq_true rfl⟩ ⟨Nat.le_of_ble_eq_true rfl, Nat.le_of_ble_eq_true rfl⟩ (Nat.le_of_ble_eq_true rfl) hl rfl dX4_kindAt_10 (fun r u H locs hq h => ?_)
  have h : HS D A s H locs [(g0, .inr (4, [.ref g1, .int (nI ps)])), (g1, .inl (cI, 24, .inl (ro pg)))] := h
  have hq : r = kb (pg (rv * 4)) := hq
  have hq := hq.symm
  subst hq
  exact hret (r := kb (pg (rv * 4))) () dX4_kindAt_13 h (rfl) (rfl)

set_option maxHeartbeats 4000000 in
set_option maxRecDepth 100000 in
theorem c_X4_waterAt (l : Launch) (D : va_G) (cI cZ : ClassId) (kS vS : Nat) (g0 : Nat) (g1 : Nat) (ps : Nat) (pg : Nat → Nat) (rv : Nat) (hp24 : ps ≤ 24) (hk : rv * 4 + 1 < ps) : CI l yX4_waterAt cX4_waterAt 2 .int D cI cZ kS vS 1 21 0 0 [.ref g0, .int (nI rv)] [(g0, .inr (4, [.ref g1, .int (nI ps)])), (g1, .inl (cI, 24, .inl (ro pg)))] (fun (r : Int32) (_ : Unit) => r = nI (pg (rv * 4 + 1)) - 48) (fun (_ : Unit) => [(g0, .inr (4, [.ref g1, .int (nI ps)])), (g1, .inl (cI, 24, .inl (ro pg)))]) := by
  refine CI_intro (by decide) (Nat.le_of_ble_eq_true rfl) ?_
  intro p e s m args below meth c A Q ls C h hret hl
  have C : CX p s m args c cX4_waterAt 2 RX4 D cI cZ kS vS A := C
  have hx := C.1.1
  have hb := C.1.2.1
  have hl : lv_has ls 2 [(0, .ref g0), (1, .int (nI rv))] := hl
  refine lv_aload_n hx hb dX4_waterAt_0 rfl (lv_at hl 0 rfl) ?_
  refine lv_iload_n hx hb dX4_waterAt_1 rfl (lv_at hl 1 rfl) ?_
  refine lv_iconst (v := 4) hx hb dX4_waterAt_2 (by decide) ?_
  refine lv_imul hx hb dX4_waterAt_3 ?_
  refine r_top (y := nI (rv * 4)) (pk_mul rv 4) ?_
  refine lv_iconst (v := 1) hx hb dX4_waterAt_4 (by decide) ?_
  refine lv_iadd hx hb dX4_waterAt_5 ?_
  refine r_top (y := nI ((rv * 4) + 1)) (nI_add (rv * 4) 1) ?_
  refine k_Vi (rest := []) (as := [.int (nI ((rv * 4) + 1))]) (wc := [(g0, .inr (4, [.ref g1, .int (nI ps)])), (g1, .inl (cI, 24, .inl (ro pg)))]) (wr := []) (isC := [0, 1]) (isR := []) (w2 := fun (_ : Unit) => [(g0, .inr (4, [.ref g1, .int (nI ps)])), (g1, .inl (cI, 24, .inl (ro pg)))]) C h (c_X4_codeAt l D cI cZ kS vS g0 g1 ps pg (nI ((rv * 4) + 1)) hp24) wv_X4_codeAt rfl ⟨rfl, rfl, rfl, rfl, by decide⟩ fk4 0 rfl ml_RX4_36 [0, 1] rfl (fun _ => rfl) ⟨Nat.le_of_ble_eq_true rfl, Nat.le_of_ble_eq_true rfl⟩ ⟨Nat.le_of_ble_eq_true rfl, Nat.le_of_ble_eq_true rfl⟩ (Nat.le_of_ble_eq_true rfl) hl rfl dX4_waterAt_6 (fun r u H locs hq h => ?_)
  have h : HS D A s H locs [(g0, .inr (4, [.ref g1, .int (nI ps)])), (g1, .inl (cI, 24, .inl (ro pg)))] := h
  have hq : r = nI (cat pg ps (nI ((rv * 4) + 1))) := hq
  have hq := hq.symm
  subst hq
  refine r_top (y := nI (pg (rv * 4 + 1))) (congrArg nI (cat_nI hk (by omega))) ?_
  refine lv_bipush (v := 48) hx hb dX4_waterAt_9 (by decide) ?_
  refine lv_isub hx hb dX4_waterAt_11 ?_
  exact hret (r := (nI (pg (rv * 4 + 1))) - 48) () dX4_waterAt_12 h (rfl) (rfl)

set_option maxHeartbeats 4000000 in
set_option maxRecDepth 100000 in
theorem c_X4_flowAt (l : Launch) (D : va_G) (cI cZ : ClassId) (kS vS : Nat) (g0 : Nat) (g1 : Nat) (ps : Nat) (pg : Nat → Nat) (rv : Nat) (hp24 : ps ≤ 24) (hk : rv * 4 + 2 < ps) : CI l yX4_flowAt cX4_flowAt 2 .int D cI cZ kS vS 1 21 0 0 [.ref g0, .int (nI rv)] [(g0, .inr (4, [.ref g1, .int (nI ps)])), (g1, .inl (cI, 24, .inl (ro pg)))] (fun (r : Int32) (_ : Unit) => r = nI (pg (rv * 4 + 2)) - 48) (fun (_ : Unit) => [(g0, .inr (4, [.ref g1, .int (nI ps)])), (g1, .inl (cI, 24, .inl (ro pg)))]) := by
  refine CI_intro (by decide) (Nat.le_of_ble_eq_true rfl) ?_
  intro p e s m args below meth c A Q ls C h hret hl
  have C : CX p s m args c cX4_flowAt 2 RX4 D cI cZ kS vS A := C
  have hx := C.1.1
  have hb := C.1.2.1
  have hl : lv_has ls 2 [(0, .ref g0), (1, .int (nI rv))] := hl
  refine lv_aload_n hx hb dX4_flowAt_0 rfl (lv_at hl 0 rfl) ?_
  refine lv_iload_n hx hb dX4_flowAt_1 rfl (lv_at hl 1 rfl) ?_
  refine lv_iconst (v := 4) hx hb dX4_flowAt_2 (by decide) ?_
  refine lv_imul hx hb dX4_flowAt_3 ?_
  refine r_top (y := nI (rv * 4)) (pk_mul rv 4) ?_
  refine lv_iconst (v := 2) hx hb dX4_flowAt_4 (by decide) ?_
  refine lv_iadd hx hb dX4_flowAt_5 ?_
  refine r_top (y := nI ((rv * 4) + 2)) (nI_add (rv * 4) 2) ?_
  refine k_Vi (rest := []) (as := [.int (nI ((rv * 4) + 2))]) (wc := [(g0, .inr (4, [.ref g1, .int (nI ps)])), (g1, .inl (cI, 24, .inl (ro pg)))]) (wr := []) (isC := [0, 1]) (isR := []) (w2 := fun (_ : Unit) => [(g0, .inr (4, [.ref g1, .int (nI ps)])), (g1, .inl (cI, 24, .inl (ro pg)))]) C h (c_X4_codeAt l D cI cZ kS vS g0 g1 ps pg (nI ((rv * 4) + 2)) hp24) wv_X4_codeAt rfl ⟨rfl, rfl, rfl, rfl, by decide⟩ fk4 0 rfl ml_RX4_36 [0, 1] rfl (fun _ => rfl) ⟨Nat.le_of_ble_eq_true rfl, Nat.le_of_ble_eq_true rfl⟩ ⟨Nat.le_of_ble_eq_true rfl, Nat.le_of_ble_eq_true rfl⟩ (Nat.le_of_ble_eq_true rfl) hl rfl dX4_flowAt_6 (fun r u H locs hq h => ?_)
  have h : HS D A s H locs [(g0, .inr (4, [.ref g1, .int (nI ps)])), (g1, .inl (cI, 24, .inl (ro pg)))] := h
  have hq : r = nI (cat pg ps (nI ((rv * 4) + 2))) := hq
  have hq := hq.symm
  subst hq
  refine r_top (y := nI (pg (rv * 4 + 2))) (congrArg nI (cat_nI hk (by omega))) ?_
  refine lv_bipush (v := 48) hx hb dX4_flowAt_9 (by decide) ?_
  refine lv_isub hx hb dX4_flowAt_11 ?_
  exact hret (r := (nI (pg (rv * 4 + 2))) - 48) () dX4_flowAt_12 h (rfl) (rfl)

set_option maxHeartbeats 4000000 in
set_option maxRecDepth 100000 in
theorem c_X4_lastDigit (l : Launch) (D : va_G) (cI cZ : ClassId) (kS vS : Nat) (g0 : Nat) (g1 : Nat) (ps : Nat) (pg : Nat → Nat) (hp24 : ps ≤ 24) (hk : 1 ≤ ps) : CI l yX4_lastDigit cX4_lastDigit 1 .int D cI cZ kS vS 1 21 0 0 [.ref g0] [(g0, .inr (4, [.ref g1, .int (nI ps)])), (g1, .inl (cI, 24, .inl (ro pg)))] (fun (r : Int32) (_ : Unit) => r = nI (pg (ps - 1)) - 48) (fun (_ : Unit) => [(g0, .inr (4, [.ref g1, .int (nI ps)])), (g1, .inl (cI, 24, .inl (ro pg)))]) := by
  refine CI_intro (by decide) (Nat.le_of_ble_eq_true rfl) ?_
  intro p e s m args below meth c A Q ls C h hret hl
  have C : CX p s m args c cX4_lastDigit 1 RX4 D cI cZ kS vS A := C
  have hx := C.1.1
  have hb := C.1.2.1
  have hl : lv_has ls 1 [(0, .ref g0)] := hl
  refine lv_aload_n hx hb dX4_lastDigit_0 rfl (lv_at hl 0 rfl) ?_
  refine lv_aload_n hx hb dX4_lastDigit_1 rfl (lv_at hl 0 rfl) ?_
  refine r_get C h fk4 0 1 rfl (by decide) mf_RX4_15 rfl dX4_lastDigit_2 ?_
  refine lv_iconst (v := 1) hx hb dX4_lastDigit_5 (by decide) ?_
  refine lv_isub hx hb dX4_lastDigit_6 ?_
  refine r_top (y := nI (ps - 1)) (pk_sub (a := ps) (b := 1) (by omega)) ?_
  refine k_Vi (rest := []) (as := [.int (nI (ps - 1))]) (wc := [(g0, .inr (4, [.ref g1, .int (nI ps)])), (g1, .inl (cI, 24, .inl (ro pg)))]) (wr := []) (isC := [0, 1]) (isR := []) (w2 := fun (_ : Unit) => [(g0, .inr (4, [.ref g1, .int (nI ps)])), (g1, .inl (cI, 24, .inl (ro pg)))]) C h (c_X4_codeAt l D cI cZ kS vS g0 g1 ps pg (nI (ps - 1)) hp24) wv_X4_codeAt rfl ⟨rfl, rfl, rfl, rfl, by decide⟩ fk4 0 rfl ml_RX4_36 [0, 1] rfl (fun _ => rfl) ⟨Nat.le_of_ble_eq_true rfl, Nat.le_of_ble_eq_true rfl⟩ ⟨Nat.le_of_ble_eq_true rfl, Nat.le_of_ble_eq_true rfl⟩ (Nat.le_of_ble_eq_true rfl) hl rfl dX4_lastDigit_7 (fun r u H locs hq h => ?_)
  have h : HS D A s H locs [(g0, .inr (4, [.ref g1, .int (nI ps)])), (g1, .inl (cI, 24, .inl (ro pg)))] := h
  have hq : r = nI (cat pg ps (nI (ps - 1))) := hq
  have hq := hq.symm
  subst hq
  refine r_top (y := nI (pg (ps - 1))) (congrArg nI (cat_nI (by omega) (by omega))) ?_
  refine lv_bipush (v := 48) hx hb dX4_lastDigit_10 (by decide) ?_
  refine lv_isub hx hb dX4_lastDigit_12 ?_
  exact hret (r := (nI (pg (ps - 1))) - 48) () dX4_lastDigit_13 h (rfl) (rfl)

