set_option maxHeartbeats 4000000 in
set_option maxRecDepth 100000 in
theorem c_X7_letter (l : Launch) (D : va_G) (cI cZ : ClassId) (kS vS : Nat) (x0 : Nat) (g0 : Nat) (oc : Nat) (on : Nat) (os : Nat) (ok : Nat) (ov : Nat) (fo : Nat) (bo : Nat) (ik : Int32) (crd : Int32) (bdn : Int32) (g1 : Nat) (ps : Nat) (pg : Nat → Nat) (x : Int32) (hp24 : ps ≤ 24) : CI l yX7_letter cX7_letter 2 .int D cI cZ kS vS 2 41 0 0 [.ref x0, .int x] [(x0, .inr (7, [.ref g0, .ref oc, .ref on, .ref os, .ref ok, .ref ov, .ref fo, .ref bo, .int ik, .int crd, .int bdn])), (g0, .inr (4, [.ref g1, .int (nI ps)])), (g1, .inl (cI, 24, .inl (ro pg)))] (fun (r : Int32) (_ : Unit) => r = bf (wth x 1 126) (bf (decide (ps < 24)) (nI (ps + 1)) (-104)) (-102)) (fun (_ : Unit) => [(x0, .inr (7, [.ref g0, .ref oc, .ref on, .ref os, .ref ok, .ref ov, .ref fo, .ref bo, .int ik, .int crd, .int bdn])), (g0, .inr (4, [.ref g1, .int (nI (bf (ltk x ps) (ps + 1) ps))])), (g1, .inl (cI, 24, .inl (ro (bf (ltk x ps) (un pg ps x.toNatClampNeg) pg))))]) := by
  refine CI_intro (by decide) (Nat.le_of_ble_eq_true rfl) ?_
  intro p e s m args below meth c A Q ls C h hret hl
  have C : CX p s m args c cX7_letter 2 RX7 D cI cZ kS vS A := C
  have hx := C.1.1
  have hb := C.1.2.1
  have hl : lv_has ls 2 [(0, .ref x0), (1, .int x)] := hl
  refine lv_iload_n hx hb dX7_letter_0 rfl (lv_at hl 1 rfl) ?_
  refine lv_iconst (v := 1) hx hb dX7_letter_1 (by decide) ?_
  refine lv_bipush (v := 126) hx hb dX7_letter_2 (by decide) ?_
  refine k_Si (rest := []) (as := [.int x, .int 1, .int 126]) (wc := []) (wr := [(x0, .inr (7, [.ref g0, .ref oc, .ref on, .ref os, .ref ok, .ref ov, .ref fo, .ref bo, .int ik, .int crd, .int bdn])), (g0, .inr (4, [.ref g1, .int (nI ps)])), (g1, .inl (cI, 24, .inl (ro pg)))]) (isC := []) (isR := [0, 1, 2]) (w2 := fun (_ : Unit) => [(x0, .inr (7, [.ref g0, .ref oc, .ref on, .ref os, .ref ok, .ref ov, .ref fo, .ref bo, .int ik, .int crd, .int bdn])), (g0, .inr (4, [.ref g1, .int (nI ps)])), (g1, .inl (cI, 24, .inl (ro pg)))]) C h (c_X7_within l D cI cZ kS vS x 1 126 ) wv_X7_within rfl ⟨rfl, rfl, rfl, rfl, by decide⟩ ml_RX7_63 [0, 1, 2] rfl (fun _ => rfl) ⟨Nat.le_of_ble_eq_true rfl, Nat.le_of_ble_eq_true rfl⟩ ⟨Nat.le_of_ble_eq_true rfl, Nat.le_of_ble_eq_true rfl⟩ (Nat.le_of_ble_eq_true rfl) hl rfl dX7_letter_4 (fun r u H locs hq h => ?_)
  have h : HS D A s H locs [(x0, .inr (7, [.ref g0, .ref oc, .ref on, .ref os, .ref ok, .ref ov, .ref fo, .ref bo, .int ik, .int crd, .int bdn])), (g0, .inr (4, [.ref g1, .int (nI ps)])), (g1, .inl (cI, 24, .inl (ro pg)))] := h
  have hq : r = bI (wth x 1 126) := hq
  have hq := hq.symm
  subst hq
  refine lv_if_ne (tgt := 13) hx hb dX7_letter_7 (by decide) (fun c_7 => ?_) (fun c_7 => ?_)
  · skip
    have hb_7 : (wth x 1 126) = true := bI_n0.mp c_7
    refine lv_aload_n hx hb dX7_letter_13 rfl (lv_at hl 0 rfl) ?_
    refine r_get C h fk7 0 0 rfl (by decide) mf_RX7_10 rfl dX7_letter_14 ?_
    refine k_Vi (rest := []) (as := []) (wc := [(g0, .inr (4, [.ref g1, .int (nI ps)])), (g1, .inl (cI, 24, .inl (ro pg)))]) (wr := [(x0, .inr (7, [.ref g0, .ref oc, .ref on, .ref os, .ref ok, .ref ov, .ref fo, .ref bo, .int ik, .int crd, .int bdn]))]) (isC := [1, 2]) (isR := [0]) (w2 := fun (_ : Unit) => [(x0, .inr (7, [.ref g0, .ref oc, .ref on, .ref os, .ref ok, .ref ov, .ref fo, .ref bo, .int ik, .int crd, .int bdn])), (g0, .inr (4, [.ref g1, .int (nI ps)])), (g1, .inl (cI, 24, .inl (ro pg)))]) C h (c_X4_isFull l D cI cZ kS vS g0 g1 ps pg hp24) wv_X4_isFull rfl ⟨rfl, rfl, rfl, rfl, by decide⟩ fk4 1 rfl ml_RX7_67 [0, 1, 2] rfl (fun _ => rfl) ⟨Nat.le_of_ble_eq_true rfl, Nat.le_of_ble_eq_true rfl⟩ ⟨Nat.le_of_ble_eq_true rfl, Nat.le_of_ble_eq_true rfl⟩ (Nat.le_of_ble_eq_true rfl) hl rfl dX7_letter_17 (fun r u H locs hq h => ?_)
    have h : HS D A s H locs [(x0, .inr (7, [.ref g0, .ref oc, .ref on, .ref os, .ref ok, .ref ov, .ref fo, .ref bo, .int ik, .int crd, .int bdn])), (g0, .inr (4, [.ref g1, .int (nI ps)])), (g1, .inl (cI, 24, .inl (ro pg)))] := h
    have hq : r = bI (decide (24 ≤ ps)) := hq
    have hq := hq.symm
    subst hq
    refine lv_if_eq (tgt := 26) hx hb dX7_letter_20 (by decide) (fun c_20 => ?_) (fun c_20 => ?_)
    · skip
      have hb_20 : (decide (24 ≤ ps)) = false := bI_0.mp c_20
      have hps : ps < 24 := by have := of_decide_eq_false hb_20; omega
      have e24 : decide (ps < 24) = true := decide_eq_true hps
      obtain ⟨cd, hcd1, hcd2, rfl⟩ := wth_of (lo := 1) (hi := 126) hb_7 (by decide) (by decide)
      have hcl : (nI cd).toNatClampNeg = cd := nI_clamp (by omega)
      refine lv_aload_n hx hb dX7_letter_26 rfl (lv_at hl 0 rfl) ?_
      refine r_get C h fk7 0 0 rfl (by decide) mf_RX7_10 rfl dX7_letter_27 ?_
      refine lv_iload_n hx hb dX7_letter_30 rfl (lv_at hl 1 rfl) ?_
      refine k_Vi (rest := []) (as := [.int (nI cd)]) (wc := [(g0, .inr (4, [.ref g1, .int (nI ps)])), (g1, .inl (cI, 24, .inl (ro pg)))]) (wr := [(x0, .inr (7, [.ref g0, .ref oc, .ref on, .ref os, .ref ok, .ref ov, .ref fo, .ref bo, .int ik, .int crd, .int bdn]))]) (isC := [1, 2]) (isR := [0]) (w2 := fun (_ : Unit) => [(x0, .inr (7, [.ref g0, .ref oc, .ref on, .ref os, .ref ok, .ref ov, .ref fo, .ref bo, .int ik, .int crd, .int bdn])), (g0, .inr (4, [.ref g1, .int (nI (ps + 1))])), (g1, .inl (cI, 24, .inl (ro (un pg ps cd))))]) C h (c_X4_write l D cI cZ kS vS g0 g1 ps pg cd hp24 hps) wv_X4_write rfl ⟨rfl, rfl, rfl, rfl, by decide⟩ fk4 1 rfl ml_RX7_71 [0, 1, 2] rfl (fun _ => rfl) ⟨Nat.le_of_ble_eq_true rfl, Nat.le_of_ble_eq_true rfl⟩ ⟨Nat.le_of_ble_eq_true rfl, Nat.le_of_ble_eq_true rfl⟩ (Nat.le_of_ble_eq_true rfl) hl rfl dX7_letter_31 (fun r u H locs hq h => ?_)
      have h : HS D A s H locs [(x0, .inr (7, [.ref g0, .ref oc, .ref on, .ref os, .ref ok, .ref ov, .ref fo, .ref bo, .int ik, .int crd, .int bdn])), (g0, .inr (4, [.ref g1, .int (nI (ps + 1))])), (g1, .inl (cI, 24, .inl (ro (un pg ps cd))))] := h
      have hq : r = nI (ps + 1) := hq
      have hq := hq.symm
      subst hq
      have h := h.arr 2 (g := ro (bf (ltk (nI cd) ps) (un pg ps (nI cd).toNatClampNeg) pg)) rfl (fun j _ => by rw [bf_t (ltk_t hb_7 e24), hcl]) rfl
      have ef : (nI (ps + 1)) = (nI (bf (ltk (nI cd) ps) (ps + 1) ps)) := by rw [bf_t (ltk_t hb_7 e24)] <;> rfl
      have h : HS D A s H locs [(x0, .inr (7, [.ref g0, .ref oc, .ref on, .ref os, .ref ok, .ref ov, .ref fo, .ref bo, .int ik, .int crd, .int bdn])), (g0, .inr (4, [.ref g1, .int (nI (bf (ltk (nI cd) ps) (ps + 1) ps))])), (g1, .inl (cI, 24, .inl (ro (bf (ltk (nI cd) ps) (un pg ps (nI cd).toNatClampNeg) pg))))] := by rw [← ef]; exact h
      exact hret (r := nI (ps + 1)) () dX7_letter_34 h (rfl) (by rw [bf_t hb_7, bf_t e24])
    · skip
      have hb_20 : (decide (24 ≤ ps)) = true := bI_n0.mp c_20
      have e24 : decide (ps < 24) = false := decide_eq_false (fun z => by have := of_decide_eq_true hb_20; omega)
      refine lv_bipush (v := (-104)) hx hb dX7_letter_23 (by decide) ?_
      have h := h.arr 2 (g := ro (bf (ltk x ps) (un pg ps x.toNatClampNeg) pg)) rfl (fun j _ => by rw [bf_f (ltk_f2 e24)]) rfl
      have ef : (nI ps) = (nI (bf (ltk x ps) (ps + 1) ps)) := by rw [bf_f (ltk_f2 e24)] <;> rfl
      have h : HS D A s H locs [(x0, .inr (7, [.ref g0, .ref oc, .ref on, .ref os, .ref ok, .ref ov, .ref fo, .ref bo, .int ik, .int crd, .int bdn])), (g0, .inr (4, [.ref g1, .int (nI (bf (ltk x ps) (ps + 1) ps))])), (g1, .inl (cI, 24, .inl (ro (bf (ltk x ps) (un pg ps x.toNatClampNeg) pg))))] := by rw [← ef]; exact h
      exact hret (r := (-104)) () dX7_letter_25 h (rfl) (by rw [bf_t hb_7, bf_f e24])
  · skip
    have hb_7 : (wth x 1 126) = false := bI_0.mp c_7
    refine lv_bipush (v := (-102)) hx hb dX7_letter_10 (by decide) ?_
    have h := h.arr 2 (g := ro (bf (ltk x ps) (un pg ps x.toNatClampNeg) pg)) rfl (fun j _ => by rw [bf_f (ltk_f1 hb_7)]) rfl
    have ef : (nI ps) = (nI (bf (ltk x ps) (ps + 1) ps)) := by rw [bf_f (ltk_f1 hb_7)] <;> rfl
    have h : HS D A s H locs [(x0, .inr (7, [.ref g0, .ref oc, .ref on, .ref os, .ref ok, .ref ov, .ref fo, .ref bo, .int ik, .int crd, .int bdn])), (g0, .inr (4, [.ref g1, .int (nI (bf (ltk x ps) (ps + 1) ps))])), (g1, .inl (cI, 24, .inl (ro (bf (ltk x ps) (un pg ps x.toNatClampNeg) pg))))] := by rw [← ef]; exact h
    exact hret (r := (-102)) () dX7_letter_12 h (rfl) (by rw [bf_f hb_7])

set_option maxHeartbeats 4000000 in
set_option maxRecDepth 100000 in
theorem c_X7_blank (l : Launch) (D : va_G) (cI cZ : ClassId) (kS vS : Nat) (x0 : Nat) (g0 : Nat) (oc : Nat) (on : Nat) (os : Nat) (ok : Nat) (ov : Nat) (fo : Nat) (bo : Nat) (ik : Int32) (crd : Int32) (bdn : Int32) (g1 : Nat) (ps : Nat) (pg : Nat → Nat)  : CI l yX7_blank cX7_blank 1 .int D cI cZ kS vS 1 21 0 0 [.ref x0] [(x0, .inr (7, [.ref g0, .ref oc, .ref on, .ref os, .ref ok, .ref ov, .ref fo, .ref bo, .int ik, .int crd, .int bdn])), (g0, .inr (4, [.ref g1, .int (nI ps)])), (g1, .inl (cI, 24, .inl (ro pg)))] (fun (r : Int32) (_ : Unit) => r = nI ps) (fun (_ : Unit) => [(x0, .inr (7, [.ref g0, .ref oc, .ref on, .ref os, .ref ok, .ref ov, .ref fo, .ref bo, .int ik, .int crd, .int bdn])), (g0, .inr (4, [.ref g1, .int 0])), (g1, .inl (cI, 24, .inl (ro pg)))]) := by
  refine CI_intro (by decide) (Nat.le_of_ble_eq_true rfl) ?_
  intro p e s m args below meth c A Q ls C h hret hl
  have C : CX p s m args c cX7_blank 1 RX7 D cI cZ kS vS A := C
  have hx := C.1.1
  have hb := C.1.2.1
  have hl : lv_has ls 1 [(0, .ref x0)] := hl
  refine lv_aload_n hx hb dX7_blank_0 rfl (lv_at hl 0 rfl) ?_
  refine r_get C h fk7 0 0 rfl (by decide) mf_RX7_10 rfl dX7_blank_1 ?_
  refine k_Vi (rest := []) (as := []) (wc := [(g0, .inr (4, [.ref g1, .int (nI ps)])), (g1, .inl (cI, 24, .inl (ro pg)))]) (wr := [(x0, .inr (7, [.ref g0, .ref oc, .ref on, .ref os, .ref ok, .ref ov, .ref fo, .ref bo, .int ik, .int crd, .int bdn]))]) (isC := [1, 2]) (isR := [0]) (w2 := fun (_ : Unit) => [(x0, .inr (7, [.ref g0, .ref oc, .ref on, .ref os, .ref ok, .ref ov, .ref fo, .ref bo, .int ik, .int crd, .int bdn])), (g0, .inr (4, [.ref g1, .int 0])), (g1, .inl (cI, 24, .inl (ro pg)))]) C h (c_X4_clear l D cI cZ kS vS g0 g1 ps pg ) wv_X4_clear rfl ⟨rfl, rfl, rfl, rfl, by decide⟩ fk4 1 rfl ml_RX7_75 [0, 1, 2] rfl (fun _ => rfl) ⟨Nat.le_of_ble_eq_true rfl, Nat.le_of_ble_eq_true rfl⟩ ⟨Nat.le_of_ble_eq_true rfl, Nat.le_of_ble_eq_true rfl⟩ (Nat.le_of_ble_eq_true rfl) hl rfl dX7_blank_4 (fun r u H locs hq h => ?_)
  have h : HS D A s H locs [(x0, .inr (7, [.ref g0, .ref oc, .ref on, .ref os, .ref ok, .ref ov, .ref fo, .ref bo, .int ik, .int crd, .int bdn])), (g0, .inr (4, [.ref g1, .int 0])), (g1, .inl (cI, 24, .inl (ro pg)))] := h
  have hq : r = nI ps := hq
  have hq := hq.symm
  subst hq
  exact hret (r := nI ps) () dX7_blank_7 h (rfl) (rfl)

set_option maxHeartbeats 4000000 in
set_option maxRecDepth 100000 in
theorem c_X7_fault (l : Launch) (D : va_G) (cI cZ : ClassId) (kS vS : Nat) (x0 : Nat) (g0 : Nat) (oc : Nat) (on : Nat) (os : Nat) (ok : Nat) (ov : Nat) (fo : Nat) (bo : Nat) (ik : Int32) (crd : Int32) (bdn : Int32) (g1 : Nat) (ps : Nat) (pg : Nat → Nat) (hp24 : ps ≤ 24) (hlt : ∀ j, j < ps → pg j < 127) (hct : ∀ z, cat pg ps z < 127) : CI l yX7_fault cX7_fault 1 .int D cI cZ kS vS 6 135 0 0 [.ref x0] [(x0, .inr (7, [.ref g0, .ref oc, .ref on, .ref os, .ref ok, .ref ov, .ref fo, .ref bo, .int ik, .int crd, .int bdn])), (g0, .inr (4, [.ref g1, .int (nI ps)])), (g1, .inl (cI, 24, .inl (ro pg)))] (fun (r : Int32) (_ : Unit) => r = nI (ff pg ps)) (fun (_ : Unit) => [(x0, .inr (7, [.ref g0, .ref oc, .ref on, .ref os, .ref ok, .ref ov, .ref fo, .ref bo, .int ik, .int crd, .int bdn])), (g0, .inr (4, [.ref g1, .int (nI ps)])), (g1, .inl (cI, 24, .inl (ro pg)))]) := by
  refine CI_intro (by decide) (Nat.le_of_ble_eq_true rfl) ?_
  intro p e s m args below meth c A Q ls C h hret hl
  have C : CX p s m args c cX7_fault 1 RX7 D cI cZ kS vS A := C
  have hx := C.1.1
  have hb := C.1.2.1
  have hl : lv_has ls 1 [(0, .ref x0)] := hl
  refine lv_aload_n hx hb dX7_fault_0 rfl (lv_at hl 0 rfl) ?_
  refine r_get C h fk7 0 0 rfl (by decide) mf_RX7_10 rfl dX7_fault_1 ?_
  refine k_Vi (rest := []) (as := []) (wc := [(g0, .inr (4, [.ref g1, .int (nI ps)])), (g1, .inl (cI, 24, .inl (ro pg)))]) (wr := [(x0, .inr (7, [.ref g0, .ref oc, .ref on, .ref os, .ref ok, .ref ov, .ref fo, .ref bo, .int ik, .int crd, .int bdn]))]) (isC := [1, 2]) (isR := [0]) (w2 := fun (_ : Unit) => [(x0, .inr (7, [.ref g0, .ref oc, .ref on, .ref os, .ref ok, .ref ov, .ref fo, .ref bo, .int ik, .int crd, .int bdn])), (g0, .inr (4, [.ref g1, .int (nI ps)])), (g1, .inl (cI, 24, .inl (ro pg)))]) C h (c_X4_firstFault l D cI cZ kS vS g0 g1 ps pg hp24 hlt hct) wv_X4_firstFault rfl ⟨rfl, rfl, rfl, rfl, by decide⟩ fk4 1 rfl ml_RX7_79 [0, 1, 2] rfl (fun _ => rfl) ⟨Nat.le_of_ble_eq_true rfl, Nat.le_of_ble_eq_true rfl⟩ ⟨Nat.le_of_ble_eq_true rfl, Nat.le_of_ble_eq_true rfl⟩ (Nat.le_of_ble_eq_true rfl) hl rfl dX7_fault_4 (fun r u H locs hq h => ?_)
  have h : HS D A s H locs [(x0, .inr (7, [.ref g0, .ref oc, .ref on, .ref os, .ref ok, .ref ov, .ref fo, .ref bo, .int ik, .int crd, .int bdn])), (g0, .inr (4, [.ref g1, .int (nI ps)])), (g1, .inl (cI, 24, .inl (ro pg)))] := h
  have hq : r = nI (ff pg ps) := hq
  have hq := hq.symm
  subst hq
  exact hret (r := nI (ff pg ps)) () dX7_fault_7 h (rfl) (rfl)

set_option maxHeartbeats 4000000 in
set_option maxRecDepth 100000 in
theorem c_X7_isSuch (l : Launch) (D : va_G) (cI cZ : ClassId) (kS vS : Nat) (kd : Int32) (k : Int32)  : CI l yX7_isSuch cX7_isSuch 2 .boolean D cI cZ kS vS 0 0 0 0 [.int kd, .int k] [] (fun (r : Int32) (_ : Unit) => r = bI (suc kd k)) (fun (_ : Unit) => []) := by
  refine CI_intro (by decide) (Nat.le_of_ble_eq_true rfl) ?_
  intro p e s m args below meth c A Q ls C h hret hl
  have C : CX p s m args c cX7_isSuch 2 RX7 D cI cZ kS vS A := C
  have hx := C.1.1
  have hb := C.1.2.1
  have hl : lv_has ls 2 [(0, .int kd), (1, .int k)] := hl
  refine lv_iload_n hx hb dX7_isSuch_0 rfl (lv_at hl 1 rfl) ?_
  refine lv_if_eq (tgt := 19) hx hb dX7_isSuch_1 (by decide) (fun c_1 => ?_) (fun c_1 => ?_)
  · skip
    refine lv_iconst (v := 1) hx hb dX7_isSuch_19 (by decide) ?_
    refine lv_goto (tgt := 24) hx hb dX7_isSuch_20 (by decide) ?_
    exact hret (r := 1) () dX7_isSuch_24 h (rfl) (by unfold suc; rw [decide_eq_true c_1]; rfl)
  · skip
    refine lv_iload_n hx hb dX7_isSuch_4 rfl (lv_at hl 1 rfl) ?_
    refine lv_iload_n hx hb dX7_isSuch_5 rfl (lv_at hl 0 rfl) ?_
    refine lv_icmp_eq (tgt := 19) hx hb dX7_isSuch_6 (by decide) (fun c_6 => ?_) (fun c_6 => ?_)
    · skip
      refine lv_iconst (v := 1) hx hb dX7_isSuch_19 (by decide) ?_
      refine lv_goto (tgt := 24) hx hb dX7_isSuch_20 (by decide) ?_
      exact hret (r := 1) () dX7_isSuch_24 h (rfl) (by unfold suc; rw [decide_eq_false c_1, decide_eq_true c_6]; rfl)
    · skip
      refine lv_iload_n hx hb dX7_isSuch_9 rfl (lv_at hl 1 rfl) ?_
      refine lv_iconst (v := 1) hx hb dX7_isSuch_10 (by decide) ?_
      refine lv_icmp_ne (tgt := 23) hx hb dX7_isSuch_11 (by decide) (fun c_11 => ?_) (fun c_11 => ?_)
      · skip
        refine lv_iconst (v := 0) hx hb dX7_isSuch_23 (by decide) ?_
        exact hret (r := 0) () dX7_isSuch_24 h (rfl) (by unfold suc; rw [decide_eq_false c_1, decide_eq_false c_6, decide_eq_false c_11]; rfl)
      · skip
        refine lv_iload_n hx hb dX7_isSuch_14 rfl (lv_at hl 0 rfl) ?_
        refine lv_iconst (v := 4) hx hb dX7_isSuch_15 (by decide) ?_
        refine lv_icmp_ne (tgt := 23) hx hb dX7_isSuch_16 (by decide) (fun c_16 => ?_) (fun c_16 => ?_)
        · skip
          refine lv_iconst (v := 0) hx hb dX7_isSuch_23 (by decide) ?_
          exact hret (r := 0) () dX7_isSuch_24 h (rfl) (by unfold suc; rw [decide_eq_false c_1, decide_eq_false c_6, decide_eq_true c_11, decide_eq_false c_16]; rfl)
        · skip
          refine lv_iconst (v := 1) hx hb dX7_isSuch_19 (by decide) ?_
          refine lv_goto (tgt := 24) hx hb dX7_isSuch_20 (by decide) ?_
          exact hret (r := 1) () dX7_isSuch_24 h (rfl) (by unfold suc; rw [decide_eq_false c_1, decide_eq_false c_6, decide_eq_true c_11, decide_eq_true c_16]; rfl)

set_option maxHeartbeats 4000000 in
set_option maxRecDepth 100000 in
theorem c_X7_as (l : Launch) (D : va_G) (cI cZ : ClassId) (kS vS : Nat) (x0 : Nat) (g0 : Nat) (oc : Nat) (on : Nat) (os : Nat) (ok : Nat) (ov : Nat) (fo : Nat) (bo : Nat) (ik : Int32) (crd : Int32) (bdn : Int32) (c5 : Nat) (c6 : Nat) (n : Nat) (bar : Int32) (K : Nat → Int32) (F : Nat → Int32) (x : Int32) (k : Int32) (hn : n = 0 ∨ (2 ≤ n ∧ n ≤ 5)) : CI l yX7_as cX7_as 3 .int D cI cZ kS vS 1 22 0 0 [.ref x0, .int x, .int k] [(x0, .inr (7, [.ref g0, .ref oc, .ref on, .ref os, .ref ok, .ref ov, .ref fo, .ref bo, .int ik, .int crd, .int bdn])), (oc, .inr (1, [.ref c5, .ref c6, .int (nI n), .int bar])), (c5, .inl (cI, 5, .inl K)), (c6, .inl (cI, 5, .inl F))] (fun (r : Int32) (_ : Unit) => r = bf (hin (nI n) x) (bf (wth k 0 4) (bf (suc (K x.toNatClampNeg) k) x (-1)) (-102)) (-101)) (fun (_ : Unit) => [(x0, .inr (7, [.ref g0, .ref oc, .ref on, .ref os, .ref ok, .ref ov, .ref fo, .ref bo, .int ik, .int crd, .int bdn])), (oc, .inr (1, [.ref c5, .ref c6, .int (nI n), .int bar])), (c5, .inl (cI, 5, .inl K)), (c6, .inl (cI, 5, .inl F))]) := by
  refine CI_intro (by decide) (Nat.le_of_ble_eq_true rfl) ?_
  intro p e s m args below meth c A Q ls C h hret hl
  have C : CX p s m args c cX7_as 3 RX7 D cI cZ kS vS A := C
  have hx := C.1.1
  have hb := C.1.2.1
  have hl : lv_has ls 3 [(0, .ref x0), (1, .int x), (2, .int k)] := hl
  have hn5 : n ≤ 5 := by omega
  refine lv_aload_n hx hb dX7_as_0 rfl (lv_at hl 0 rfl) ?_
  refine r_get C h fk7 0 1 rfl (by decide) mf_RX7_19 rfl dX7_as_1 ?_
  refine lv_iload_n hx hb dX7_as_4 rfl (lv_at hl 1 rfl) ?_
  refine k_Vi (rest := []) (as := [.int x]) (wc := [(oc, .inr (1, [.ref c5, .ref c6, .int (nI n), .int bar]))]) (wr := [(x0, .inr (7, [.ref g0, .ref oc, .ref on, .ref os, .ref ok, .ref ov, .ref fo, .ref bo, .int ik, .int crd, .int bdn])), (c5, .inl (cI, 5, .inl K)), (c6, .inl (cI, 5, .inl F))]) (isC := [1]) (isR := [0, 2, 3]) (w2 := fun (_ : Unit) => [(x0, .inr (7, [.ref g0, .ref oc, .ref on, .ref os, .ref ok, .ref ov, .ref fo, .ref bo, .int ik, .int crd, .int bdn])), (oc, .inr (1, [.ref c5, .ref c6, .int (nI n), .int bar])), (c5, .inl (cI, 5, .inl K)), (c6, .inl (cI, 5, .inl F))]) C h (c_X1_hasRiver l D cI cZ kS vS oc c5 c6 (nI n) bar x ) wv_X1_hasRiver rfl ⟨rfl, rfl, rfl, rfl, by decide⟩ fk1 1 rfl ml_RX7_104 [0, 3, 1, 2] rfl (fun _ => rfl) ⟨Nat.le_of_ble_eq_true rfl, Nat.le_of_ble_eq_true rfl⟩ ⟨Nat.le_of_ble_eq_true rfl, Nat.le_of_ble_eq_true rfl⟩ (Nat.le_of_ble_eq_true rfl) hl rfl dX7_as_5 (fun r u H locs hq h => ?_)
  have h : HS D A s H locs [(x0, .inr (7, [.ref g0, .ref oc, .ref on, .ref os, .ref ok, .ref ov, .ref fo, .ref bo, .int ik, .int crd, .int bdn])), (oc, .inr (1, [.ref c5, .ref c6, .int (nI n), .int bar])), (c5, .inl (cI, 5, .inl K)), (c6, .inl (cI, 5, .inl F))] := h
  have hq : r = bI (hin (nI n) x) := hq
  have hq := hq.symm
  subst hq
  refine lv_if_ne (tgt := 14) hx hb dX7_as_8 (by decide) (fun c_8 => ?_) (fun c_8 => ?_)
  · skip
    have hb_8 : (hin (nI n) x) = true := bI_n0.mp c_8
    obtain ⟨k0, hk0, rfl⟩ := hin_of hb_8 (by omega)
    have hcl : (nI k0).toNatClampNeg = k0 := nI_clamp (by omega)
    have hn2 : 2 ≤ n := by omega
    refine lv_iload_n hx hb dX7_as_14 rfl (lv_at hl 2 rfl) ?_
    refine lv_iconst (v := 0) hx hb dX7_as_15 (by decide) ?_
    refine lv_iconst (v := 4) hx hb dX7_as_16 (by decide) ?_
    refine k_Si (rest := []) (as := [.int k, .int 0, .int 4]) (wc := []) (wr := [(x0, .inr (7, [.ref g0, .ref oc, .ref on, .ref os, .ref ok, .ref ov, .ref fo, .ref bo, .int ik, .int crd, .int bdn])), (oc, .inr (1, [.ref c5, .ref c6, .int (nI n), .int bar])), (c5, .inl (cI, 5, .inl K)), (c6, .inl (cI, 5, .inl F))]) (isC := []) (isR := [0, 1, 2, 3]) (w2 := fun (_ : Unit) => [(x0, .inr (7, [.ref g0, .ref oc, .ref on, .ref os, .ref ok, .ref ov, .ref fo, .ref bo, .int ik, .int crd, .int bdn])), (oc, .inr (1, [.ref c5, .ref c6, .int (nI n), .int bar])), (c5, .inl (cI, 5, .inl K)), (c6, .inl (cI, 5, .inl F))]) C h (c_X7_within l D cI cZ kS vS k 0 4 ) wv_X7_within rfl ⟨rfl, rfl, rfl, rfl, by decide⟩ ml_RX7_63 [0, 1, 2, 3] rfl (fun _ => rfl) ⟨Nat.le_of_ble_eq_true rfl, Nat.le_of_ble_eq_true rfl⟩ ⟨Nat.le_of_ble_eq_true rfl, Nat.le_of_ble_eq_true rfl⟩ (Nat.le_of_ble_eq_true rfl) hl rfl dX7_as_17 (fun r u H locs hq h => ?_)
    have h : HS D A s H locs [(x0, .inr (7, [.ref g0, .ref oc, .ref on, .ref os, .ref ok, .ref ov, .ref fo, .ref bo, .int ik, .int crd, .int bdn])), (oc, .inr (1, [.ref c5, .ref c6, .int (nI n), .int bar])), (c5, .inl (cI, 5, .inl K)), (c6, .inl (cI, 5, .inl F))] := h
    have hq : r = bI (wth k 0 4) := hq
    have hq := hq.symm
    subst hq
    refine lv_if_ne (tgt := 26) hx hb dX7_as_20 (by decide) (fun c_20 => ?_) (fun c_20 => ?_)
    · skip
      have hb_20 : (wth k 0 4) = true := bI_n0.mp c_20
      refine lv_aload_n hx hb dX7_as_26 rfl (lv_at hl 0 rfl) ?_
      refine r_get C h fk7 0 1 rfl (by decide) mf_RX7_19 rfl dX7_as_27 ?_
      refine r_getN C h fk1 1 0 2 rfl (by decide) rfl rfl dX7_as_30 ?_
      refine lv_iload_n hx hb dX7_as_33 rfl (lv_at hl 1 rfl) ?_
      refine r_ld C h 2 rfl k0 (rfl) (by omega) (by decide) (x := K k0) (rfl) dX7_as_34 ?_
      refine lv_iload_n hx hb dX7_as_35 rfl (lv_at hl 2 rfl) ?_
      refine k_Si (rest := []) (as := [.int (K k0), .int k]) (wc := []) (wr := [(x0, .inr (7, [.ref g0, .ref oc, .ref on, .ref os, .ref ok, .ref ov, .ref fo, .ref bo, .int ik, .int crd, .int bdn])), (oc, .inr (1, [.ref c5, .ref c6, .int (nI n), .int bar])), (c5, .inl (cI, 5, .inl K)), (c6, .inl (cI, 5, .inl F))]) (isC := []) (isR := [0, 1, 2, 3]) (w2 := fun (_ : Unit) => [(x0, .inr (7, [.ref g0, .ref oc, .ref on, .ref os, .ref ok, .ref ov, .ref fo, .ref bo, .int ik, .int crd, .int bdn])), (oc, .inr (1, [.ref c5, .ref c6, .int (nI n), .int bar])), (c5, .inl (cI, 5, .inl K)), (c6, .inl (cI, 5, .inl F))]) C h (c_X7_isSuch l D cI cZ kS vS (K k0) k ) wv_X7_isSuch rfl ⟨rfl, rfl, rfl, rfl, by decide⟩ ml_RX7_133 [0, 1, 2, 3] rfl (fun _ => rfl) ⟨Nat.le_of_ble_eq_true rfl, Nat.le_of_ble_eq_true rfl⟩ ⟨Nat.le_of_ble_eq_true rfl, Nat.le_of_ble_eq_true rfl⟩ (Nat.le_of_ble_eq_true rfl) hl rfl dX7_as_36 (fun r u H locs hq h => ?_)
      have h : HS D A s H locs [(x0, .inr (7, [.ref g0, .ref oc, .ref on, .ref os, .ref ok, .ref ov, .ref fo, .ref bo, .int ik, .int crd, .int bdn])), (oc, .inr (1, [.ref c5, .ref c6, .int (nI n), .int bar])), (c5, .inl (cI, 5, .inl K)), (c6, .inl (cI, 5, .inl F))] := h
      have hq : r = bI (suc (K k0) k) := hq
      have hq := hq.symm
      subst hq
      refine lv_if_eq (tgt := 46) hx hb dX7_as_39 (by decide) (fun c_39 => ?_) (fun c_39 => ?_)
      · skip
        have hb_39 : (suc (K k0) k) = false := bI_0.mp c_39
        refine lv_iconst (v := (-1)) hx hb dX7_as_46 (by decide) ?_
        exact hret (r := (-1)) () dX7_as_47 h (rfl) (by rw [bf_t hb_8, bf_t hb_20, hcl, bf_f hb_39])
      · skip
        have hb_39 : (suc (K k0) k) = true := bI_n0.mp c_39
        refine lv_iload_n hx hb dX7_as_42 rfl (lv_at hl 1 rfl) ?_
        refine lv_goto (tgt := 47) hx hb dX7_as_43 (by decide) ?_
        exact hret (r := nI k0) () dX7_as_47 h (rfl) (by rw [bf_t hb_8, bf_t hb_20, hcl, bf_t hb_39])
    · skip
      have hb_20 : (wth k 0 4) = false := bI_0.mp c_20
      refine lv_bipush (v := (-102)) hx hb dX7_as_23 (by decide) ?_
      exact hret (r := (-102)) () dX7_as_25 h (rfl) (by rw [bf_t hb_8, bf_f hb_20])
  · skip
    have hb_8 : (hin (nI n) x) = false := bI_0.mp c_8
    refine lv_bipush (v := (-101)) hx hb dX7_as_11 (by decide) ?_
    exact hret (r := (-101)) () dX7_as_13 h (rfl) (by rw [bf_f hb_8])

set_option maxHeartbeats 4000000 in
set_option maxRecDepth 100000 in
theorem c_X7_row (l : Launch) (D : va_G) (cI cZ : ClassId) (kS vS : Nat) (x0 : Nat) (g0 : Nat) (oc : Nat) (on : Nat) (os : Nat) (ok : Nat) (ov : Nat) (fo : Nat) (bo : Nat) (ik : Int32) (crd : Int32) (bdn : Int32) (c5 : Nat) (c6 : Nat) (n : Nat) (bar : Int32) (n2 : Nat) (n3 : Nat) (n4 : Nat) (hr : Int32) (to : Int32) (w : Nat → Int32) (tk : Nat → Int32) (ρ : Nat → Nat) (x : Int32) (hn : n = 0 ∨ (2 ≤ n ∧ n ≤ 5)) : CI l yX7_row cX7_row 2 .int D cI cZ kS vS 1 21 0 0 [.ref x0, .int x] [(x0, .inr (7, [.ref g0, .ref oc, .ref on, .ref os, .ref ok, .ref ov, .ref fo, .ref bo, .int ik, .int crd, .int bdn])), (oc, .inr (1, [.ref c5, .ref c6, .int (nI n), .int bar])), (on, .inr (5, [.ref oc, .ref n2, .ref n3, .ref n4, .int hr, .int to])), (n2, .inl (cI, 5, .inl w)), (n3, .inl (cI, 5, .inl tk)), (n4, .inl (cI, 5, .inl (ro ρ)))] (fun (r : Int32) (_ : Unit) => r = bf (hin (nI n) x) (nI (ρ x.toNatClampNeg)) (-101)) (fun (_ : Unit) => [(x0, .inr (7, [.ref g0, .ref oc, .ref on, .ref os, .ref ok, .ref ov, .ref fo, .ref bo, .int ik, .int crd, .int bdn])), (oc, .inr (1, [.ref c5, .ref c6, .int (nI n), .int bar])), (on, .inr (5, [.ref oc, .ref n2, .ref n3, .ref n4, .int hr, .int to])), (n2, .inl (cI, 5, .inl w)), (n3, .inl (cI, 5, .inl tk)), (n4, .inl (cI, 5, .inl (ro ρ)))]) := by
  refine CI_intro (by decide) (Nat.le_of_ble_eq_true rfl) ?_
  intro p e s m args below meth c A Q ls C h hret hl
  have C : CX p s m args c cX7_row 2 RX7 D cI cZ kS vS A := C
  have hx := C.1.1
  have hb := C.1.2.1
  have hl : lv_has ls 2 [(0, .ref x0), (1, .int x)] := hl
  have hn5 : n ≤ 5 := by omega
  refine lv_aload_n hx hb dX7_row_0 rfl (lv_at hl 0 rfl) ?_
  refine r_get C h fk7 0 1 rfl (by decide) mf_RX7_19 rfl dX7_row_1 ?_
  refine lv_iload_n hx hb dX7_row_4 rfl (lv_at hl 1 rfl) ?_
  refine k_Vi (rest := []) (as := [.int x]) (wc := [(oc, .inr (1, [.ref c5, .ref c6, .int (nI n), .int bar]))]) (wr := [(x0, .inr (7, [.ref g0, .ref oc, .ref on, .ref os, .ref ok, .ref ov, .ref fo, .ref bo, .int ik, .int crd, .int bdn])), (on, .inr (5, [.ref oc, .ref n2, .ref n3, .ref n4, .int hr, .int to])), (n2, .inl (cI, 5, .inl w)), (n3, .inl (cI, 5, .inl tk)), (n4, .inl (cI, 5, .inl (ro ρ)))]) (isC := [1]) (isR := [0, 2, 3, 4, 5]) (w2 := fun (_ : Unit) => [(x0, .inr (7, [.ref g0, .ref oc, .ref on, .ref os, .ref ok, .ref ov, .ref fo, .ref bo, .int ik, .int crd, .int bdn])), (oc, .inr (1, [.ref c5, .ref c6, .int (nI n), .int bar])), (on, .inr (5, [.ref oc, .ref n2, .ref n3, .ref n4, .int hr, .int to])), (n2, .inl (cI, 5, .inl w)), (n3, .inl (cI, 5, .inl tk)), (n4, .inl (cI, 5, .inl (ro ρ)))]) C h (c_X1_hasRiver l D cI cZ kS vS oc c5 c6 (nI n) bar x ) wv_X1_hasRiver rfl ⟨rfl, rfl, rfl, rfl, by decide⟩ fk1 1 rfl ml_RX7_104 [0, 5, 1, 2, 3, 4] rfl (fun _ => rfl) ⟨Nat.le_of_ble_eq_true rfl, Nat.le_of_ble_eq_true rfl⟩ ⟨Nat.le_of_ble_eq_true rfl, Nat.le_of_ble_eq_true rfl⟩ (Nat.le_of_ble_eq_true rfl) hl rfl dX7_row_5 (fun r u H locs hq h => ?_)
  have h : HS D A s H locs [(x0, .inr (7, [.ref g0, .ref oc, .ref on, .ref os, .ref ok, .ref ov, .ref fo, .ref bo, .int ik, .int crd, .int bdn])), (oc, .inr (1, [.ref c5, .ref c6, .int (nI n), .int bar])), (on, .inr (5, [.ref oc, .ref n2, .ref n3, .ref n4, .int hr, .int to])), (n2, .inl (cI, 5, .inl w)), (n3, .inl (cI, 5, .inl tk)), (n4, .inl (cI, 5, .inl (ro ρ)))] := h
  have hq : r = bI (hin (nI n) x) := hq
  have hq := hq.symm
  subst hq
  refine lv_if_eq (tgt := 23) hx hb dX7_row_8 (by decide) (fun c_8 => ?_) (fun c_8 => ?_)
  · skip
    have hb_8 : (hin (nI n) x) = false := bI_0.mp c_8
    refine lv_bipush (v := (-101)) hx hb dX7_row_23 (by decide) ?_
    exact hret (r := (-101)) () dX7_row_25 h (rfl) (by rw [bf_f hb_8])
  · skip
    have hb_8 : (hin (nI n) x) = true := bI_n0.mp c_8
    obtain ⟨k0, hk0, rfl⟩ := hin_of hb_8 (by omega)
    have hcl : (nI k0).toNatClampNeg = k0 := nI_clamp (by omega)
    have hn2 : 2 ≤ n := by omega
    refine lv_aload_n hx hb dX7_row_11 rfl (lv_at hl 0 rfl) ?_
    refine r_get C h fk7 0 2 rfl (by decide) mf_RX7_28 rfl dX7_row_12 ?_
    refine r_getN C h fk5 2 3 16 rfl (by decide) rfl rfl dX7_row_15 ?_
    refine lv_iload_n hx hb dX7_row_18 rfl (lv_at hl 1 rfl) ?_
    refine r_ld C h 5 rfl k0 (rfl) (by omega) (by decide) (x := nI (ρ k0)) (rfl) dX7_row_19 ?_
    refine lv_goto (tgt := 25) hx hb dX7_row_20 (by decide) ?_
    exact hret (r := nI (ρ k0)) () dX7_row_25 h (rfl) (by rw [bf_t hb_8, hcl])

set_option maxHeartbeats 4000000 in
set_option maxRecDepth 100000 in
theorem c_X7_hour (l : Launch) (D : va_G) (cI cZ : ClassId) (kS vS : Nat) (x0 : Nat) (g0 : Nat) (oc : Nat) (on : Nat) (os : Nat) (ok : Nat) (ov : Nat) (fo : Nat) (bo : Nat) (ik : Int32) (crd : Int32) (bdn : Int32) (c5 : Nat) (c6 : Nat) (n : Nat) (bar : Int32) (K : Nat → Int32) (F : Nat → Int32) (n2 : Nat) (n3 : Nat) (n4 : Nat) (hr : Int32) (to : Int32) (w : Nat → Int32) (tk : Nat → Int32) (ρ : Nat → Nat) (hn : n = 0 ∨ (2 ≤ n ∧ n ≤ 5)) (hpm : PM n ρ) : CI l yX7_hour cX7_hour 1 .int D cI cZ kS vS 4 88 0 0 [.ref x0] [(x0, .inr (7, [.ref g0, .ref oc, .ref on, .ref os, .ref ok, .ref ov, .ref fo, .ref bo, .int ik, .int crd, .int bdn])), (oc, .inr (1, [.ref c5, .ref c6, .int (nI n), .int bar])), (c5, .inl (cI, 5, .inl K)), (c6, .inl (cI, 5, .inl F)), (on, .inr (5, [.ref oc, .ref n2, .ref n3, .ref n4, .int hr, .int to])), (n2, .inl (cI, 5, .inl w)), (n3, .inl (cI, 5, .inl tk)), (n4, .inl (cI, 5, .inl (ro ρ)))] (fun (r : Int32) (_ : Unit) => r = bf (!decide (n = 0)) (hmm n K F bar w ρ) (-103)) (fun (_ : Unit) => [(x0, .inr (7, [.ref g0, .ref oc, .ref on, .ref os, .ref ok, .ref ov, .ref fo, .ref bo, .int ik, .int crd, .int bdn])), (oc, .inr (1, [.ref c5, .ref c6, .int (nI n), .int bar])), (c5, .inl (cI, 5, .inl K)), (c6, .inl (cI, 5, .inl F)), (on, .inr (5, [.ref oc, .ref n2, .ref n3, .ref n4, .int (bf (!decide (n = 0)) (hr + 1) hr), .int (bf (!decide (n = 0)) (hoo n K F bar w ρ) to)])), (n2, .inl (cI, 5, .inl (bf (!decide (n = 0)) (hww n K F bar w ρ) w))), (n3, .inl (cI, 5, .inl (bf (!decide (n = 0)) (htt n K F bar w ρ tk) tk))), (n4, .inl (cI, 5, .inl (ro (bf (!decide (n = 0)) (hrr n K F bar w ρ) ρ))))]) := by
  refine CI_intro (by decide) (Nat.le_of_ble_eq_true rfl) ?_
  intro p e s m args below meth c A Q ls C h hret hl
  have C : CX p s m args c cX7_hour 1 RX7 D cI cZ kS vS A := C
  have hx := C.1.1
  have hb := C.1.2.1
  have hl : lv_has ls 1 [(0, .ref x0)] := hl
  have hn5 : n ≤ 5 := by omega
  refine lv_aload_n hx hb dX7_hour_0 rfl (lv_at hl 0 rfl) ?_
  refine r_get C h fk7 0 1 rfl (by decide) mf_RX7_19 rfl dX7_hour_1 ?_
  refine k_Vi (rest := []) (as := []) (wc := [(oc, .inr (1, [.ref c5, .ref c6, .int (nI n), .int bar]))]) (wr := [(x0, .inr (7, [.ref g0, .ref oc, .ref on, .ref os, .ref ok, .ref ov, .ref fo, .ref bo, .int ik, .int crd, .int bdn])), (c5, .inl (cI, 5, .inl K)), (c6, .inl (cI, 5, .inl F)), (on, .inr (5, [.ref oc, .ref n2, .ref n3, .ref n4, .int hr, .int to])), (n2, .inl (cI, 5, .inl w)), (n3, .inl (cI, 5, .inl tk)), (n4, .inl (cI, 5, .inl (ro ρ)))]) (isC := [1]) (isR := [0, 2, 3, 4, 5, 6, 7]) (w2 := fun (_ : Unit) => [(x0, .inr (7, [.ref g0, .ref oc, .ref on, .ref os, .ref ok, .ref ov, .ref fo, .ref bo, .int ik, .int crd, .int bdn])), (oc, .inr (1, [.ref c5, .ref c6, .int (nI n), .int bar])), (c5, .inl (cI, 5, .inl K)), (c6, .inl (cI, 5, .inl F)), (on, .inr (5, [.ref oc, .ref n2, .ref n3, .ref n4, .int hr, .int to])), (n2, .inl (cI, 5, .inl w)), (n3, .inl (cI, 5, .inl tk)), (n4, .inl (cI, 5, .inl (ro ρ)))]) C h (c_X1_isRead l D cI cZ kS vS oc c5 c6 (nI n) bar ) wv_X1_isRead rfl ⟨rfl, rfl, rfl, rfl, by decide⟩ fk1 1 rfl ml_RX7_140 [0, 7, 1, 2, 3, 4, 5, 6] rfl (fun _ => rfl) ⟨Nat.le_of_ble_eq_true rfl, Nat.le_of_ble_eq_true rfl⟩ ⟨Nat.le_of_ble_eq_true rfl, Nat.le_of_ble_eq_true rfl⟩ (Nat.le_of_ble_eq_true rfl) hl rfl dX7_hour_4 (fun r u H locs hq h => ?_)
  have h : HS D A s H locs [(x0, .inr (7, [.ref g0, .ref oc, .ref on, .ref os, .ref ok, .ref ov, .ref fo, .ref bo, .int ik, .int crd, .int bdn])), (oc, .inr (1, [.ref c5, .ref c6, .int (nI n), .int bar])), (c5, .inl (cI, 5, .inl K)), (c6, .inl (cI, 5, .inl F)), (on, .inr (5, [.ref oc, .ref n2, .ref n3, .ref n4, .int hr, .int to])), (n2, .inl (cI, 5, .inl w)), (n3, .inl (cI, 5, .inl tk)), (n4, .inl (cI, 5, .inl (ro ρ)))] := h
  have hq : r = bI (!decide ((nI n) ≤ 0)) := hq
  have hq := hq.symm
  subst hq
  refine r_top (y := bI (!decide (n = 0))) (congrArg bI (isr hn5)) ?_
  refine lv_if_eq (tgt := 20) hx hb dX7_hour_7 (by decide) (fun c_7 => ?_) (fun c_7 => ?_)
  · skip
    have hb_7 : (!decide (n = 0)) = false := bI_0.mp c_7
    refine lv_bipush (v := (-103)) hx hb dX7_hour_20 (by decide) ?_
    have h := h.arr 5 (g := bf (!decide (n = 0)) (hww n K F bar w ρ) w) rfl (fun j hj => by rw [bf_f hb_7]) rfl
    have h := h.arr 6 (g := bf (!decide (n = 0)) (htt n K F bar w ρ tk) tk) rfl (fun j hj => by rw [bf_f hb_7]) rfl
    have h := h.arr 7 (g := ro (bf (!decide (n = 0)) (hrr n K F bar w ρ) ρ)) rfl (fun j hj => by rw [bf_f hb_7]) rfl
    have ef : hr = (bf (!decide (n = 0)) (hr + 1) hr) := by rw [bf_f hb_7] <;> rfl
    have h : HS D A s H locs [(x0, .inr (7, [.ref g0, .ref oc, .ref on, .ref os, .ref ok, .ref ov, .ref fo, .ref bo, .int ik, .int crd, .int bdn])), (oc, .inr (1, [.ref c5, .ref c6, .int (nI n), .int bar])), (c5, .inl (cI, 5, .inl K)), (c6, .inl (cI, 5, .inl F)), (on, .inr (5, [.ref oc, .ref n2, .ref n3, .ref n4, .int (bf (!decide (n = 0)) (hr + 1) hr), .int to])), (n2, .inl (cI, 5, .inl (bf (!decide (n = 0)) (hww n K F bar w ρ) w))), (n3, .inl (cI, 5, .inl (bf (!decide (n = 0)) (htt n K F bar w ρ tk) tk))), (n4, .inl (cI, 5, .inl (ro (bf (!decide (n = 0)) (hrr n K F bar w ρ) ρ))))] := by rw [← ef]; exact h
    have ef : to = (bf (!decide (n = 0)) (hoo n K F bar w ρ) to) := by rw [bf_f hb_7] <;> rfl
    have h : HS D A s H locs [(x0, .inr (7, [.ref g0, .ref oc, .ref on, .ref os, .ref ok, .ref ov, .ref fo, .ref bo, .int ik, .int crd, .int bdn])), (oc, .inr (1, [.ref c5, .ref c6, .int (nI n), .int bar])), (c5, .inl (cI, 5, .inl K)), (c6, .inl (cI, 5, .inl F)), (on, .inr (5, [.ref oc, .ref n2, .ref n3, .ref n4, .int (bf (!decide (n = 0)) (hr + 1) hr), .int (bf (!decide (n = 0)) (hoo n K F bar w ρ) to)])), (n2, .inl (cI, 5, .inl (bf (!decide (n = 0)) (hww n K F bar w ρ) w))), (n3, .inl (cI, 5, .inl (bf (!decide (n = 0)) (htt n K F bar w ρ tk) tk))), (n4, .inl (cI, 5, .inl (ro (bf (!decide (n = 0)) (hrr n K F bar w ρ) ρ))))] := by rw [← ef]; exact h
    exact hret (r := (-103)) () dX7_hour_22 h (rfl) (by rw [bf_f hb_7])
  · skip
    have hb_7 : (!decide (n = 0)) = true := bI_n0.mp c_7
    have hn0 := isr_n hb_7
    have hn2 : 2 ≤ n := by omega
    refine lv_aload_n hx hb dX7_hour_10 rfl (lv_at hl 0 rfl) ?_
    refine r_get C h fk7 0 2 rfl (by decide) mf_RX7_28 rfl dX7_hour_11 ?_
    refine k_Vi (rest := []) (as := []) (wc := [(on, .inr (5, [.ref oc, .ref n2, .ref n3, .ref n4, .int hr, .int to])), (oc, .inr (1, [.ref c5, .ref c6, .int (nI n), .int bar])), (n2, .inl (cI, 5, .inl w)), (n3, .inl (cI, 5, .inl tk)), (n4, .inl (cI, 5, .inl (ro ρ))), (c5, .inl (cI, 5, .inl K)), (c6, .inl (cI, 5, .inl F))]) (wr := [(x0, .inr (7, [.ref g0, .ref oc, .ref on, .ref os, .ref ok, .ref ov, .ref fo, .ref bo, .int ik, .int crd, .int bdn]))]) (isC := [4, 1, 5, 6, 7, 2, 3]) (isR := [0]) (w2 := fun (_ : Unit) => [(x0, .inr (7, [.ref g0, .ref oc, .ref on, .ref os, .ref ok, .ref ov, .ref fo, .ref bo, .int ik, .int crd, .int bdn])), (oc, .inr (1, [.ref c5, .ref c6, .int (nI n), .int bar])), (c5, .inl (cI, 5, .inl K)), (c6, .inl (cI, 5, .inl F)), (on, .inr (5, [.ref oc, .ref n2, .ref n3, .ref n4, .int (hr + 1), .int (hoo n K F bar w ρ)])), (n2, .inl (cI, 5, .inl (hww n K F bar w ρ))), (n3, .inl (cI, 5, .inl (htt n K F bar w ρ tk))), (n4, .inl (cI, 5, .inl (ro (hrr n K F bar w ρ))))]) C h (c_X5_passHour l D cI cZ kS vS on oc n2 n3 n4 c5 c6 n bar hr to w tk ρ K F hn2 hn5 hpm.1) wv_X5_passHour rfl ⟨rfl, rfl, rfl, rfl, by decide⟩ fk5 4 rfl ml_RX7_143 [0, 2, 6, 7, 1, 3, 4, 5] rfl (fun _ => rfl) ⟨Nat.le_of_ble_eq_true rfl, Nat.le_of_ble_eq_true rfl⟩ ⟨Nat.le_of_ble_eq_true rfl, Nat.le_of_ble_eq_true rfl⟩ (Nat.le_of_ble_eq_true rfl) hl rfl dX7_hour_14 (fun r u H locs hq h => ?_)
    have h : HS D A s H locs [(x0, .inr (7, [.ref g0, .ref oc, .ref on, .ref os, .ref ok, .ref ov, .ref fo, .ref bo, .int ik, .int crd, .int bdn])), (oc, .inr (1, [.ref c5, .ref c6, .int (nI n), .int bar])), (c5, .inl (cI, 5, .inl K)), (c6, .inl (cI, 5, .inl F)), (on, .inr (5, [.ref oc, .ref n2, .ref n3, .ref n4, .int (hr + 1), .int (hoo n K F bar w ρ)])), (n2, .inl (cI, 5, .inl (hww n K F bar w ρ))), (n3, .inl (cI, 5, .inl (htt n K F bar w ρ tk))), (n4, .inl (cI, 5, .inl (ro (hrr n K F bar w ρ))))] := h
    have hq : r = hmm n K F bar w ρ := hq
    have hq := hq.symm
    subst hq
    refine lv_goto (tgt := 22) hx hb dX7_hour_17 (by decide) ?_
    have h := h.arr 5 (g := bf (!decide (n = 0)) (hww n K F bar w ρ) w) rfl (fun j hj => by rw [bf_t hb_7]) rfl
    have h := h.arr 6 (g := bf (!decide (n = 0)) (htt n K F bar w ρ tk) tk) rfl (fun j hj => by rw [bf_t hb_7]) rfl
    have h := h.arr 7 (g := ro (bf (!decide (n = 0)) (hrr n K F bar w ρ) ρ)) rfl (fun j hj => by rw [bf_t hb_7]) rfl
    have ef : (hr + 1) = (bf (!decide (n = 0)) (hr + 1) hr) := by rw [bf_t hb_7] <;> rfl
    have h : HS D A s H locs [(x0, .inr (7, [.ref g0, .ref oc, .ref on, .ref os, .ref ok, .ref ov, .ref fo, .ref bo, .int ik, .int crd, .int bdn])), (oc, .inr (1, [.ref c5, .ref c6, .int (nI n), .int bar])), (c5, .inl (cI, 5, .inl K)), (c6, .inl (cI, 5, .inl F)), (on, .inr (5, [.ref oc, .ref n2, .ref n3, .ref n4, .int (bf (!decide (n = 0)) (hr + 1) hr), .int (hoo n K F bar w ρ)])), (n2, .inl (cI, 5, .inl (bf (!decide (n = 0)) (hww n K F bar w ρ) w))), (n3, .inl (cI, 5, .inl (bf (!decide (n = 0)) (htt n K F bar w ρ tk) tk))), (n4, .inl (cI, 5, .inl (ro (bf (!decide (n = 0)) (hrr n K F bar w ρ) ρ))))] := by rw [← ef]; exact h
    have ef : (hoo n K F bar w ρ) = (bf (!decide (n = 0)) (hoo n K F bar w ρ) to) := by rw [bf_t hb_7] <;> rfl
    have h : HS D A s H locs [(x0, .inr (7, [.ref g0, .ref oc, .ref on, .ref os, .ref ok, .ref ov, .ref fo, .ref bo, .int ik, .int crd, .int bdn])), (oc, .inr (1, [.ref c5, .ref c6, .int (nI n), .int bar])), (c5, .inl (cI, 5, .inl K)), (c6, .inl (cI, 5, .inl F)), (on, .inr (5, [.ref oc, .ref n2, .ref n3, .ref n4, .int (bf (!decide (n = 0)) (hr + 1) hr), .int (bf (!decide (n = 0)) (hoo n K F bar w ρ) to)])), (n2, .inl (cI, 5, .inl (bf (!decide (n = 0)) (hww n K F bar w ρ) w))), (n3, .inl (cI, 5, .inl (bf (!decide (n = 0)) (htt n K F bar w ρ tk) tk))), (n4, .inl (cI, 5, .inl (ro (bf (!decide (n = 0)) (hrr n K F bar w ρ) ρ))))] := by rw [← ef]; exact h
    exact hret (r := hmm n K F bar w ρ) () dX7_hour_22 h (rfl) (by rw [bf_t hb_7])

set_option maxHeartbeats 4000000 in
set_option maxRecDepth 100000 in
theorem c_X7_rain (l : Launch) (D : va_G) (cI cZ : ClassId) (kS vS : Nat) (x0 : Nat) (g0 : Nat) (oc : Nat) (on : Nat) (os : Nat) (ok : Nat) (ov : Nat) (fo : Nat) (bo : Nat) (ik : Int32) (crd : Int32) (bdn : Int32) (c5 : Nat) (c6 : Nat) (n : Nat) (bar : Int32) (n2 : Nat) (n3 : Nat) (n4 : Nat) (hr : Int32) (to : Int32) (w : Nat → Int32) (tk : Nat → Int32) (ρ : Nat → Nat) (x : Int32) (k : Int32) (hn : n = 0 ∨ (2 ≤ n ∧ n ≤ 5)) : CI l yX7_rain cX7_rain 3 .int D cI cZ kS vS 2 37 0 0 [.ref x0, .int x, .int k] [(x0, .inr (7, [.ref g0, .ref oc, .ref on, .ref os, .ref ok, .ref ov, .ref fo, .ref bo, .int ik, .int crd, .int bdn])), (oc, .inr (1, [.ref c5, .ref c6, .int (nI n), .int bar])), (on, .inr (5, [.ref oc, .ref n2, .ref n3, .ref n4, .int hr, .int to])), (n2, .inl (cI, 5, .inl w)), (n3, .inl (cI, 5, .inl tk)), (n4, .inl (cI, 5, .inl (ro ρ)))] (fun (r : Int32) (_ : Unit) => r = bf (hin (nI n) x) (bf (wth k 1 50) (hcap (w x.toNatClampNeg + k)) (-102)) (-101)) (fun (_ : Unit) => [(x0, .inr (7, [.ref g0, .ref oc, .ref on, .ref os, .ref ok, .ref ov, .ref fo, .ref bo, .int ik, .int crd, .int bdn])), (oc, .inr (1, [.ref c5, .ref c6, .int (nI n), .int bar])), (on, .inr (5, [.ref oc, .ref n2, .ref n3, .ref n4, .int hr, .int to])), (n2, .inl (cI, 5, .inl (bf (rnk n x k) (upd w x.toNatClampNeg (hcap (w x.toNatClampNeg + k))) w))), (n3, .inl (cI, 5, .inl tk)), (n4, .inl (cI, 5, .inl (ro ρ)))]) := by
  refine CI_intro (by decide) (Nat.le_of_ble_eq_true rfl) ?_
  intro p e s m args below meth c A Q ls C h hret hl
  have C : CX p s m args c cX7_rain 3 RX7 D cI cZ kS vS A := C
  have hx := C.1.1
  have hb := C.1.2.1
  have hl : lv_has ls 3 [(0, .ref x0), (1, .int x), (2, .int k)] := hl
  have hn5 : n ≤ 5 := by omega
  refine lv_aload_n hx hb dX7_rain_0 rfl (lv_at hl 0 rfl) ?_
  refine r_get C h fk7 0 1 rfl (by decide) mf_RX7_19 rfl dX7_rain_1 ?_
  refine lv_iload_n hx hb dX7_rain_4 rfl (lv_at hl 1 rfl) ?_
  refine k_Vi (rest := []) (as := [.int x]) (wc := [(oc, .inr (1, [.ref c5, .ref c6, .int (nI n), .int bar]))]) (wr := [(x0, .inr (7, [.ref g0, .ref oc, .ref on, .ref os, .ref ok, .ref ov, .ref fo, .ref bo, .int ik, .int crd, .int bdn])), (on, .inr (5, [.ref oc, .ref n2, .ref n3, .ref n4, .int hr, .int to])), (n2, .inl (cI, 5, .inl w)), (n3, .inl (cI, 5, .inl tk)), (n4, .inl (cI, 5, .inl (ro ρ)))]) (isC := [1]) (isR := [0, 2, 3, 4, 5]) (w2 := fun (_ : Unit) => [(x0, .inr (7, [.ref g0, .ref oc, .ref on, .ref os, .ref ok, .ref ov, .ref fo, .ref bo, .int ik, .int crd, .int bdn])), (oc, .inr (1, [.ref c5, .ref c6, .int (nI n), .int bar])), (on, .inr (5, [.ref oc, .ref n2, .ref n3, .ref n4, .int hr, .int to])), (n2, .inl (cI, 5, .inl w)), (n3, .inl (cI, 5, .inl tk)), (n4, .inl (cI, 5, .inl (ro ρ)))]) C h (c_X1_hasRiver l D cI cZ kS vS oc c5 c6 (nI n) bar x ) wv_X1_hasRiver rfl ⟨rfl, rfl, rfl, rfl, by decide⟩ fk1 1 rfl ml_RX7_104 [0, 5, 1, 2, 3, 4] rfl (fun _ => rfl) ⟨Nat.le_of_ble_eq_true rfl, Nat.le_of_ble_eq_true rfl⟩ ⟨Nat.le_of_ble_eq_true rfl, Nat.le_of_ble_eq_true rfl⟩ (Nat.le_of_ble_eq_true rfl) hl rfl dX7_rain_5 (fun r u H locs hq h => ?_)
  have h : HS D A s H locs [(x0, .inr (7, [.ref g0, .ref oc, .ref on, .ref os, .ref ok, .ref ov, .ref fo, .ref bo, .int ik, .int crd, .int bdn])), (oc, .inr (1, [.ref c5, .ref c6, .int (nI n), .int bar])), (on, .inr (5, [.ref oc, .ref n2, .ref n3, .ref n4, .int hr, .int to])), (n2, .inl (cI, 5, .inl w)), (n3, .inl (cI, 5, .inl tk)), (n4, .inl (cI, 5, .inl (ro ρ)))] := h
  have hq : r = bI (hin (nI n) x) := hq
  have hq := hq.symm
  subst hq
  refine lv_if_ne (tgt := 14) hx hb dX7_rain_8 (by decide) (fun c_8 => ?_) (fun c_8 => ?_)
  · skip
    have hb_8 : (hin (nI n) x) = true := bI_n0.mp c_8
    obtain ⟨k0, hk0, rfl⟩ := hin_of hb_8 (by omega)
    have hcl : (nI k0).toNatClampNeg = k0 := nI_clamp (by omega)
    have hn2 : 2 ≤ n := by omega
    refine lv_iload_n hx hb dX7_rain_14 rfl (lv_at hl 2 rfl) ?_
    refine lv_iconst (v := 1) hx hb dX7_rain_15 (by decide) ?_
    refine lv_bipush (v := 50) hx hb dX7_rain_16 (by decide) ?_
    refine k_Si (rest := []) (as := [.int k, .int 1, .int 50]) (wc := []) (wr := [(x0, .inr (7, [.ref g0, .ref oc, .ref on, .ref os, .ref ok, .ref ov, .ref fo, .ref bo, .int ik, .int crd, .int bdn])), (oc, .inr (1, [.ref c5, .ref c6, .int (nI n), .int bar])), (on, .inr (5, [.ref oc, .ref n2, .ref n3, .ref n4, .int hr, .int to])), (n2, .inl (cI, 5, .inl w)), (n3, .inl (cI, 5, .inl tk)), (n4, .inl (cI, 5, .inl (ro ρ)))]) (isC := []) (isR := [0, 1, 2, 3, 4, 5]) (w2 := fun (_ : Unit) => [(x0, .inr (7, [.ref g0, .ref oc, .ref on, .ref os, .ref ok, .ref ov, .ref fo, .ref bo, .int ik, .int crd, .int bdn])), (oc, .inr (1, [.ref c5, .ref c6, .int (nI n), .int bar])), (on, .inr (5, [.ref oc, .ref n2, .ref n3, .ref n4, .int hr, .int to])), (n2, .inl (cI, 5, .inl w)), (n3, .inl (cI, 5, .inl tk)), (n4, .inl (cI, 5, .inl (ro ρ)))]) C h (c_X7_within l D cI cZ kS vS k 1 50 ) wv_X7_within rfl ⟨rfl, rfl, rfl, rfl, by decide⟩ ml_RX7_63 [0, 1, 2, 3, 4, 5] rfl (fun _ => rfl) ⟨Nat.le_of_ble_eq_true rfl, Nat.le_of_ble_eq_true rfl⟩ ⟨Nat.le_of_ble_eq_true rfl, Nat.le_of_ble_eq_true rfl⟩ (Nat.le_of_ble_eq_true rfl) hl rfl dX7_rain_18 (fun r u H locs hq h => ?_)
    have h : HS D A s H locs [(x0, .inr (7, [.ref g0, .ref oc, .ref on, .ref os, .ref ok, .ref ov, .ref fo, .ref bo, .int ik, .int crd, .int bdn])), (oc, .inr (1, [.ref c5, .ref c6, .int (nI n), .int bar])), (on, .inr (5, [.ref oc, .ref n2, .ref n3, .ref n4, .int hr, .int to])), (n2, .inl (cI, 5, .inl w)), (n3, .inl (cI, 5, .inl tk)), (n4, .inl (cI, 5, .inl (ro ρ)))] := h
    have hq : r = bI (wth k 1 50) := hq
    have hq := hq.symm
    subst hq
    refine lv_if_ne (tgt := 27) hx hb dX7_rain_21 (by decide) (fun c_21 => ?_) (fun c_21 => ?_)
    · skip
      have hb_21 : (wth k 1 50) = true := bI_n0.mp c_21
      refine lv_aload_n hx hb dX7_rain_27 rfl (lv_at hl 0 rfl) ?_
      refine r_get C h fk7 0 2 rfl (by decide) mf_RX7_28 rfl dX7_rain_28 ?_
      refine lv_iload_n hx hb dX7_rain_31 rfl (lv_at hl 1 rfl) ?_
      refine lv_iload_n hx hb dX7_rain_32 rfl (lv_at hl 2 rfl) ?_
      refine k_Vi (rest := []) (as := [.int (nI k0), .int k]) (wc := [(on, .inr (5, [.ref oc, .ref n2, .ref n3, .ref n4, .int hr, .int to])), (n2, .inl (cI, 5, .inl w))]) (wr := [(x0, .inr (7, [.ref g0, .ref oc, .ref on, .ref os, .ref ok, .ref ov, .ref fo, .ref bo, .int ik, .int crd, .int bdn])), (oc, .inr (1, [.ref c5, .ref c6, .int (nI n), .int bar])), (n3, .inl (cI, 5, .inl tk)), (n4, .inl (cI, 5, .inl (ro ρ)))]) (isC := [2, 3]) (isR := [0, 1, 4, 5]) (w2 := fun (_ : Unit) => [(x0, .inr (7, [.ref g0, .ref oc, .ref on, .ref os, .ref ok, .ref ov, .ref fo, .ref bo, .int ik, .int crd, .int bdn])), (oc, .inr (1, [.ref c5, .ref c6, .int (nI n), .int bar])), (on, .inr (5, [.ref oc, .ref n2, .ref n3, .ref n4, .int hr, .int to])), (n2, .inl (cI, 5, .inl (upd w k0 (hcap (w k0 + k))))), (n3, .inl (cI, 5, .inl tk)), (n4, .inl (cI, 5, .inl (ro ρ)))]) C h (c_X5_addWater l D cI cZ kS vS on oc n2 n3 n4 hr to w k0 k (by omega)) wv_X5_addWater rfl ⟨rfl, rfl, rfl, rfl, by decide⟩ fk5 2 rfl ml_RX7_146 [0, 1, 4, 5, 2, 3] rfl (fun _ => rfl) ⟨Nat.le_of_ble_eq_true rfl, Nat.le_of_ble_eq_true rfl⟩ ⟨Nat.le_of_ble_eq_true rfl, Nat.le_of_ble_eq_true rfl⟩ (Nat.le_of_ble_eq_true rfl) hl rfl dX7_rain_33 (fun r u H locs hq h => ?_)
      have h : HS D A s H locs [(x0, .inr (7, [.ref g0, .ref oc, .ref on, .ref os, .ref ok, .ref ov, .ref fo, .ref bo, .int ik, .int crd, .int bdn])), (oc, .inr (1, [.ref c5, .ref c6, .int (nI n), .int bar])), (on, .inr (5, [.ref oc, .ref n2, .ref n3, .ref n4, .int hr, .int to])), (n2, .inl (cI, 5, .inl (upd w k0 (hcap (w k0 + k))))), (n3, .inl (cI, 5, .inl tk)), (n4, .inl (cI, 5, .inl (ro ρ)))] := h
      have hq : r = hcap (w k0 + k) := hq
      have hq := hq.symm
      subst hq
      have h := h.arr 3 (g := bf (rnk n (nI k0) k) (upd w (nI k0).toNatClampNeg (hcap (w (nI k0).toNatClampNeg + k))) w) rfl (fun j hj => by rw [bf_t (rnk_t hb_8 hb_21), hcl]) rfl
      exact hret (r := hcap (w k0 + k)) () dX7_rain_36 h (rfl) (by rw [bf_t hb_8, bf_t hb_21, hcl])
    · skip
      have hb_21 : (wth k 1 50) = false := bI_0.mp c_21
      refine lv_bipush (v := (-102)) hx hb dX7_rain_24 (by decide) ?_
      have h := h.arr 3 (g := bf (rnk n (nI k0) k) (upd w (nI k0).toNatClampNeg (hcap (w (nI k0).toNatClampNeg + k))) w) rfl (fun j hj => by rw [bf_f (rnk_f2 hb_21)]) rfl
      exact hret (r := (-102)) () dX7_rain_26 h (rfl) (by rw [bf_t hb_8, bf_f hb_21])
  · skip
    have hb_8 : (hin (nI n) x) = false := bI_0.mp c_8
    refine lv_bipush (v := (-101)) hx hb dX7_rain_11 (by decide) ?_
    have h := h.arr 3 (g := bf (rnk n x k) (upd w x.toNatClampNeg (hcap (w x.toNatClampNeg + k))) w) rfl (fun j hj => by rw [bf_f (rnk_f1 hb_8)]) rfl
    exact hret (r := (-101)) () dX7_rain_13 h (rfl) (by rw [bf_f hb_8])

set_option maxHeartbeats 4000000 in
set_option maxRecDepth 100000 in
theorem c_X7_drought (l : Launch) (D : va_G) (cI cZ : ClassId) (kS vS : Nat) (x0 : Nat) (g0 : Nat) (oc : Nat) (on : Nat) (os : Nat) (ok : Nat) (ov : Nat) (fo : Nat) (bo : Nat) (ik : Int32) (crd : Int32) (bdn : Int32) (c5 : Nat) (c6 : Nat) (n : Nat) (bar : Int32) (n2 : Nat) (n3 : Nat) (n4 : Nat) (hr : Int32) (to : Int32) (w : Nat → Int32) (tk : Nat → Int32) (ρ : Nat → Nat) (x : Int32) (hn : n = 0 ∨ (2 ≤ n ∧ n ≤ 5)) (hpm : PM n ρ) : CI l yX7_drought cX7_drought 2 .int D cI cZ kS vS 3 67 0 0 [.ref x0, .int x] [(x0, .inr (7, [.ref g0, .ref oc, .ref on, .ref os, .ref ok, .ref ov, .ref fo, .ref bo, .int ik, .int crd, .int bdn])), (oc, .inr (1, [.ref c5, .ref c6, .int (nI n), .int bar])), (on, .inr (5, [.ref oc, .ref n2, .ref n3, .ref n4, .int hr, .int to])), (n2, .inl (cI, 5, .inl w)), (n3, .inl (cI, 5, .inl tk)), (n4, .inl (cI, 5, .inl (ro ρ)))] (fun (r : Int32) (_ : Unit) => r = bf (hin (nI n) x) (w x.toNatClampNeg) (-101)) (fun (_ : Unit) => [(x0, .inr (7, [.ref g0, .ref oc, .ref on, .ref os, .ref ok, .ref ov, .ref fo, .ref bo, .int ik, .int crd, .int bdn])), (oc, .inr (1, [.ref c5, .ref c6, .int (nI n), .int bar])), (on, .inr (5, [.ref oc, .ref n2, .ref n3, .ref n4, .int hr, .int to])), (n2, .inl (cI, 5, .inl (bf (hin (nI n) x) (upd w x.toNatClampNeg 0) w))), (n3, .inl (cI, 5, .inl tk)), (n4, .inl (cI, 5, .inl (ro (bf (hin (nI n) x) (hsb n (plq n ρ x.toNatClampNeg) ρ) ρ))))]) := by
  refine CI_intro (by decide) (Nat.le_of_ble_eq_true rfl) ?_
  intro p e s m args below meth c A Q ls C h hret hl
  have C : CX p s m args c cX7_drought 2 RX7 D cI cZ kS vS A := C
  have hx := C.1.1
  have hb := C.1.2.1
  have hl : lv_has ls 2 [(0, .ref x0), (1, .int x)] := hl
  have hn5 : n ≤ 5 := by omega
  refine lv_aload_n hx hb dX7_drought_0 rfl (lv_at hl 0 rfl) ?_
  refine r_get C h fk7 0 1 rfl (by decide) mf_RX7_19 rfl dX7_drought_1 ?_
  refine lv_iload_n hx hb dX7_drought_4 rfl (lv_at hl 1 rfl) ?_
  refine k_Vi (rest := []) (as := [.int x]) (wc := [(oc, .inr (1, [.ref c5, .ref c6, .int (nI n), .int bar]))]) (wr := [(x0, .inr (7, [.ref g0, .ref oc, .ref on, .ref os, .ref ok, .ref ov, .ref fo, .ref bo, .int ik, .int crd, .int bdn])), (on, .inr (5, [.ref oc, .ref n2, .ref n3, .ref n4, .int hr, .int to])), (n2, .inl (cI, 5, .inl w)), (n3, .inl (cI, 5, .inl tk)), (n4, .inl (cI, 5, .inl (ro ρ)))]) (isC := [1]) (isR := [0, 2, 3, 4, 5]) (w2 := fun (_ : Unit) => [(x0, .inr (7, [.ref g0, .ref oc, .ref on, .ref os, .ref ok, .ref ov, .ref fo, .ref bo, .int ik, .int crd, .int bdn])), (oc, .inr (1, [.ref c5, .ref c6, .int (nI n), .int bar])), (on, .inr (5, [.ref oc, .ref n2, .ref n3, .ref n4, .int hr, .int to])), (n2, .inl (cI, 5, .inl w)), (n3, .inl (cI, 5, .inl tk)), (n4, .inl (cI, 5, .inl (ro ρ)))]) C h (c_X1_hasRiver l D cI cZ kS vS oc c5 c6 (nI n) bar x ) wv_X1_hasRiver rfl ⟨rfl, rfl, rfl, rfl, by decide⟩ fk1 1 rfl ml_RX7_104 [0, 5, 1, 2, 3, 4] rfl (fun _ => rfl) ⟨Nat.le_of_ble_eq_true rfl, Nat.le_of_ble_eq_true rfl⟩ ⟨Nat.le_of_ble_eq_true rfl, Nat.le_of_ble_eq_true rfl⟩ (Nat.le_of_ble_eq_true rfl) hl rfl dX7_drought_5 (fun r u H locs hq h => ?_)
  have h : HS D A s H locs [(x0, .inr (7, [.ref g0, .ref oc, .ref on, .ref os, .ref ok, .ref ov, .ref fo, .ref bo, .int ik, .int crd, .int bdn])), (oc, .inr (1, [.ref c5, .ref c6, .int (nI n), .int bar])), (on, .inr (5, [.ref oc, .ref n2, .ref n3, .ref n4, .int hr, .int to])), (n2, .inl (cI, 5, .inl w)), (n3, .inl (cI, 5, .inl tk)), (n4, .inl (cI, 5, .inl (ro ρ)))] := h
  have hq : r = bI (hin (nI n) x) := hq
  have hq := hq.symm
  subst hq
  refine lv_if_eq (tgt := 22) hx hb dX7_drought_8 (by decide) (fun c_8 => ?_) (fun c_8 => ?_)
  · skip
    have hb_8 : (hin (nI n) x) = false := bI_0.mp c_8
    refine lv_bipush (v := (-101)) hx hb dX7_drought_22 (by decide) ?_
    have h := h.arr 3 (g := bf (hin (nI n) x) (upd w x.toNatClampNeg 0) w) rfl (fun j hj => by rw [bf_f hb_8]) rfl
    have h := h.arr 5 (g := ro (bf (hin (nI n) x) (hsb n (plq n ρ x.toNatClampNeg) ρ) ρ)) rfl (fun j hj => by rw [bf_f hb_8]) rfl
    exact hret (r := (-101)) () dX7_drought_24 h (rfl) (by rw [bf_f hb_8])
  · skip
    have hb_8 : (hin (nI n) x) = true := bI_n0.mp c_8
    obtain ⟨k0, hk0, rfl⟩ := hin_of hb_8 (by omega)
    have hcl : (nI k0).toNatClampNeg = k0 := nI_clamp (by omega)
    have hn2 : 2 ≤ n := by omega
    have hqe := plq_e hpm hk0
    refine lv_aload_n hx hb dX7_drought_11 rfl (lv_at hl 0 rfl) ?_
    refine r_get C h fk7 0 2 rfl (by decide) mf_RX7_28 rfl dX7_drought_12 ?_
    refine lv_iload_n hx hb dX7_drought_15 rfl (lv_at hl 1 rfl) ?_
    refine r_top (y := nI (ρ (plq n ρ k0))) (by rw [hqe.2]) ?_
    refine k_Vi (rest := []) (as := [.int (nI (ρ (plq n ρ k0)))]) (wc := [(on, .inr (5, [.ref oc, .ref n2, .ref n3, .ref n4, .int hr, .int to])), (oc, .inr (1, [.ref c5, .ref c6, .int (nI n), .int bar])), (n2, .inl (cI, 5, .inl w)), (n4, .inl (cI, 5, .inl (ro ρ)))]) (wr := [(x0, .inr (7, [.ref g0, .ref oc, .ref on, .ref os, .ref ok, .ref ov, .ref fo, .ref bo, .int ik, .int crd, .int bdn])), (n3, .inl (cI, 5, .inl tk))]) (isC := [2, 1, 3, 5]) (isR := [0, 4]) (w2 := fun (_ : Unit) => [(x0, .inr (7, [.ref g0, .ref oc, .ref on, .ref os, .ref ok, .ref ov, .ref fo, .ref bo, .int ik, .int crd, .int bdn])), (oc, .inr (1, [.ref c5, .ref c6, .int (nI n), .int bar])), (on, .inr (5, [.ref oc, .ref n2, .ref n3, .ref n4, .int hr, .int to])), (n2, .inl (cI, 5, .inl (upd w (ρ (plq n ρ k0)) 0))), (n3, .inl (cI, 5, .inl tk)), (n4, .inl (cI, 5, .inl (ro (hsb n (plq n ρ k0) ρ))))]) C h (c_X5_dryUp l D cI cZ kS vS on oc n2 n3 n4 c5 c6 n bar hr to w ρ (plq n ρ k0) hn5 hpm.1 hpm.2.1 hqe.1) wv_X5_dryUp rfl ⟨rfl, rfl, rfl, rfl, by decide⟩ fk5 2 rfl ml_RX7_150 [0, 3, 2, 4, 1, 5] rfl (fun _ => rfl) ⟨Nat.le_of_ble_eq_true rfl, Nat.le_of_ble_eq_true rfl⟩ ⟨Nat.le_of_ble_eq_true rfl, Nat.le_of_ble_eq_true rfl⟩ (Nat.le_of_ble_eq_true rfl) hl rfl dX7_drought_16 (fun r u H locs hq h => ?_)
    have h : HS D A s H locs [(x0, .inr (7, [.ref g0, .ref oc, .ref on, .ref os, .ref ok, .ref ov, .ref fo, .ref bo, .int ik, .int crd, .int bdn])), (oc, .inr (1, [.ref c5, .ref c6, .int (nI n), .int bar])), (on, .inr (5, [.ref oc, .ref n2, .ref n3, .ref n4, .int hr, .int to])), (n2, .inl (cI, 5, .inl (upd w (ρ (plq n ρ k0)) 0))), (n3, .inl (cI, 5, .inl tk)), (n4, .inl (cI, 5, .inl (ro (hsb n (plq n ρ k0) ρ))))] := h
    have hq : r = w (ρ (plq n ρ k0)) := hq
    have hq := hq.symm
    subst hq
    refine lv_goto (tgt := 24) hx hb dX7_drought_19 (by decide) ?_
    have h := h.arr 3 (g := bf (hin (nI n) (nI k0)) (upd w (nI k0).toNatClampNeg 0) w) rfl (fun j _ => by rw [bf_t hb_8, hcl, hqe.2]) rfl
    have h := h.arr 5 (g := ro (bf (hin (nI n) (nI k0)) (hsb n (plq n ρ (nI k0).toNatClampNeg) ρ) ρ)) rfl (fun j _ => by rw [bf_t hb_8, hcl]) rfl
    exact hret (r := w (ρ (plq n ρ k0))) () dX7_drought_24 h (rfl) (by rw [bf_t hb_8, hcl, hqe.2])

set_option maxHeartbeats 4000000 in
set_option maxRecDepth 100000 in
theorem c_X7_see (l : Launch) (D : va_G) (cI cZ : ClassId) (kS vS : Nat) (x0 : Nat) (g0 : Nat) (oc : Nat) (on : Nat) (os : Nat) (ok : Nat) (ov : Nat) (fo : Nat) (bo : Nat) (ik : Int32) (crd : Int32) (bdn : Int32) (c5 : Nat) (c6 : Nat) (n : Nat) (bar : Int32) (s1 : Nat) (s2 : Nat) (s3 : Nat) (q : Nat) (sh : Nat → Nat) (sr : Nat → Nat) (tb : Nat → Int32) (y : Int32) (x : Int32) (tv : Int32) (hn : n = 0 ∨ (2 ≤ n ∧ n ≤ 5)) (hq6 : q ≤ 6) (htv : tv = 0 ∨ tv = 1) : CI l yX7_see cX7_see 4 .int D cI cZ kS vS 2 43 0 0 [.ref x0, .int y, .int x, .int tv] [(x0, .inr (7, [.ref g0, .ref oc, .ref on, .ref os, .ref ok, .ref ov, .ref fo, .ref bo, .int ik, .int crd, .int bdn])), (oc, .inr (1, [.ref c5, .ref c6, .int (nI n), .int bar])), (os, .inr (6, [.ref s1, .ref s2, .ref s3, .int (nI q)])), (s1, .inl (cI, 6, .inl (ro sh))), (s2, .inl (cI, 6, .inl (ro sr))), (s3, .inl (cZ, 6, .inl tb))] (fun (r : Int32) (_ : Unit) => r = bf (wth y 1 12) (bf (hin (nI n) x) (bf (decide (q < 6)) (nI (q + 1)) (-104)) (-101)) (-102)) (fun (_ : Unit) => [(x0, .inr (7, [.ref g0, .ref oc, .ref on, .ref os, .ref ok, .ref ov, .ref fo, .ref bo, .int ik, .int crd, .int bdn])), (oc, .inr (1, [.ref c5, .ref c6, .int (nI n), .int bar])), (os, .inr (6, [.ref s1, .ref s2, .ref s3, .int (nI (bf (sek n q y x) (q + 1) q))])), (s1, .inl (cI, 6, .inl (ro (bf (sek n q y x) (un sh q y.toNatClampNeg) sh)))), (s2, .inl (cI, 6, .inl (ro (bf (sek n q y x) (un sr q x.toNatClampNeg) sr)))), (s3, .inl (cZ, 6, .inl (bf (sek n q y x) (upd tb q tv) tb)))]) := by
  refine CI_intro (by decide) (Nat.le_of_ble_eq_true rfl) ?_
  intro p e s m args below meth c A Q ls C h hret hl
  have C : CX p s m args c cX7_see 4 RX7 D cI cZ kS vS A := C
  have hx := C.1.1
  have hb := C.1.2.1
  have hl : lv_has ls 4 [(0, .ref x0), (1, .int y), (2, .int x), (3, .int tv)] := hl
  have hn5 : n ≤ 5 := by omega
  refine lv_iload_n hx hb dX7_see_0 rfl (lv_at hl 1 rfl) ?_
  refine lv_iconst (v := 1) hx hb dX7_see_1 (by decide) ?_
  refine lv_bipush (v := 12) hx hb dX7_see_2 (by decide) ?_
  refine k_Si (rest := []) (as := [.int y, .int 1, .int 12]) (wc := []) (wr := [(x0, .inr (7, [.ref g0, .ref oc, .ref on, .ref os, .ref ok, .ref ov, .ref fo, .ref bo, .int ik, .int crd, .int bdn])), (oc, .inr (1, [.ref c5, .ref c6, .int (nI n), .int bar])), (os, .inr (6, [.ref s1, .ref s2, .ref s3, .int (nI q)])), (s1, .inl (cI, 6, .inl (ro sh))), (s2, .inl (cI, 6, .inl (ro sr))), (s3, .inl (cZ, 6, .inl tb))]) (isC := []) (isR := [0, 1, 2, 3, 4, 5]) (w2 := fun (_ : Unit) => [(x0, .inr (7, [.ref g0, .ref oc, .ref on, .ref os, .ref ok, .ref ov, .ref fo, .ref bo, .int ik, .int crd, .int bdn])), (oc, .inr (1, [.ref c5, .ref c6, .int (nI n), .int bar])), (os, .inr (6, [.ref s1, .ref s2, .ref s3, .int (nI q)])), (s1, .inl (cI, 6, .inl (ro sh))), (s2, .inl (cI, 6, .inl (ro sr))), (s3, .inl (cZ, 6, .inl tb))]) C h (c_X7_within l D cI cZ kS vS y 1 12 ) wv_X7_within rfl ⟨rfl, rfl, rfl, rfl, by decide⟩ ml_RX7_63 [0, 1, 2, 3, 4, 5] rfl (fun _ => rfl) ⟨Nat.le_of_ble_eq_true rfl, Nat.le_of_ble_eq_true rfl⟩ ⟨Nat.le_of_ble_eq_true rfl, Nat.le_of_ble_eq_true rfl⟩ (Nat.le_of_ble_eq_true rfl) hl rfl dX7_see_4 (fun r u H locs hq h => ?_)
  have h : HS D A s H locs [(x0, .inr (7, [.ref g0, .ref oc, .ref on, .ref os, .ref ok, .ref ov, .ref fo, .ref bo, .int ik, .int crd, .int bdn])), (oc, .inr (1, [.ref c5, .ref c6, .int (nI n), .int bar])), (os, .inr (6, [.ref s1, .ref s2, .ref s3, .int (nI q)])), (s1, .inl (cI, 6, .inl (ro sh))), (s2, .inl (cI, 6, .inl (ro sr))), (s3, .inl (cZ, 6, .inl tb))] := h
  have hq : r = bI (wth y 1 12) := hq
  have hq := hq.symm
  subst hq
  refine lv_if_ne (tgt := 13) hx hb dX7_see_7 (by decide) (fun c_7 => ?_) (fun c_7 => ?_)
  · skip
    have hb_7 : (wth y 1 12) = true := bI_n0.mp c_7
    refine lv_aload_n hx hb dX7_see_13 rfl (lv_at hl 0 rfl) ?_
    refine r_get C h fk7 0 1 rfl (by decide) mf_RX7_19 rfl dX7_see_14 ?_
    refine lv_iload_n hx hb dX7_see_17 rfl (lv_at hl 2 rfl) ?_
    refine k_Vi (rest := []) (as := [.int x]) (wc := [(oc, .inr (1, [.ref c5, .ref c6, .int (nI n), .int bar]))]) (wr := [(x0, .inr (7, [.ref g0, .ref oc, .ref on, .ref os, .ref ok, .ref ov, .ref fo, .ref bo, .int ik, .int crd, .int bdn])), (os, .inr (6, [.ref s1, .ref s2, .ref s3, .int (nI q)])), (s1, .inl (cI, 6, .inl (ro sh))), (s2, .inl (cI, 6, .inl (ro sr))), (s3, .inl (cZ, 6, .inl tb))]) (isC := [1]) (isR := [0, 2, 3, 4, 5]) (w2 := fun (_ : Unit) => [(x0, .inr (7, [.ref g0, .ref oc, .ref on, .ref os, .ref ok, .ref ov, .ref fo, .ref bo, .int ik, .int crd, .int bdn])), (oc, .inr (1, [.ref c5, .ref c6, .int (nI n), .int bar])), (os, .inr (6, [.ref s1, .ref s2, .ref s3, .int (nI q)])), (s1, .inl (cI, 6, .inl (ro sh))), (s2, .inl (cI, 6, .inl (ro sr))), (s3, .inl (cZ, 6, .inl tb))]) C h (c_X1_hasRiver l D cI cZ kS vS oc c5 c6 (nI n) bar x ) wv_X1_hasRiver rfl ⟨rfl, rfl, rfl, rfl, by decide⟩ fk1 1 rfl ml_RX7_104 [0, 5, 1, 2, 3, 4] rfl (fun _ => rfl) ⟨Nat.le_of_ble_eq_true rfl, Nat.le_of_ble_eq_true rfl⟩ ⟨Nat.le_of_ble_eq_true rfl, Nat.le_of_ble_eq_true rfl⟩ (Nat.le_of_ble_eq_true rfl) hl rfl dX7_see_18 (fun r u H locs hq h => ?_)
    have h : HS D A s H locs [(x0, .inr (7, [.ref g0, .ref oc, .ref on, .ref os, .ref ok, .ref ov, .ref fo, .ref bo, .int ik, .int crd, .int bdn])), (oc, .inr (1, [.ref c5, .ref c6, .int (nI n), .int bar])), (os, .inr (6, [.ref s1, .ref s2, .ref s3, .int (nI q)])), (s1, .inl (cI, 6, .inl (ro sh))), (s2, .inl (cI, 6, .inl (ro sr))), (s3, .inl (cZ, 6, .inl tb))] := h
    have hq : r = bI (hin (nI n) x) := hq
    have hq := hq.symm
    subst hq
    refine lv_if_ne (tgt := 27) hx hb dX7_see_21 (by decide) (fun c_21 => ?_) (fun c_21 => ?_)
    · skip
      have hb_21 : (hin (nI n) x) = true := bI_n0.mp c_21
      obtain ⟨k0, hk0, rfl⟩ := hin_of hb_21 (by omega)
      have hcl : (nI k0).toNatClampNeg = k0 := nI_clamp (by omega)
      have hn2 : 2 ≤ n := by omega
      refine lv_aload_n hx hb dX7_see_27 rfl (lv_at hl 0 rfl) ?_
      refine r_get C h fk7 0 3 rfl (by decide) mf_RX7_35 rfl dX7_see_28 ?_
      refine k_Vi (rest := []) (as := []) (wc := [(os, .inr (6, [.ref s1, .ref s2, .ref s3, .int (nI q)])), (s1, .inl (cI, 6, .inl (ro sh))), (s2, .inl (cI, 6, .inl (ro sr))), (s3, .inl (cZ, 6, .inl tb))]) (wr := [(x0, .inr (7, [.ref g0, .ref oc, .ref on, .ref os, .ref ok, .ref ov, .ref fo, .ref bo, .int ik, .int crd, .int bdn])), (oc, .inr (1, [.ref c5, .ref c6, .int (nI n), .int bar]))]) (isC := [2, 3, 4, 5]) (isR := [0, 1]) (w2 := fun (_ : Unit) => [(x0, .inr (7, [.ref g0, .ref oc, .ref on, .ref os, .ref ok, .ref ov, .ref fo, .ref bo, .int ik, .int crd, .int bdn])), (oc, .inr (1, [.ref c5, .ref c6, .int (nI n), .int bar])), (os, .inr (6, [.ref s1, .ref s2, .ref s3, .int (nI q)])), (s1, .inl (cI, 6, .inl (ro sh))), (s2, .inl (cI, 6, .inl (ro sr))), (s3, .inl (cZ, 6, .inl tb))]) C h (c_X6_isFull l D cI cZ kS vS os s1 s2 s3 q sh sr tb hq6) wv_X6_isFull rfl ⟨rfl, rfl, rfl, rfl, by decide⟩ fk6 2 rfl ml_RX7_171 [0, 1, 2, 3, 4, 5] rfl (fun _ => rfl) ⟨Nat.le_of_ble_eq_true rfl, Nat.le_of_ble_eq_true rfl⟩ ⟨Nat.le_of_ble_eq_true rfl, Nat.le_of_ble_eq_true rfl⟩ (Nat.le_of_ble_eq_true rfl) hl rfl dX7_see_31 (fun r u H locs hq h => ?_)
      have h : HS D A s H locs [(x0, .inr (7, [.ref g0, .ref oc, .ref on, .ref os, .ref ok, .ref ov, .ref fo, .ref bo, .int ik, .int crd, .int bdn])), (oc, .inr (1, [.ref c5, .ref c6, .int (nI n), .int bar])), (os, .inr (6, [.ref s1, .ref s2, .ref s3, .int (nI q)])), (s1, .inl (cI, 6, .inl (ro sh))), (s2, .inl (cI, 6, .inl (ro sr))), (s3, .inl (cZ, 6, .inl tb))] := h
      have hq : r = bI (decide (6 ≤ q)) := hq
      have hq := hq.symm
      subst hq
      refine lv_if_eq (tgt := 40) hx hb dX7_see_34 (by decide) (fun c_34 => ?_) (fun c_34 => ?_)
      · skip
        have hb_34 : (decide (6 ≤ q)) = false := bI_0.mp c_34
        have hq0 : q < 6 := by have := of_decide_eq_false hb_34; omega
        have e6 : decide (q < 6) = true := decide_eq_true hq0
        obtain ⟨y0, hy1, hy2, rfl⟩ := wth_of (lo := 1) (hi := 12) hb_7 (by decide) (by decide)
        have hc0 : (nI y0).toNatClampNeg = y0 := nI_clamp (by omega)
        refine lv_aload_n hx hb dX7_see_40 rfl (lv_at hl 0 rfl) ?_
        refine r_get C h fk7 0 3 rfl (by decide) mf_RX7_35 rfl dX7_see_41 ?_
        refine lv_iload_n hx hb dX7_see_44 rfl (lv_at hl 1 rfl) ?_
        refine lv_iload_n hx hb dX7_see_45 rfl (lv_at hl 2 rfl) ?_
        refine lv_iload_n hx hb dX7_see_46 rfl (lv_at hl 3 rfl) ?_
        refine k_Vi (rest := []) (as := [.int (nI y0), .int (nI k0), .int tv]) (wc := [(os, .inr (6, [.ref s1, .ref s2, .ref s3, .int (nI q)])), (s1, .inl (cI, 6, .inl (ro sh))), (s2, .inl (cI, 6, .inl (ro sr))), (s3, .inl (cZ, 6, .inl tb))]) (wr := [(x0, .inr (7, [.ref g0, .ref oc, .ref on, .ref os, .ref ok, .ref ov, .ref fo, .ref bo, .int ik, .int crd, .int bdn])), (oc, .inr (1, [.ref c5, .ref c6, .int (nI n), .int bar]))]) (isC := [2, 3, 4, 5]) (isR := [0, 1]) (w2 := fun (_ : Unit) => [(x0, .inr (7, [.ref g0, .ref oc, .ref on, .ref os, .ref ok, .ref ov, .ref fo, .ref bo, .int ik, .int crd, .int bdn])), (oc, .inr (1, [.ref c5, .ref c6, .int (nI n), .int bar])), (os, .inr (6, [.ref s1, .ref s2, .ref s3, .int (nI (q + 1))])), (s1, .inl (cI, 6, .inl (ro (un sh q y0)))), (s2, .inl (cI, 6, .inl (ro (un sr q k0)))), (s3, .inl (cZ, 6, .inl (upd tb q tv)))]) C h (c_X6_add l D cI cZ kS vS os s1 s2 s3 q sh sr tb y0 k0 tv hq6 hq0 htv) wv_X6_add rfl ⟨rfl, rfl, rfl, rfl, by decide⟩ fk6 2 rfl ml_RX7_172 [0, 1, 2, 3, 4, 5] rfl (fun _ => rfl) ⟨Nat.le_of_ble_eq_true rfl, Nat.le_of_ble_eq_true rfl⟩ ⟨Nat.le_of_ble_eq_true rfl, Nat.le_of_ble_eq_true rfl⟩ (Nat.le_of_ble_eq_true rfl) hl rfl dX7_see_47 (fun r u H locs hq h => ?_)
        have h : HS D A s H locs [(x0, .inr (7, [.ref g0, .ref oc, .ref on, .ref os, .ref ok, .ref ov, .ref fo, .ref bo, .int ik, .int crd, .int bdn])), (oc, .inr (1, [.ref c5, .ref c6, .int (nI n), .int bar])), (os, .inr (6, [.ref s1, .ref s2, .ref s3, .int (nI (q + 1))])), (s1, .inl (cI, 6, .inl (ro (un sh q y0)))), (s2, .inl (cI, 6, .inl (ro (un sr q k0)))), (s3, .inl (cZ, 6, .inl (upd tb q tv)))] := h
        have hq : r = nI (q + 1) := hq
        have hq := hq.symm
        subst hq
        have h := h.arr 3 (g := ro (bf (sek n q (nI y0) (nI k0)) (un sh q (nI y0).toNatClampNeg) sh)) rfl (fun j _ => by rw [bf_t (sek_t hb_7 hb_21 e6), hc0]) rfl
        have h := h.arr 4 (g := ro (bf (sek n q (nI y0) (nI k0)) (un sr q (nI k0).toNatClampNeg) sr)) rfl (fun j _ => by rw [bf_t (sek_t hb_7 hb_21 e6), hcl]) rfl
        have h := h.arr 5 (g := bf (sek n q (nI y0) (nI k0)) (upd tb q tv) tb) rfl (fun j hj => by rw [bf_t (sek_t hb_7 hb_21 e6)]) rfl
        have ef : (nI (q + 1)) = (nI (bf (sek n q (nI y0) (nI k0)) (q + 1) q)) := by rw [bf_t (sek_t hb_7 hb_21 e6)] <;> rfl
        have h : HS D A s H locs [(x0, .inr (7, [.ref g0, .ref oc, .ref on, .ref os, .ref ok, .ref ov, .ref fo, .ref bo, .int ik, .int crd, .int bdn])), (oc, .inr (1, [.ref c5, .ref c6, .int (nI n), .int bar])), (os, .inr (6, [.ref s1, .ref s2, .ref s3, .int (nI (bf (sek n q (nI y0) (nI k0)) (q + 1) q))])), (s1, .inl (cI, 6, .inl (ro (bf (sek n q (nI y0) (nI k0)) (un sh q (nI y0).toNatClampNeg) sh)))), (s2, .inl (cI, 6, .inl (ro (bf (sek n q (nI y0) (nI k0)) (un sr q (nI k0).toNatClampNeg) sr)))), (s3, .inl (cZ, 6, .inl (bf (sek n q (nI y0) (nI k0)) (upd tb q tv) tb)))] := by rw [← ef]; exact h
        exact hret (r := nI (q + 1)) () dX7_see_50 h (rfl) (by rw [bf_t hb_7, bf_t hb_21, bf_t e6])
      · skip
        have hb_34 : (decide (6 ≤ q)) = true := bI_n0.mp c_34
        have e6 : decide (q < 6) = false := decide_eq_false (fun z => by have := of_decide_eq_true hb_34; omega)
        refine lv_bipush (v := (-104)) hx hb dX7_see_37 (by decide) ?_
        have h := h.arr 3 (g := ro (bf (sek n q y (nI k0)) (un sh q y.toNatClampNeg) sh)) rfl (fun j hj => by rw [bf_f (sek_f3 e6)]) rfl
        have h := h.arr 4 (g := ro (bf (sek n q y (nI k0)) (un sr q (nI k0).toNatClampNeg) sr)) rfl (fun j hj => by rw [bf_f (sek_f3 e6)]) rfl
        have h := h.arr 5 (g := bf (sek n q y (nI k0)) (upd tb q tv) tb) rfl (fun j hj => by rw [bf_f (sek_f3 e6)]) rfl
        have ef : (nI q) = (nI (bf (sek n q y (nI k0)) (q + 1) q)) := by rw [bf_f (sek_f3 e6)] <;> rfl
        have h : HS D A s H locs [(x0, .inr (7, [.ref g0, .ref oc, .ref on, .ref os, .ref ok, .ref ov, .ref fo, .ref bo, .int ik, .int crd, .int bdn])), (oc, .inr (1, [.ref c5, .ref c6, .int (nI n), .int bar])), (os, .inr (6, [.ref s1, .ref s2, .ref s3, .int (nI (bf (sek n q y (nI k0)) (q + 1) q))])), (s1, .inl (cI, 6, .inl (ro (bf (sek n q y (nI k0)) (un sh q y.toNatClampNeg) sh)))), (s2, .inl (cI, 6, .inl (ro (bf (sek n q y (nI k0)) (un sr q (nI k0).toNatClampNeg) sr)))), (s3, .inl (cZ, 6, .inl (bf (sek n q y (nI k0)) (upd tb q tv) tb)))] := by rw [← ef]; exact h
        exact hret (r := (-104)) () dX7_see_39 h (rfl) (by rw [bf_t hb_7, bf_t hb_21, bf_f e6])
    · skip
      have hb_21 : (hin (nI n) x) = false := bI_0.mp c_21
      refine lv_bipush (v := (-101)) hx hb dX7_see_24 (by decide) ?_
      have h := h.arr 3 (g := ro (bf (sek n q y x) (un sh q y.toNatClampNeg) sh)) rfl (fun j hj => by rw [bf_f (sek_f2 hb_21)]) rfl
      have h := h.arr 4 (g := ro (bf (sek n q y x) (un sr q x.toNatClampNeg) sr)) rfl (fun j hj => by rw [bf_f (sek_f2 hb_21)]) rfl
      have h := h.arr 5 (g := bf (sek n q y x) (upd tb q tv) tb) rfl (fun j hj => by rw [bf_f (sek_f2 hb_21)]) rfl
      have ef : (nI q) = (nI (bf (sek n q y x) (q + 1) q)) := by rw [bf_f (sek_f2 hb_21)] <;> rfl
      have h : HS D A s H locs [(x0, .inr (7, [.ref g0, .ref oc, .ref on, .ref os, .ref ok, .ref ov, .ref fo, .ref bo, .int ik, .int crd, .int bdn])), (oc, .inr (1, [.ref c5, .ref c6, .int (nI n), .int bar])), (os, .inr (6, [.ref s1, .ref s2, .ref s3, .int (nI (bf (sek n q y x) (q + 1) q))])), (s1, .inl (cI, 6, .inl (ro (bf (sek n q y x) (un sh q y.toNatClampNeg) sh)))), (s2, .inl (cI, 6, .inl (ro (bf (sek n q y x) (un sr q x.toNatClampNeg) sr)))), (s3, .inl (cZ, 6, .inl (bf (sek n q y x) (upd tb q tv) tb)))] := by rw [← ef]; exact h
      exact hret (r := (-101)) () dX7_see_26 h (rfl) (by rw [bf_t hb_7, bf_f hb_21])
  · skip
    have hb_7 : (wth y 1 12) = false := bI_0.mp c_7
    refine lv_bipush (v := (-102)) hx hb dX7_see_10 (by decide) ?_
    have h := h.arr 3 (g := ro (bf (sek n q y x) (un sh q y.toNatClampNeg) sh)) rfl (fun j hj => by rw [bf_f (sek_f1 hb_7)]) rfl
    have h := h.arr 4 (g := ro (bf (sek n q y x) (un sr q x.toNatClampNeg) sr)) rfl (fun j hj => by rw [bf_f (sek_f1 hb_7)]) rfl
    have h := h.arr 5 (g := bf (sek n q y x) (upd tb q tv) tb) rfl (fun j hj => by rw [bf_f (sek_f1 hb_7)]) rfl
    have ef : (nI q) = (nI (bf (sek n q y x) (q + 1) q)) := by rw [bf_f (sek_f1 hb_7)] <;> rfl
    have h : HS D A s H locs [(x0, .inr (7, [.ref g0, .ref oc, .ref on, .ref os, .ref ok, .ref ov, .ref fo, .ref bo, .int ik, .int crd, .int bdn])), (oc, .inr (1, [.ref c5, .ref c6, .int (nI n), .int bar])), (os, .inr (6, [.ref s1, .ref s2, .ref s3, .int (nI (bf (sek n q y x) (q + 1) q))])), (s1, .inl (cI, 6, .inl (ro (bf (sek n q y x) (un sh q y.toNatClampNeg) sh)))), (s2, .inl (cI, 6, .inl (ro (bf (sek n q y x) (un sr q x.toNatClampNeg) sr)))), (s3, .inl (cZ, 6, .inl (bf (sek n q y x) (upd tb q tv) tb)))] := by rw [← ef]; exact h
    exact hret (r := (-102)) () dX7_see_12 h (rfl) (by rw [bf_f hb_7])

set_option maxHeartbeats 4000000 in
set_option maxRecDepth 100000 in
theorem c_X7_forget (l : Launch) (D : va_G) (cI cZ : ClassId) (kS vS : Nat) (x0 : Nat) (g0 : Nat) (oc : Nat) (on : Nat) (os : Nat) (ok : Nat) (ov : Nat) (fo : Nat) (bo : Nat) (ik : Int32) (crd : Int32) (bdn : Int32) (s1 : Nat) (s2 : Nat) (s3 : Nat) (q : Nat) (sh : Nat → Nat) (sr : Nat → Nat) (tb : Nat → Int32)  : CI l yX7_forget cX7_forget 1 .int D cI cZ kS vS 1 21 0 0 [.ref x0] [(x0, .inr (7, [.ref g0, .ref oc, .ref on, .ref os, .ref ok, .ref ov, .ref fo, .ref bo, .int ik, .int crd, .int bdn])), (os, .inr (6, [.ref s1, .ref s2, .ref s3, .int (nI q)])), (s1, .inl (cI, 6, .inl (ro sh))), (s2, .inl (cI, 6, .inl (ro sr))), (s3, .inl (cZ, 6, .inl tb))] (fun (r : Int32) (_ : Unit) => r = nI q) (fun (_ : Unit) => [(x0, .inr (7, [.ref g0, .ref oc, .ref on, .ref os, .ref ok, .ref ov, .ref fo, .ref bo, .int ik, .int crd, .int bdn])), (os, .inr (6, [.ref s1, .ref s2, .ref s3, .int 0])), (s1, .inl (cI, 6, .inl (ro sh))), (s2, .inl (cI, 6, .inl (ro sr))), (s3, .inl (cZ, 6, .inl tb))]) := by
  refine CI_intro (by decide) (Nat.le_of_ble_eq_true rfl) ?_
  intro p e s m args below meth c A Q ls C h hret hl
  have C : CX p s m args c cX7_forget 1 RX7 D cI cZ kS vS A := C
  have hx := C.1.1
  have hb := C.1.2.1
  have hl : lv_has ls 1 [(0, .ref x0)] := hl
  refine lv_aload_n hx hb dX7_forget_0 rfl (lv_at hl 0 rfl) ?_
  refine r_get C h fk7 0 3 rfl (by decide) mf_RX7_35 rfl dX7_forget_1 ?_
  refine k_Vi (rest := []) (as := []) (wc := [(os, .inr (6, [.ref s1, .ref s2, .ref s3, .int (nI q)])), (s1, .inl (cI, 6, .inl (ro sh))), (s2, .inl (cI, 6, .inl (ro sr))), (s3, .inl (cZ, 6, .inl tb))]) (wr := [(x0, .inr (7, [.ref g0, .ref oc, .ref on, .ref os, .ref ok, .ref ov, .ref fo, .ref bo, .int ik, .int crd, .int bdn]))]) (isC := [1, 2, 3, 4]) (isR := [0]) (w2 := fun (_ : Unit) => [(x0, .inr (7, [.ref g0, .ref oc, .ref on, .ref os, .ref ok, .ref ov, .ref fo, .ref bo, .int ik, .int crd, .int bdn])), (os, .inr (6, [.ref s1, .ref s2, .ref s3, .int 0])), (s1, .inl (cI, 6, .inl (ro sh))), (s2, .inl (cI, 6, .inl (ro sr))), (s3, .inl (cZ, 6, .inl tb))]) C h (c_X6_clear l D cI cZ kS vS os s1 s2 s3 q sh sr tb ) wv_X6_clear rfl ⟨rfl, rfl, rfl, rfl, by decide⟩ fk6 1 rfl ml_RX7_92 [0, 1, 2, 3, 4] rfl (fun _ => rfl) ⟨Nat.le_of_ble_eq_true rfl, Nat.le_of_ble_eq_true rfl⟩ ⟨Nat.le_of_ble_eq_true rfl, Nat.le_of_ble_eq_true rfl⟩ (Nat.le_of_ble_eq_true rfl) hl rfl dX7_forget_4 (fun r u H locs hq h => ?_)
  have h : HS D A s H locs [(x0, .inr (7, [.ref g0, .ref oc, .ref on, .ref os, .ref ok, .ref ov, .ref fo, .ref bo, .int ik, .int crd, .int bdn])), (os, .inr (6, [.ref s1, .ref s2, .ref s3, .int 0])), (s1, .inl (cI, 6, .inl (ro sh))), (s2, .inl (cI, 6, .inl (ro sr))), (s3, .inl (cZ, 6, .inl tb))] := h
  have hq : r = nI q := hq
  have hq := hq.symm
  subst hq
  exact hret (r := nI q) () dX7_forget_7 h (rfl) (rfl)

set_option maxHeartbeats 4000000 in
set_option maxRecDepth 100000 in
theorem c_X7_coast (l : Launch) (D : va_G) (cI cZ : ClassId) (kS vS : Nat) (x0 : Nat) (g0 : Nat) (oc : Nat) (on : Nat) (os : Nat) (ok : Nat) (ov : Nat) (fo : Nat) (bo : Nat) (ik : Int32) (crd : Int32) (bdn : Int32) (g1 : Nat) (ps : Nat) (pg : Nat → Nat) (c5 : Nat) (c6 : Nat) (n : Nat) (bar : Int32) (K : Nat → Int32) (F : Nat → Int32) (n2 : Nat) (n3 : Nat) (n4 : Nat) (hr : Int32) (to : Int32) (w : Nat → Int32) (tk : Nat → Int32) (ρ : Nat → Nat) (s1 : Nat) (s2 : Nat) (s3 : Nat) (q : Nat) (sh : Nat → Nat) (sr : Nat → Nat) (tb : Nat → Int32) (hp24 : ps ≤ 24) (hlt : ∀ j, j < ps → pg j < 127) (hct : ∀ z, cat pg ps z < 127) (hn : n = 0 ∨ (2 ≤ n ∧ n ≤ 5)) : CI l yX7_coast cX7_coast 1 .int D cI cZ kS vS 7 155 0 0 [.ref x0] [(x0, .inr (7, [.ref g0, .ref oc, .ref on, .ref os, .ref ok, .ref ov, .ref fo, .ref bo, .int ik, .int crd, .int bdn])), (g0, .inr (4, [.ref g1, .int (nI ps)])), (g1, .inl (cI, 24, .inl (ro pg))), (oc, .inr (1, [.ref c5, .ref c6, .int (nI n), .int bar])), (c5, .inl (cI, 5, .inl K)), (c6, .inl (cI, 5, .inl F)), (on, .inr (5, [.ref oc, .ref n2, .ref n3, .ref n4, .int hr, .int to])), (n2, .inl (cI, 5, .inl w)), (n3, .inl (cI, 5, .inl tk)), (n4, .inl (cI, 5, .inl (ro ρ))), (os, .inr (6, [.ref s1, .ref s2, .ref s3, .int (nI q)])), (s1, .inl (cI, 6, .inl (ro sh))), (s2, .inl (cI, 6, .inl (ro sr))), (s3, .inl (cZ, 6, .inl tb))] (fun (r : Int32) (_ : Unit) => r = bf (hcb pg ps) (nI (ps / 4)) (-103)) (fun (_ : Unit) => [(x0, .inr (7, [.ref g0, .ref oc, .ref on, .ref os, .ref ok, .ref ov, .ref fo, .ref bo, .int (bf (hcb pg ps) (0) ik), .int (bf (hcb pg ps) (crd + 1) crd), .int bdn])), (g0, .inr (4, [.ref g1, .int (nI (bf (hcb pg ps) (0) ps))])), (g1, .inl (cI, 24, .inl (ro pg))), (oc, .inr (1, [.ref c5, .ref c6, .int (nI (bf (hcb pg ps) ((ps / 4)) n)), .int (bf (hcb pg ps) (nI (pg (ps / 4 * 4)) - 48) bar)])), (c5, .inl (cI, 5, .inl (bf (hcb pg ps) (ffl (fun j => kb (pg (j * 4))) K (ps / 4)) K))), (c6, .inl (cI, 5, .inl (bf (hcb pg ps) (ffl (fun j => nI (pg (j * 4 + 2)) - 48) F (ps / 4)) F))), (on, .inr (5, [.ref oc, .ref n2, .ref n3, .ref n4, .int (bf (hcb pg ps) (0) hr), .int to])), (n2, .inl (cI, 5, .inl (bf (hcb pg ps) (ffl (fun j => nI (pg (j * 4 + 1)) - 48) w (ps / 4)) w))), (n3, .inl (cI, 5, .inl (bf (hcb pg ps) (ffl (fun _ => 0) tk (ps / 4)) tk))), (n4, .inl (cI, 5, .inl (ro (bf (hcb pg ps) (idn (ps / 4) ρ) ρ)))), (os, .inr (6, [.ref s1, .ref s2, .ref s3, .int (nI (bf (hcb pg ps) (0) q))])), (s1, .inl (cI, 6, .inl (ro sh))), (s2, .inl (cI, 6, .inl (ro sr))), (s3, .inl (cZ, 6, .inl tb))]) := by
  refine CI_intro (by decide) (Nat.le_of_ble_eq_true rfl) ?_
  intro p e s m args below meth c A Q ls C h hret hl
  have C : CX p s m args c cX7_coast 1 RX7 D cI cZ kS vS A := C
  have hx := C.1.1
  have hb := C.1.2.1
  have hl : lv_has ls 1 [(0, .ref x0)] := hl
  refine lv_aload_n hx hb dX7_coast_0 rfl (lv_at hl 0 rfl) ?_
  refine r_get C h fk7 0 0 rfl (by decide) mf_RX7_10 rfl dX7_coast_1 ?_
  refine k_Vi (rest := []) (as := []) (wc := [(g0, .inr (4, [.ref g1, .int (nI ps)])), (g1, .inl (cI, 24, .inl (ro pg)))]) (wr := [(x0, .inr (7, [.ref g0, .ref oc, .ref on, .ref os, .ref ok, .ref ov, .ref fo, .ref bo, .int ik, .int crd, .int bdn])), (oc, .inr (1, [.ref c5, .ref c6, .int (nI n), .int bar])), (c5, .inl (cI, 5, .inl K)), (c6, .inl (cI, 5, .inl F)), (on, .inr (5, [.ref oc, .ref n2, .ref n3, .ref n4, .int hr, .int to])), (n2, .inl (cI, 5, .inl w)), (n3, .inl (cI, 5, .inl tk)), (n4, .inl (cI, 5, .inl (ro ρ))), (os, .inr (6, [.ref s1, .ref s2, .ref s3, .int (nI q)])), (s1, .inl (cI, 6, .inl (ro sh))), (s2, .inl (cI, 6, .inl (ro sr))), (s3, .inl (cZ, 6, .inl tb))]) (isC := [1, 2]) (isR := [0, 3, 4, 5, 6, 7, 8, 9, 10, 11, 12, 13]) (w2 := fun (_ : Unit) => [(x0, .inr (7, [.ref g0, .ref oc, .ref on, .ref os, .ref ok, .ref ov, .ref fo, .ref bo, .int ik, .int crd, .int bdn])), (g0, .inr (4, [.ref g1, .int (nI ps)])), (g1, .inl (cI, 24, .inl (ro pg))), (oc, .inr (1, [.ref c5, .ref c6, .int (nI n), .int bar])), (c5, .inl (cI, 5, .inl K)), (c6, .inl (cI, 5, .inl F)), (on, .inr (5, [.ref oc, .ref n2, .ref n3, .ref n4, .int hr, .int to])), (n2, .inl (cI, 5, .inl w)), (n3, .inl (cI, 5, .inl tk)), (n4, .inl (cI, 5, .inl (ro ρ))), (os, .inr (6, [.ref s1, .ref s2, .ref s3, .int (nI q)])), (s1, .inl (cI, 6, .inl (ro sh))), (s2, .inl (cI, 6, .inl (ro sr))), (s3, .inl (cZ, 6, .inl tb))]) C h (c_X4_holdsCoast l D cI cZ kS vS g0 g1 ps pg hp24 hlt hct) wv_X4_holdsCoast rfl ⟨rfl, rfl, rfl, rfl, by decide⟩ fk4 1 rfl ml_RX7_82 [0, 12, 13, 1, 2, 3, 4, 5, 6, 7, 8, 9, 10, 11] rfl (fun _ => rfl) ⟨Nat.le_of_ble_eq_true rfl, Nat.le_of_ble_eq_true rfl⟩ ⟨Nat.le_of_ble_eq_true rfl, Nat.le_of_ble_eq_true rfl⟩ (Nat.le_of_ble_eq_true rfl) hl rfl dX7_coast_4 (fun r u H locs hq h => ?_)
  have h : HS D A s H locs [(x0, .inr (7, [.ref g0, .ref oc, .ref on, .ref os, .ref ok, .ref ov, .ref fo, .ref bo, .int ik, .int crd, .int bdn])), (g0, .inr (4, [.ref g1, .int (nI ps)])), (g1, .inl (cI, 24, .inl (ro pg))), (oc, .inr (1, [.ref c5, .ref c6, .int (nI n), .int bar])), (c5, .inl (cI, 5, .inl K)), (c6, .inl (cI, 5, .inl F)), (on, .inr (5, [.ref oc, .ref n2, .ref n3, .ref n4, .int hr, .int to])), (n2, .inl (cI, 5, .inl w)), (n3, .inl (cI, 5, .inl tk)), (n4, .inl (cI, 5, .inl (ro ρ))), (os, .inr (6, [.ref s1, .ref s2, .ref s3, .int (nI q)])), (s1, .inl (cI, 6, .inl (ro sh))), (s2, .inl (cI, 6, .inl (ro sr))), (s3, .inl (cZ, 6, .inl tb))] := h
  have hq : r = bI (hcb pg ps) := hq
  have hq := hq.symm
  subst hq
  refine lv_if_ne (tgt := 13) hx hb dX7_coast_7 (by decide) (fun c_7 => ?_) (fun c_7 => ?_)
  · skip
    have hb_7 : (hcb pg ps) = true := bI_n0.mp c_7
    obtain ⟨nm, hm2, hm5, hmp⟩ := (coast_n hb_7).2.2.2.2
    have hd2 : 2 ≤ ps / 4 := by omega
    have hd5 : ps / 4 ≤ 5 := by omega
    have hdp : ps = ps / 4 * 4 + 1 := by omega
    refine lv_aload_n hx hb dX7_coast_13 rfl (lv_at hl 0 rfl) ?_
    refine r_get C h fk7 0 1 rfl (by decide) mf_RX7_19 rfl dX7_coast_14 ?_
    refine lv_aload_n hx hb dX7_coast_17 rfl (lv_at hl 0 rfl) ?_
    refine r_get C h fk7 0 0 rfl (by decide) mf_RX7_10 rfl dX7_coast_18 ?_
    refine k_Vv (rest := []) (as := [.ref g0]) (wc := [(oc, .inr (1, [.ref c5, .ref c6, .int (nI n), .int bar])), (c5, .inl (cI, 5, .inl K)), (c6, .inl (cI, 5, .inl F)), (g0, .inr (4, [.ref g1, .int (nI ps)])), (g1, .inl (cI, 24, .inl (ro pg)))]) (wr := [(x0, .inr (7, [.ref g0, .ref oc, .ref on, .ref os, .ref ok, .ref ov, .ref fo, .ref bo, .int ik, .int crd, .int bdn])), (on, .inr (5, [.ref oc, .ref n2, .ref n3, .ref n4, .int hr, .int to])), (n2, .inl (cI, 5, .inl w)), (n3, .inl (cI, 5, .inl tk)), (n4, .inl (cI, 5, .inl (ro ρ))), (os, .inr (6, [.ref s1, .ref s2, .ref s3, .int (nI q)])), (s1, .inl (cI, 6, .inl (ro sh))), (s2, .inl (cI, 6, .inl (ro sr))), (s3, .inl (cZ, 6, .inl tb))]) (isC := [3, 4, 5, 1, 2]) (isR := [0, 6, 7, 8, 9, 10, 11, 12, 13]) (w2 := fun (_ : Unit) => [(x0, .inr (7, [.ref g0, .ref oc, .ref on, .ref os, .ref ok, .ref ov, .ref fo, .ref bo, .int ik, .int crd, .int bdn])), (g0, .inr (4, [.ref g1, .int (nI ps)])), (g1, .inl (cI, 24, .inl (ro pg))), (oc, .inr (1, [.ref c5, .ref c6, .int (nI (ps / 4)), .int (nI (pg ((ps / 4) * 4)) - 48)])), (c5, .inl (cI, 5, .inl (ffl (fun j => kb (pg (j * 4))) K (ps / 4)))), (c6, .inl (cI, 5, .inl (ffl (fun j => nI (pg (j * 4 + 2)) - 48) F (ps / 4)))), (on, .inr (5, [.ref oc, .ref n2, .ref n3, .ref n4, .int hr, .int to])), (n2, .inl (cI, 5, .inl w)), (n3, .inl (cI, 5, .inl tk)), (n4, .inl (cI, 5, .inl (ro ρ))), (os, .inr (6, [.ref s1, .ref s2, .ref s3, .int (nI q)])), (s1, .inl (cI, 6, .inl (ro sh))), (s2, .inl (cI, 6, .inl (ro sr))), (s3, .inl (cZ, 6, .inl tb))]) C h (c_X1_readFrom l D cI cZ kS vS oc c5 c6 (nI n) bar K F (ps / 4) g0 g1 ps pg hp24 hlt hct hd2 hd5 hdp) wv_X1_readFrom rfl ⟨rfl, rfl, rfl, rfl, by decide⟩ fk1 3 rfl ml_RX7_85 [0, 12, 13, 9, 10, 11, 1, 2, 3, 4, 5, 6, 7, 8] rfl (fun _ => rfl) ⟨Nat.le_of_ble_eq_true rfl, Nat.le_of_ble_eq_true rfl⟩ ⟨Nat.le_of_ble_eq_true rfl, Nat.le_of_ble_eq_true rfl⟩ (Nat.le_of_ble_eq_true rfl) hl rfl dX7_coast_21 (fun u H locs hq h => ?_)
    have h : HS D A s H locs [(x0, .inr (7, [.ref g0, .ref oc, .ref on, .ref os, .ref ok, .ref ov, .ref fo, .ref bo, .int ik, .int crd, .int bdn])), (g0, .inr (4, [.ref g1, .int (nI ps)])), (g1, .inl (cI, 24, .inl (ro pg))), (oc, .inr (1, [.ref c5, .ref c6, .int (nI (ps / 4)), .int (nI (pg ((ps / 4) * 4)) - 48)])), (c5, .inl (cI, 5, .inl (ffl (fun j => kb (pg (j * 4))) K (ps / 4)))), (c6, .inl (cI, 5, .inl (ffl (fun j => nI (pg (j * 4 + 2)) - 48) F (ps / 4)))), (on, .inr (5, [.ref oc, .ref n2, .ref n3, .ref n4, .int hr, .int to])), (n2, .inl (cI, 5, .inl w)), (n3, .inl (cI, 5, .inl tk)), (n4, .inl (cI, 5, .inl (ro ρ))), (os, .inr (6, [.ref s1, .ref s2, .ref s3, .int (nI q)])), (s1, .inl (cI, 6, .inl (ro sh))), (s2, .inl (cI, 6, .inl (ro sr))), (s3, .inl (cZ, 6, .inl tb))] := h
    have hq : True := hq
    refine lv_aload_n hx hb dX7_coast_24 rfl (lv_at hl 0 rfl) ?_
    refine r_get C h fk7 0 2 rfl (by decide) mf_RX7_28 rfl dX7_coast_25 ?_
    refine lv_aload_n hx hb dX7_coast_28 rfl (lv_at hl 0 rfl) ?_
    refine r_get C h fk7 0 0 rfl (by decide) mf_RX7_10 rfl dX7_coast_29 ?_
    refine k_Vv (rest := []) (as := [.ref g0]) (wc := [(on, .inr (5, [.ref oc, .ref n2, .ref n3, .ref n4, .int hr, .int to])), (oc, .inr (1, [.ref c5, .ref c6, .int (nI (ps / 4)), .int (nI (pg ((ps / 4) * 4)) - 48)])), (n2, .inl (cI, 5, .inl w)), (n3, .inl (cI, 5, .inl tk)), (n4, .inl (cI, 5, .inl (ro ρ))), (g0, .inr (4, [.ref g1, .int (nI ps)])), (g1, .inl (cI, 24, .inl (ro pg)))]) (wr := [(x0, .inr (7, [.ref g0, .ref oc, .ref on, .ref os, .ref ok, .ref ov, .ref fo, .ref bo, .int ik, .int crd, .int bdn])), (c5, .inl (cI, 5, .inl (ffl (fun j => kb (pg (j * 4))) K (ps / 4)))), (c6, .inl (cI, 5, .inl (ffl (fun j => nI (pg (j * 4 + 2)) - 48) F (ps / 4)))), (os, .inr (6, [.ref s1, .ref s2, .ref s3, .int (nI q)])), (s1, .inl (cI, 6, .inl (ro sh))), (s2, .inl (cI, 6, .inl (ro sr))), (s3, .inl (cZ, 6, .inl tb))]) (isC := [6, 3, 7, 8, 9, 1, 2]) (isR := [0, 4, 5, 10, 11, 12, 13]) (w2 := fun (_ : Unit) => [(x0, .inr (7, [.ref g0, .ref oc, .ref on, .ref os, .ref ok, .ref ov, .ref fo, .ref bo, .int ik, .int crd, .int bdn])), (g0, .inr (4, [.ref g1, .int (nI ps)])), (g1, .inl (cI, 24, .inl (ro pg))), (oc, .inr (1, [.ref c5, .ref c6, .int (nI (ps / 4)), .int (nI (pg ((ps / 4) * 4)) - 48)])), (c5, .inl (cI, 5, .inl (ffl (fun j => kb (pg (j * 4))) K (ps / 4)))), (c6, .inl (cI, 5, .inl (ffl (fun j => nI (pg (j * 4 + 2)) - 48) F (ps / 4)))), (on, .inr (5, [.ref oc, .ref n2, .ref n3, .ref n4, .int 0, .int to])), (n2, .inl (cI, 5, .inl (ffl (fun j => nI (pg (j * 4 + 1)) - 48) w (ps / 4)))), (n3, .inl (cI, 5, .inl (ffl (fun _ => 0) tk (ps / 4)))), (n4, .inl (cI, 5, .inl (ro (idn (ps / 4) ρ)))), (os, .inr (6, [.ref s1, .ref s2, .ref s3, .int (nI q)])), (s1, .inl (cI, 6, .inl (ro sh))), (s2, .inl (cI, 6, .inl (ro sr))), (s3, .inl (cZ, 6, .inl tb))]) C h (c_X5_beginAs l D cI cZ kS vS on oc n2 n3 n4 c5 c6 (ps / 4) (nI (pg ((ps / 4) * 4)) - 48) hr to w tk ρ g0 g1 ps pg hp24 hd2 hd5 hdp) wv_X5_beginAs rfl ⟨rfl, rfl, rfl, rfl, by decide⟩ fk5 6 rfl ml_RX7_89 [0, 12, 13, 8, 1, 2, 7, 9, 10, 11, 3, 4, 5, 6] rfl (fun _ => rfl) ⟨Nat.le_of_ble_eq_true rfl, Nat.le_of_ble_eq_true rfl⟩ ⟨Nat.le_of_ble_eq_true rfl, Nat.le_of_ble_eq_true rfl⟩ (Nat.le_of_ble_eq_true rfl) hl rfl dX7_coast_32 (fun u H locs hq h => ?_)
    have h : HS D A s H locs [(x0, .inr (7, [.ref g0, .ref oc, .ref on, .ref os, .ref ok, .ref ov, .ref fo, .ref bo, .int ik, .int crd, .int bdn])), (g0, .inr (4, [.ref g1, .int (nI ps)])), (g1, .inl (cI, 24, .inl (ro pg))), (oc, .inr (1, [.ref c5, .ref c6, .int (nI (ps / 4)), .int (nI (pg ((ps / 4) * 4)) - 48)])), (c5, .inl (cI, 5, .inl (ffl (fun j => kb (pg (j * 4))) K (ps / 4)))), (c6, .inl (cI, 5, .inl (ffl (fun j => nI (pg (j * 4 + 2)) - 48) F (ps / 4)))), (on, .inr (5, [.ref oc, .ref n2, .ref n3, .ref n4, .int 0, .int to])), (n2, .inl (cI, 5, .inl (ffl (fun j => nI (pg (j * 4 + 1)) - 48) w (ps / 4)))), (n3, .inl (cI, 5, .inl (ffl (fun _ => 0) tk (ps / 4)))), (n4, .inl (cI, 5, .inl (ro (idn (ps / 4) ρ)))), (os, .inr (6, [.ref s1, .ref s2, .ref s3, .int (nI q)])), (s1, .inl (cI, 6, .inl (ro sh))), (s2, .inl (cI, 6, .inl (ro sr))), (s3, .inl (cZ, 6, .inl tb))] := h
    have hq : True := hq
    refine lv_aload_n hx hb dX7_coast_35 rfl (lv_at hl 0 rfl) ?_
    refine r_get C h fk7 0 0 rfl (by decide) mf_RX7_10 rfl dX7_coast_36 ?_
    refine k_Vi (rest := []) (as := []) (wc := [(g0, .inr (4, [.ref g1, .int (nI ps)])), (g1, .inl (cI, 24, .inl (ro pg)))]) (wr := [(x0, .inr (7, [.ref g0, .ref oc, .ref on, .ref os, .ref ok, .ref ov, .ref fo, .ref bo, .int ik, .int crd, .int bdn])), (oc, .inr (1, [.ref c5, .ref c6, .int (nI (ps / 4)), .int (nI (pg ((ps / 4) * 4)) - 48)])), (c5, .inl (cI, 5, .inl (ffl (fun j => kb (pg (j * 4))) K (ps / 4)))), (c6, .inl (cI, 5, .inl (ffl (fun j => nI (pg (j * 4 + 2)) - 48) F (ps / 4)))), (on, .inr (5, [.ref oc, .ref n2, .ref n3, .ref n4, .int 0, .int to])), (n2, .inl (cI, 5, .inl (ffl (fun j => nI (pg (j * 4 + 1)) - 48) w (ps / 4)))), (n3, .inl (cI, 5, .inl (ffl (fun _ => 0) tk (ps / 4)))), (n4, .inl (cI, 5, .inl (ro (idn (ps / 4) ρ)))), (os, .inr (6, [.ref s1, .ref s2, .ref s3, .int (nI q)])), (s1, .inl (cI, 6, .inl (ro sh))), (s2, .inl (cI, 6, .inl (ro sr))), (s3, .inl (cZ, 6, .inl tb))]) (isC := [1, 2]) (isR := [0, 3, 4, 5, 6, 7, 8, 9, 10, 11, 12, 13]) (w2 := fun (_ : Unit) => [(x0, .inr (7, [.ref g0, .ref oc, .ref on, .ref os, .ref ok, .ref ov, .ref fo, .ref bo, .int ik, .int crd, .int bdn])), (g0, .inr (4, [.ref g1, .int 0])), (g1, .inl (cI, 24, .inl (ro pg))), (oc, .inr (1, [.ref c5, .ref c6, .int (nI (ps / 4)), .int (nI (pg ((ps / 4) * 4)) - 48)])), (c5, .inl (cI, 5, .inl (ffl (fun j => kb (pg (j * 4))) K (ps / 4)))), (c6, .inl (cI, 5, .inl (ffl (fun j => nI (pg (j * 4 + 2)) - 48) F (ps / 4)))), (on, .inr (5, [.ref oc, .ref n2, .ref n3, .ref n4, .int 0, .int to])), (n2, .inl (cI, 5, .inl (ffl (fun j => nI (pg (j * 4 + 1)) - 48) w (ps / 4)))), (n3, .inl (cI, 5, .inl (ffl (fun _ => 0) tk (ps / 4)))), (n4, .inl (cI, 5, .inl (ro (idn (ps / 4) ρ)))), (os, .inr (6, [.ref s1, .ref s2, .ref s3, .int (nI q)])), (s1, .inl (cI, 6, .inl (ro sh))), (s2, .inl (cI, 6, .inl (ro sr))), (s3, .inl (cZ, 6, .inl tb))]) C h (c_X4_clear l D cI cZ kS vS g0 g1 ps pg ) wv_X4_clear rfl ⟨rfl, rfl, rfl, rfl, by decide⟩ fk4 1 rfl ml_RX7_75 [0, 12, 13, 1, 2, 3, 4, 5, 6, 7, 8, 9, 10, 11] rfl (fun _ => rfl) ⟨Nat.le_of_ble_eq_true rfl, Nat.le_of_ble_eq_true rfl⟩ ⟨Nat.le_of_ble_eq_true rfl, Nat.le_of_ble_eq_true rfl⟩ (Nat.le_of_ble_eq_true rfl) hl rfl dX7_coast_39 (fun r u H locs hq h => ?_)
    have h : HS D A s H locs [(x0, .inr (7, [.ref g0, .ref oc, .ref on, .ref os, .ref ok, .ref ov, .ref fo, .ref bo, .int ik, .int crd, .int bdn])), (g0, .inr (4, [.ref g1, .int 0])), (g1, .inl (cI, 24, .inl (ro pg))), (oc, .inr (1, [.ref c5, .ref c6, .int (nI (ps / 4)), .int (nI (pg ((ps / 4) * 4)) - 48)])), (c5, .inl (cI, 5, .inl (ffl (fun j => kb (pg (j * 4))) K (ps / 4)))), (c6, .inl (cI, 5, .inl (ffl (fun j => nI (pg (j * 4 + 2)) - 48) F (ps / 4)))), (on, .inr (5, [.ref oc, .ref n2, .ref n3, .ref n4, .int 0, .int to])), (n2, .inl (cI, 5, .inl (ffl (fun j => nI (pg (j * 4 + 1)) - 48) w (ps / 4)))), (n3, .inl (cI, 5, .inl (ffl (fun _ => 0) tk (ps / 4)))), (n4, .inl (cI, 5, .inl (ro (idn (ps / 4) ρ)))), (os, .inr (6, [.ref s1, .ref s2, .ref s3, .int (nI q)])), (s1, .inl (cI, 6, .inl (ro sh))), (s2, .inl (cI, 6, .inl (ro sr))), (s3, .inl (cZ, 6, .inl tb))] := h
    have hq : r = nI ps := hq
    have hq := hq.symm
    subst hq
    refine lv_pop hx hb dX7_coast_42 rfl ?_
    refine lv_aload_n hx hb dX7_coast_43 rfl (lv_at hl 0 rfl) ?_
    refine r_get C h fk7 0 3 rfl (by decide) mf_RX7_35 rfl dX7_coast_44 ?_
    refine k_Vi (rest := []) (as := []) (wc := [(os, .inr (6, [.ref s1, .ref s2, .ref s3, .int (nI q)])), (s1, .inl (cI, 6, .inl (ro sh))), (s2, .inl (cI, 6, .inl (ro sr))), (s3, .inl (cZ, 6, .inl tb))]) (wr := [(x0, .inr (7, [.ref g0, .ref oc, .ref on, .ref os, .ref ok, .ref ov, .ref fo, .ref bo, .int ik, .int crd, .int bdn])), (g0, .inr (4, [.ref g1, .int 0])), (g1, .inl (cI, 24, .inl (ro pg))), (oc, .inr (1, [.ref c5, .ref c6, .int (nI (ps / 4)), .int (nI (pg ((ps / 4) * 4)) - 48)])), (c5, .inl (cI, 5, .inl (ffl (fun j => kb (pg (j * 4))) K (ps / 4)))), (c6, .inl (cI, 5, .inl (ffl (fun j => nI (pg (j * 4 + 2)) - 48) F (ps / 4)))), (on, .inr (5, [.ref oc, .ref n2, .ref n3, .ref n4, .int 0, .int to])), (n2, .inl (cI, 5, .inl (ffl (fun j => nI (pg (j * 4 + 1)) - 48) w (ps / 4)))), (n3, .inl (cI, 5, .inl (ffl (fun _ => 0) tk (ps / 4)))), (n4, .inl (cI, 5, .inl (ro (idn (ps / 4) ρ))))]) (isC := [10, 11, 12, 13]) (isR := [0, 1, 2, 3, 4, 5, 6, 7, 8, 9]) (w2 := fun (_ : Unit) => [(x0, .inr (7, [.ref g0, .ref oc, .ref on, .ref os, .ref ok, .ref ov, .ref fo, .ref bo, .int ik, .int crd, .int bdn])), (g0, .inr (4, [.ref g1, .int 0])), (g1, .inl (cI, 24, .inl (ro pg))), (oc, .inr (1, [.ref c5, .ref c6, .int (nI (ps / 4)), .int (nI (pg ((ps / 4) * 4)) - 48)])), (c5, .inl (cI, 5, .inl (ffl (fun j => kb (pg (j * 4))) K (ps / 4)))), (c6, .inl (cI, 5, .inl (ffl (fun j => nI (pg (j * 4 + 2)) - 48) F (ps / 4)))), (on, .inr (5, [.ref oc, .ref n2, .ref n3, .ref n4, .int 0, .int to])), (n2, .inl (cI, 5, .inl (ffl (fun j => nI (pg (j * 4 + 1)) - 48) w (ps / 4)))), (n3, .inl (cI, 5, .inl (ffl (fun _ => 0) tk (ps / 4)))), (n4, .inl (cI, 5, .inl (ro (idn (ps / 4) ρ)))), (os, .inr (6, [.ref s1, .ref s2, .ref s3, .int 0])), (s1, .inl (cI, 6, .inl (ro sh))), (s2, .inl (cI, 6, .inl (ro sr))), (s3, .inl (cZ, 6, .inl tb))]) C h (c_X6_clear l D cI cZ kS vS os s1 s2 s3 q sh sr tb ) wv_X6_clear rfl ⟨rfl, rfl, rfl, rfl, by decide⟩ fk6 10 rfl ml_RX7_92 [0, 1, 2, 3, 4, 5, 6, 7, 8, 9, 10, 11, 12, 13] rfl (fun _ => rfl) ⟨Nat.le_of_ble_eq_true rfl, Nat.le_of_ble_eq_true rfl⟩ ⟨Nat.le_of_ble_eq_true rfl, Nat.le_of_ble_eq_true rfl⟩ (Nat.le_of_ble_eq_true rfl) hl rfl dX7_coast_47 (fun r u H locs hq h => ?_)
    have h : HS D A s H locs [(x0, .inr (7, [.ref g0, .ref oc, .ref on, .ref os, .ref ok, .ref ov, .ref fo, .ref bo, .int ik, .int crd, .int bdn])), (g0, .inr (4, [.ref g1, .int 0])), (g1, .inl (cI, 24, .inl (ro pg))), (oc, .inr (1, [.ref c5, .ref c6, .int (nI (ps / 4)), .int (nI (pg ((ps / 4) * 4)) - 48)])), (c5, .inl (cI, 5, .inl (ffl (fun j => kb (pg (j * 4))) K (ps / 4)))), (c6, .inl (cI, 5, .inl (ffl (fun j => nI (pg (j * 4 + 2)) - 48) F (ps / 4)))), (on, .inr (5, [.ref oc, .ref n2, .ref n3, .ref n4, .int 0, .int to])), (n2, .inl (cI, 5, .inl (ffl (fun j => nI (pg (j * 4 + 1)) - 48) w (ps / 4)))), (n3, .inl (cI, 5, .inl (ffl (fun _ => 0) tk (ps / 4)))), (n4, .inl (cI, 5, .inl (ro (idn (ps / 4) ρ)))), (os, .inr (6, [.ref s1, .ref s2, .ref s3, .int 0])), (s1, .inl (cI, 6, .inl (ro sh))), (s2, .inl (cI, 6, .inl (ro sr))), (s3, .inl (cZ, 6, .inl tb))] := h
    have hq : r = nI q := hq
    have hq := hq.symm
    subst hq
    refine lv_pop hx hb dX7_coast_50 rfl ?_
    refine lv_aload_n hx hb dX7_coast_51 rfl (lv_at hl 0 rfl) ?_
    refine lv_iconst (v := 0) hx hb dX7_coast_52 (by decide) ?_
    refine r_put C h fk7 0 8 rfl (by decide) mf_RX7_93 rfl (rfl) rfl (Nat.le_of_ble_eq_true rfl) (ws' := [(x0, .inr (7, [.ref g0, .ref oc, .ref on, .ref os, .ref ok, .ref ov, .ref fo, .ref bo, .int 0, .int crd, .int bdn])), (g0, .inr (4, [.ref g1, .int 0])), (g1, .inl (cI, 24, .inl (ro pg))), (oc, .inr (1, [.ref c5, .ref c6, .int (nI (ps / 4)), .int (nI (pg ((ps / 4) * 4)) - 48)])), (c5, .inl (cI, 5, .inl (ffl (fun j => kb (pg (j * 4))) K (ps / 4)))), (c6, .inl (cI, 5, .inl (ffl (fun j => nI (pg (j * 4 + 2)) - 48) F (ps / 4)))), (on, .inr (5, [.ref oc, .ref n2, .ref n3, .ref n4, .int 0, .int to])), (n2, .inl (cI, 5, .inl (ffl (fun j => nI (pg (j * 4 + 1)) - 48) w (ps / 4)))), (n3, .inl (cI, 5, .inl (ffl (fun _ => 0) tk (ps / 4)))), (n4, .inl (cI, 5, .inl (ro (idn (ps / 4) ρ)))), (os, .inr (6, [.ref s1, .ref s2, .ref s3, .int 0])), (s1, .inl (cI, 6, .inl (ro sh))), (s2, .inl (cI, 6, .inl (ro sr))), (s3, .inl (cZ, 6, .inl tb))]) rfl dX7_coast_53 (fun H locs h => ?_)
    refine lv_aload_n hx hb dX7_coast_56 rfl (lv_at hl 0 rfl) ?_
    refine lv_dup hx hb dX7_coast_57 rfl ?_
    refine r_get C h fk7 0 9 rfl (by decide) mf_RX7_97 rfl dX7_coast_58 ?_
    refine lv_iconst (v := 1) hx hb dX7_coast_61 (by decide) ?_
    refine lv_iadd hx hb dX7_coast_62 ?_
    refine r_put C h fk7 0 9 rfl (by decide) mf_RX7_97 rfl (rfl) rfl (Nat.le_of_ble_eq_true rfl) (ws' := [(x0, .inr (7, [.ref g0, .ref oc, .ref on, .ref os, .ref ok, .ref ov, .ref fo, .ref bo, .int 0, .int (crd + 1), .int bdn])), (g0, .inr (4, [.ref g1, .int 0])), (g1, .inl (cI, 24, .inl (ro pg))), (oc, .inr (1, [.ref c5, .ref c6, .int (nI (ps / 4)), .int (nI (pg ((ps / 4) * 4)) - 48)])), (c5, .inl (cI, 5, .inl (ffl (fun j => kb (pg (j * 4))) K (ps / 4)))), (c6, .inl (cI, 5, .inl (ffl (fun j => nI (pg (j * 4 + 2)) - 48) F (ps / 4)))), (on, .inr (5, [.ref oc, .ref n2, .ref n3, .ref n4, .int 0, .int to])), (n2, .inl (cI, 5, .inl (ffl (fun j => nI (pg (j * 4 + 1)) - 48) w (ps / 4)))), (n3, .inl (cI, 5, .inl (ffl (fun _ => 0) tk (ps / 4)))), (n4, .inl (cI, 5, .inl (ro (idn (ps / 4) ρ)))), (os, .inr (6, [.ref s1, .ref s2, .ref s3, .int 0])), (s1, .inl (cI, 6, .inl (ro sh))), (s2, .inl (cI, 6, .inl (ro sr))), (s3, .inl (cZ, 6, .inl tb))]) rfl dX7_coast_63 (fun H locs h => ?_)
    refine lv_aload_n hx hb dX7_coast_66 rfl (lv_at hl 0 rfl) ?_
    refine r_get C h fk7 0 1 rfl (by decide) mf_RX7_19 rfl dX7_coast_67 ?_
    refine r_getN C h fk1 3 2 8 rfl (by decide) rfl rfl dX7_coast_70 ?_
    have h := h.arr 4 (g := bf (hcb pg ps) (ffl (fun j => kb (pg (j * 4))) K (ps / 4)) K) rfl (fun j hj => by rw [bf_t hb_7]) rfl
    have h := h.arr 5 (g := bf (hcb pg ps) (ffl (fun j => nI (pg (j * 4 + 2)) - 48) F (ps / 4)) F) rfl (fun j hj => by rw [bf_t hb_7]) rfl
    have h := h.arr 7 (g := bf (hcb pg ps) (ffl (fun j => nI (pg (j * 4 + 1)) - 48) w (ps / 4)) w) rfl (fun j hj => by rw [bf_t hb_7]) rfl
    have h := h.arr 8 (g := bf (hcb pg ps) (ffl (fun _ => 0) tk (ps / 4)) tk) rfl (fun j hj => by rw [bf_t hb_7]) rfl
    have h := h.arr 9 (g := ro (bf (hcb pg ps) (idn (ps / 4) ρ) ρ)) rfl (fun j hj => by rw [bf_t hb_7]) rfl
    have ef : 0 = (bf (hcb pg ps) (0) ik) := by rw [bf_t hb_7] <;> rfl
    have h : HS D A s H locs [(x0, .inr (7, [.ref g0, .ref oc, .ref on, .ref os, .ref ok, .ref ov, .ref fo, .ref bo, .int (bf (hcb pg ps) (0) ik), .int (crd + 1), .int bdn])), (g0, .inr (4, [.ref g1, .int 0])), (g1, .inl (cI, 24, .inl (ro pg))), (oc, .inr (1, [.ref c5, .ref c6, .int (nI (ps / 4)), .int (nI (pg ((ps / 4) * 4)) - 48)])), (c5, .inl (cI, 5, .inl (bf (hcb pg ps) (ffl (fun j => kb (pg (j * 4))) K (ps / 4)) K))), (c6, .inl (cI, 5, .inl (bf (hcb pg ps) (ffl (fun j => nI (pg (j * 4 + 2)) - 48) F (ps / 4)) F))), (on, .inr (5, [.ref oc, .ref n2, .ref n3, .ref n4, .int 0, .int to])), (n2, .inl (cI, 5, .inl (bf (hcb pg ps) (ffl (fun j => nI (pg (j * 4 + 1)) - 48) w (ps / 4)) w))), (n3, .inl (cI, 5, .inl (bf (hcb pg ps) (ffl (fun _ => 0) tk (ps / 4)) tk))), (n4, .inl (cI, 5, .inl (ro (bf (hcb pg ps) (idn (ps / 4) ρ) ρ)))), (os, .inr (6, [.ref s1, .ref s2, .ref s3, .int 0])), (s1, .inl (cI, 6, .inl (ro sh))), (s2, .inl (cI, 6, .inl (ro sr))), (s3, .inl (cZ, 6, .inl tb))] := by rw [← ef]; exact h
    have ef : (crd + 1) = (bf (hcb pg ps) (crd + 1) crd) := by rw [bf_t hb_7] <;> rfl
    have h : HS D A s H locs [(x0, .inr (7, [.ref g0, .ref oc, .ref on, .ref os, .ref ok, .ref ov, .ref fo, .ref bo, .int (bf (hcb pg ps) (0) ik), .int (bf (hcb pg ps) (crd + 1) crd), .int bdn])), (g0, .inr (4, [.ref g1, .int 0])), (g1, .inl (cI, 24, .inl (ro pg))), (oc, .inr (1, [.ref c5, .ref c6, .int (nI (ps / 4)), .int (nI (pg ((ps / 4) * 4)) - 48)])), (c5, .inl (cI, 5, .inl (bf (hcb pg ps) (ffl (fun j => kb (pg (j * 4))) K (ps / 4)) K))), (c6, .inl (cI, 5, .inl (bf (hcb pg ps) (ffl (fun j => nI (pg (j * 4 + 2)) - 48) F (ps / 4)) F))), (on, .inr (5, [.ref oc, .ref n2, .ref n3, .ref n4, .int 0, .int to])), (n2, .inl (cI, 5, .inl (bf (hcb pg ps) (ffl (fun j => nI (pg (j * 4 + 1)) - 48) w (ps / 4)) w))), (n3, .inl (cI, 5, .inl (bf (hcb pg ps) (ffl (fun _ => 0) tk (ps / 4)) tk))), (n4, .inl (cI, 5, .inl (ro (bf (hcb pg ps) (idn (ps / 4) ρ) ρ)))), (os, .inr (6, [.ref s1, .ref s2, .ref s3, .int 0])), (s1, .inl (cI, 6, .inl (ro sh))), (s2, .inl (cI, 6, .inl (ro sr))), (s3, .inl (cZ, 6, .inl tb))] := by rw [← ef]; exact h
    have ef : 0 = (nI (bf (hcb pg ps) (0) ps)) := by rw [bf_t hb_7] <;> rfl
    have h : HS D A s H locs [(x0, .inr (7, [.ref g0, .ref oc, .ref on, .ref os, .ref ok, .ref ov, .ref fo, .ref bo, .int (bf (hcb pg ps) (0) ik), .int (bf (hcb pg ps) (crd + 1) crd), .int bdn])), (g0, .inr (4, [.ref g1, .int (nI (bf (hcb pg ps) (0) ps))])), (g1, .inl (cI, 24, .inl (ro pg))), (oc, .inr (1, [.ref c5, .ref c6, .int (nI (ps / 4)), .int (nI (pg ((ps / 4) * 4)) - 48)])), (c5, .inl (cI, 5, .inl (bf (hcb pg ps) (ffl (fun j => kb (pg (j * 4))) K (ps / 4)) K))), (c6, .inl (cI, 5, .inl (bf (hcb pg ps) (ffl (fun j => nI (pg (j * 4 + 2)) - 48) F (ps / 4)) F))), (on, .inr (5, [.ref oc, .ref n2, .ref n3, .ref n4, .int 0, .int to])), (n2, .inl (cI, 5, .inl (bf (hcb pg ps) (ffl (fun j => nI (pg (j * 4 + 1)) - 48) w (ps / 4)) w))), (n3, .inl (cI, 5, .inl (bf (hcb pg ps) (ffl (fun _ => 0) tk (ps / 4)) tk))), (n4, .inl (cI, 5, .inl (ro (bf (hcb pg ps) (idn (ps / 4) ρ) ρ)))), (os, .inr (6, [.ref s1, .ref s2, .ref s3, .int 0])), (s1, .inl (cI, 6, .inl (ro sh))), (s2, .inl (cI, 6, .inl (ro sr))), (s3, .inl (cZ, 6, .inl tb))] := by rw [← ef]; exact h
    have ef : (nI (ps / 4)) = (nI (bf (hcb pg ps) ((ps / 4)) n)) := by rw [bf_t hb_7] <;> rfl
    have h : HS D A s H locs [(x0, .inr (7, [.ref g0, .ref oc, .ref on, .ref os, .ref ok, .ref ov, .ref fo, .ref bo, .int (bf (hcb pg ps) (0) ik), .int (bf (hcb pg ps) (crd + 1) crd), .int bdn])), (g0, .inr (4, [.ref g1, .int (nI (bf (hcb pg ps) (0) ps))])), (g1, .inl (cI, 24, .inl (ro pg))), (oc, .inr (1, [.ref c5, .ref c6, .int (nI (bf (hcb pg ps) ((ps / 4)) n)), .int (nI (pg ((ps / 4) * 4)) - 48)])), (c5, .inl (cI, 5, .inl (bf (hcb pg ps) (ffl (fun j => kb (pg (j * 4))) K (ps / 4)) K))), (c6, .inl (cI, 5, .inl (bf (hcb pg ps) (ffl (fun j => nI (pg (j * 4 + 2)) - 48) F (ps / 4)) F))), (on, .inr (5, [.ref oc, .ref n2, .ref n3, .ref n4, .int 0, .int to])), (n2, .inl (cI, 5, .inl (bf (hcb pg ps) (ffl (fun j => nI (pg (j * 4 + 1)) - 48) w (ps / 4)) w))), (n3, .inl (cI, 5, .inl (bf (hcb pg ps) (ffl (fun _ => 0) tk (ps / 4)) tk))), (n4, .inl (cI, 5, .inl (ro (bf (hcb pg ps) (idn (ps / 4) ρ) ρ)))), (os, .inr (6, [.ref s1, .ref s2, .ref s3, .int 0])), (s1, .inl (cI, 6, .inl (ro sh))), (s2, .inl (cI, 6, .inl (ro sr))), (s3, .inl (cZ, 6, .inl tb))] := by rw [← ef]; exact h
    have ef : (nI (pg ((ps / 4) * 4)) - 48) = (bf (hcb pg ps) (nI (pg (ps / 4 * 4)) - 48) bar) := by rw [bf_t hb_7] <;> rfl
    have h : HS D A s H locs [(x0, .inr (7, [.ref g0, .ref oc, .ref on, .ref os, .ref ok, .ref ov, .ref fo, .ref bo, .int (bf (hcb pg ps) (0) ik), .int (bf (hcb pg ps) (crd + 1) crd), .int bdn])), (g0, .inr (4, [.ref g1, .int (nI (bf (hcb pg ps) (0) ps))])), (g1, .inl (cI, 24, .inl (ro pg))), (oc, .inr (1, [.ref c5, .ref c6, .int (nI (bf (hcb pg ps) ((ps / 4)) n)), .int (bf (hcb pg ps) (nI (pg (ps / 4 * 4)) - 48) bar)])), (c5, .inl (cI, 5, .inl (bf (hcb pg ps) (ffl (fun j => kb (pg (j * 4))) K (ps / 4)) K))), (c6, .inl (cI, 5, .inl (bf (hcb pg ps) (ffl (fun j => nI (pg (j * 4 + 2)) - 48) F (ps / 4)) F))), (on, .inr (5, [.ref oc, .ref n2, .ref n3, .ref n4, .int 0, .int to])), (n2, .inl (cI, 5, .inl (bf (hcb pg ps) (ffl (fun j => nI (pg (j * 4 + 1)) - 48) w (ps / 4)) w))), (n3, .inl (cI, 5, .inl (bf (hcb pg ps) (ffl (fun _ => 0) tk (ps / 4)) tk))), (n4, .inl (cI, 5, .inl (ro (bf (hcb pg ps) (idn (ps / 4) ρ) ρ)))), (os, .inr (6, [.ref s1, .ref s2, .ref s3, .int 0])), (s1, .inl (cI, 6, .inl (ro sh))), (s2, .inl (cI, 6, .inl (ro sr))), (s3, .inl (cZ, 6, .inl tb))] := by rw [← ef]; exact h
    have ef : 0 = (bf (hcb pg ps) (0) hr) := by rw [bf_t hb_7] <;> rfl
    have h : HS D A s H locs [(x0, .inr (7, [.ref g0, .ref oc, .ref on, .ref os, .ref ok, .ref ov, .ref fo, .ref bo, .int (bf (hcb pg ps) (0) ik), .int (bf (hcb pg ps) (crd + 1) crd), .int bdn])), (g0, .inr (4, [.ref g1, .int (nI (bf (hcb pg ps) (0) ps))])), (g1, .inl (cI, 24, .inl (ro pg))), (oc, .inr (1, [.ref c5, .ref c6, .int (nI (bf (hcb pg ps) ((ps / 4)) n)), .int (bf (hcb pg ps) (nI (pg (ps / 4 * 4)) - 48) bar)])), (c5, .inl (cI, 5, .inl (bf (hcb pg ps) (ffl (fun j => kb (pg (j * 4))) K (ps / 4)) K))), (c6, .inl (cI, 5, .inl (bf (hcb pg ps) (ffl (fun j => nI (pg (j * 4 + 2)) - 48) F (ps / 4)) F))), (on, .inr (5, [.ref oc, .ref n2, .ref n3, .ref n4, .int (bf (hcb pg ps) (0) hr), .int to])), (n2, .inl (cI, 5, .inl (bf (hcb pg ps) (ffl (fun j => nI (pg (j * 4 + 1)) - 48) w (ps / 4)) w))), (n3, .inl (cI, 5, .inl (bf (hcb pg ps) (ffl (fun _ => 0) tk (ps / 4)) tk))), (n4, .inl (cI, 5, .inl (ro (bf (hcb pg ps) (idn (ps / 4) ρ) ρ)))), (os, .inr (6, [.ref s1, .ref s2, .ref s3, .int 0])), (s1, .inl (cI, 6, .inl (ro sh))), (s2, .inl (cI, 6, .inl (ro sr))), (s3, .inl (cZ, 6, .inl tb))] := by rw [← ef]; exact h
    have ef : 0 = (nI (bf (hcb pg ps) (0) q)) := by rw [bf_t hb_7] <;> rfl
    have h : HS D A s H locs [(x0, .inr (7, [.ref g0, .ref oc, .ref on, .ref os, .ref ok, .ref ov, .ref fo, .ref bo, .int (bf (hcb pg ps) (0) ik), .int (bf (hcb pg ps) (crd + 1) crd), .int bdn])), (g0, .inr (4, [.ref g1, .int (nI (bf (hcb pg ps) (0) ps))])), (g1, .inl (cI, 24, .inl (ro pg))), (oc, .inr (1, [.ref c5, .ref c6, .int (nI (bf (hcb pg ps) ((ps / 4)) n)), .int (bf (hcb pg ps) (nI (pg (ps / 4 * 4)) - 48) bar)])), (c5, .inl (cI, 5, .inl (bf (hcb pg ps) (ffl (fun j => kb (pg (j * 4))) K (ps / 4)) K))), (c6, .inl (cI, 5, .inl (bf (hcb pg ps) (ffl (fun j => nI (pg (j * 4 + 2)) - 48) F (ps / 4)) F))), (on, .inr (5, [.ref oc, .ref n2, .ref n3, .ref n4, .int (bf (hcb pg ps) (0) hr), .int to])), (n2, .inl (cI, 5, .inl (bf (hcb pg ps) (ffl (fun j => nI (pg (j * 4 + 1)) - 48) w (ps / 4)) w))), (n3, .inl (cI, 5, .inl (bf (hcb pg ps) (ffl (fun _ => 0) tk (ps / 4)) tk))), (n4, .inl (cI, 5, .inl (ro (bf (hcb pg ps) (idn (ps / 4) ρ) ρ)))), (os, .inr (6, [.ref s1, .ref s2, .ref s3, .int (nI (bf (hcb pg ps) (0) q))])), (s1, .inl (cI, 6, .inl (ro sh))), (s2, .inl (cI, 6, .inl (ro sr))), (s3, .inl (cZ, 6, .inl tb))] := by rw [← ef]; exact h
    exact hret (r := nI (ps / 4)) () dX7_coast_73 h (rfl) (by rw [bf_t hb_7])
  · skip
    have hb_7 : (hcb pg ps) = false := bI_0.mp c_7
    refine lv_bipush (v := (-103)) hx hb dX7_coast_10 (by decide) ?_
    have h := h.arr 4 (g := bf (hcb pg ps) (ffl (fun j => kb (pg (j * 4))) K (ps / 4)) K) rfl (fun j hj => by rw [bf_f hb_7]) rfl
    have h := h.arr 5 (g := bf (hcb pg ps) (ffl (fun j => nI (pg (j * 4 + 2)) - 48) F (ps / 4)) F) rfl (fun j hj => by rw [bf_f hb_7]) rfl
    have h := h.arr 7 (g := bf (hcb pg ps) (ffl (fun j => nI (pg (j * 4 + 1)) - 48) w (ps / 4)) w) rfl (fun j hj => by rw [bf_f hb_7]) rfl
    have h := h.arr 8 (g := bf (hcb pg ps) (ffl (fun _ => 0) tk (ps / 4)) tk) rfl (fun j hj => by rw [bf_f hb_7]) rfl
    have h := h.arr 9 (g := ro (bf (hcb pg ps) (idn (ps / 4) ρ) ρ)) rfl (fun j hj => by rw [bf_f hb_7]) rfl
    have ef : ik = (bf (hcb pg ps) (0) ik) := by rw [bf_f hb_7] <;> rfl
    have h : HS D A s H locs [(x0, .inr (7, [.ref g0, .ref oc, .ref on, .ref os, .ref ok, .ref ov, .ref fo, .ref bo, .int (bf (hcb pg ps) (0) ik), .int crd, .int bdn])), (g0, .inr (4, [.ref g1, .int (nI ps)])), (g1, .inl (cI, 24, .inl (ro pg))), (oc, .inr (1, [.ref c5, .ref c6, .int (nI n), .int bar])), (c5, .inl (cI, 5, .inl (bf (hcb pg ps) (ffl (fun j => kb (pg (j * 4))) K (ps / 4)) K))), (c6, .inl (cI, 5, .inl (bf (hcb pg ps) (ffl (fun j => nI (pg (j * 4 + 2)) - 48) F (ps / 4)) F))), (on, .inr (5, [.ref oc, .ref n2, .ref n3, .ref n4, .int hr, .int to])), (n2, .inl (cI, 5, .inl (bf (hcb pg ps) (ffl (fun j => nI (pg (j * 4 + 1)) - 48) w (ps / 4)) w))), (n3, .inl (cI, 5, .inl (bf (hcb pg ps) (ffl (fun _ => 0) tk (ps / 4)) tk))), (n4, .inl (cI, 5, .inl (ro (bf (hcb pg ps) (idn (ps / 4) ρ) ρ)))), (os, .inr (6, [.ref s1, .ref s2, .ref s3, .int (nI q)])), (s1, .inl (cI, 6, .inl (ro sh))), (s2, .inl (cI, 6, .inl (ro sr))), (s3, .inl (cZ, 6, .inl tb))] := by rw [← ef]; exact h
    have ef : crd = (bf (hcb pg ps) (crd + 1) crd) := by rw [bf_f hb_7] <;> rfl
    have h : HS D A s H locs [(x0, .inr (7, [.ref g0, .ref oc, .ref on, .ref os, .ref ok, .ref ov, .ref fo, .ref bo, .int (bf (hcb pg ps) (0) ik), .int (bf (hcb pg ps) (crd + 1) crd), .int bdn])), (g0, .inr (4, [.ref g1, .int (nI ps)])), (g1, .inl (cI, 24, .inl (ro pg))), (oc, .inr (1, [.ref c5, .ref c6, .int (nI n), .int bar])), (c5, .inl (cI, 5, .inl (bf (hcb pg ps) (ffl (fun j => kb (pg (j * 4))) K (ps / 4)) K))), (c6, .inl (cI, 5, .inl (bf (hcb pg ps) (ffl (fun j => nI (pg (j * 4 + 2)) - 48) F (ps / 4)) F))), (on, .inr (5, [.ref oc, .ref n2, .ref n3, .ref n4, .int hr, .int to])), (n2, .inl (cI, 5, .inl (bf (hcb pg ps) (ffl (fun j => nI (pg (j * 4 + 1)) - 48) w (ps / 4)) w))), (n3, .inl (cI, 5, .inl (bf (hcb pg ps) (ffl (fun _ => 0) tk (ps / 4)) tk))), (n4, .inl (cI, 5, .inl (ro (bf (hcb pg ps) (idn (ps / 4) ρ) ρ)))), (os, .inr (6, [.ref s1, .ref s2, .ref s3, .int (nI q)])), (s1, .inl (cI, 6, .inl (ro sh))), (s2, .inl (cI, 6, .inl (ro sr))), (s3, .inl (cZ, 6, .inl tb))] := by rw [← ef]; exact h
    have ef : (nI ps) = (nI (bf (hcb pg ps) (0) ps)) := by rw [bf_f hb_7] <;> rfl
    have h : HS D A s H locs [(x0, .inr (7, [.ref g0, .ref oc, .ref on, .ref os, .ref ok, .ref ov, .ref fo, .ref bo, .int (bf (hcb pg ps) (0) ik), .int (bf (hcb pg ps) (crd + 1) crd), .int bdn])), (g0, .inr (4, [.ref g1, .int (nI (bf (hcb pg ps) (0) ps))])), (g1, .inl (cI, 24, .inl (ro pg))), (oc, .inr (1, [.ref c5, .ref c6, .int (nI n), .int bar])), (c5, .inl (cI, 5, .inl (bf (hcb pg ps) (ffl (fun j => kb (pg (j * 4))) K (ps / 4)) K))), (c6, .inl (cI, 5, .inl (bf (hcb pg ps) (ffl (fun j => nI (pg (j * 4 + 2)) - 48) F (ps / 4)) F))), (on, .inr (5, [.ref oc, .ref n2, .ref n3, .ref n4, .int hr, .int to])), (n2, .inl (cI, 5, .inl (bf (hcb pg ps) (ffl (fun j => nI (pg (j * 4 + 1)) - 48) w (ps / 4)) w))), (n3, .inl (cI, 5, .inl (bf (hcb pg ps) (ffl (fun _ => 0) tk (ps / 4)) tk))), (n4, .inl (cI, 5, .inl (ro (bf (hcb pg ps) (idn (ps / 4) ρ) ρ)))), (os, .inr (6, [.ref s1, .ref s2, .ref s3, .int (nI q)])), (s1, .inl (cI, 6, .inl (ro sh))), (s2, .inl (cI, 6, .inl (ro sr))), (s3, .inl (cZ, 6, .inl tb))] := by rw [← ef]; exact h
    have ef : (nI n) = (nI (bf (hcb pg ps) ((ps / 4)) n)) := by rw [bf_f hb_7] <;> rfl
    have h : HS D A s H locs [(x0, .inr (7, [.ref g0, .ref oc, .ref on, .ref os, .ref ok, .ref ov, .ref fo, .ref bo, .int (bf (hcb pg ps) (0) ik), .int (bf (hcb pg ps) (crd + 1) crd), .int bdn])), (g0, .inr (4, [.ref g1, .int (nI (bf (hcb pg ps) (0) ps))])), (g1, .inl (cI, 24, .inl (ro pg))), (oc, .inr (1, [.ref c5, .ref c6, .int (nI (bf (hcb pg ps) ((ps / 4)) n)), .int bar])), (c5, .inl (cI, 5, .inl (bf (hcb pg ps) (ffl (fun j => kb (pg (j * 4))) K (ps / 4)) K))), (c6, .inl (cI, 5, .inl (bf (hcb pg ps) (ffl (fun j => nI (pg (j * 4 + 2)) - 48) F (ps / 4)) F))), (on, .inr (5, [.ref oc, .ref n2, .ref n3, .ref n4, .int hr, .int to])), (n2, .inl (cI, 5, .inl (bf (hcb pg ps) (ffl (fun j => nI (pg (j * 4 + 1)) - 48) w (ps / 4)) w))), (n3, .inl (cI, 5, .inl (bf (hcb pg ps) (ffl (fun _ => 0) tk (ps / 4)) tk))), (n4, .inl (cI, 5, .inl (ro (bf (hcb pg ps) (idn (ps / 4) ρ) ρ)))), (os, .inr (6, [.ref s1, .ref s2, .ref s3, .int (nI q)])), (s1, .inl (cI, 6, .inl (ro sh))), (s2, .inl (cI, 6, .inl (ro sr))), (s3, .inl (cZ, 6, .inl tb))] := by rw [← ef]; exact h
    have ef : bar = (bf (hcb pg ps) (nI (pg (ps / 4 * 4)) - 48) bar) := by rw [bf_f hb_7] <;> rfl
    have h : HS D A s H locs [(x0, .inr (7, [.ref g0, .ref oc, .ref on, .ref os, .ref ok, .ref ov, .ref fo, .ref bo, .int (bf (hcb pg ps) (0) ik), .int (bf (hcb pg ps) (crd + 1) crd), .int bdn])), (g0, .inr (4, [.ref g1, .int (nI (bf (hcb pg ps) (0) ps))])), (g1, .inl (cI, 24, .inl (ro pg))), (oc, .inr (1, [.ref c5, .ref c6, .int (nI (bf (hcb pg ps) ((ps / 4)) n)), .int (bf (hcb pg ps) (nI (pg (ps / 4 * 4)) - 48) bar)])), (c5, .inl (cI, 5, .inl (bf (hcb pg ps) (ffl (fun j => kb (pg (j * 4))) K (ps / 4)) K))), (c6, .inl (cI, 5, .inl (bf (hcb pg ps) (ffl (fun j => nI (pg (j * 4 + 2)) - 48) F (ps / 4)) F))), (on, .inr (5, [.ref oc, .ref n2, .ref n3, .ref n4, .int hr, .int to])), (n2, .inl (cI, 5, .inl (bf (hcb pg ps) (ffl (fun j => nI (pg (j * 4 + 1)) - 48) w (ps / 4)) w))), (n3, .inl (cI, 5, .inl (bf (hcb pg ps) (ffl (fun _ => 0) tk (ps / 4)) tk))), (n4, .inl (cI, 5, .inl (ro (bf (hcb pg ps) (idn (ps / 4) ρ) ρ)))), (os, .inr (6, [.ref s1, .ref s2, .ref s3, .int (nI q)])), (s1, .inl (cI, 6, .inl (ro sh))), (s2, .inl (cI, 6, .inl (ro sr))), (s3, .inl (cZ, 6, .inl tb))] := by rw [← ef]; exact h
    have ef : hr = (bf (hcb pg ps) (0) hr) := by rw [bf_f hb_7] <;> rfl
    have h : HS D A s H locs [(x0, .inr (7, [.ref g0, .ref oc, .ref on, .ref os, .ref ok, .ref ov, .ref fo, .ref bo, .int (bf (hcb pg ps) (0) ik), .int (bf (hcb pg ps) (crd + 1) crd), .int bdn])), (g0, .inr (4, [.ref g1, .int (nI (bf (hcb pg ps) (0) ps))])), (g1, .inl (cI, 24, .inl (ro pg))), (oc, .inr (1, [.ref c5, .ref c6, .int (nI (bf (hcb pg ps) ((ps / 4)) n)), .int (bf (hcb pg ps) (nI (pg (ps / 4 * 4)) - 48) bar)])), (c5, .inl (cI, 5, .inl (bf (hcb pg ps) (ffl (fun j => kb (pg (j * 4))) K (ps / 4)) K))), (c6, .inl (cI, 5, .inl (bf (hcb pg ps) (ffl (fun j => nI (pg (j * 4 + 2)) - 48) F (ps / 4)) F))), (on, .inr (5, [.ref oc, .ref n2, .ref n3, .ref n4, .int (bf (hcb pg ps) (0) hr), .int to])), (n2, .inl (cI, 5, .inl (bf (hcb pg ps) (ffl (fun j => nI (pg (j * 4 + 1)) - 48) w (ps / 4)) w))), (n3, .inl (cI, 5, .inl (bf (hcb pg ps) (ffl (fun _ => 0) tk (ps / 4)) tk))), (n4, .inl (cI, 5, .inl (ro (bf (hcb pg ps) (idn (ps / 4) ρ) ρ)))), (os, .inr (6, [.ref s1, .ref s2, .ref s3, .int (nI q)])), (s1, .inl (cI, 6, .inl (ro sh))), (s2, .inl (cI, 6, .inl (ro sr))), (s3, .inl (cZ, 6, .inl tb))] := by rw [← ef]; exact h
    have ef : (nI q) = (nI (bf (hcb pg ps) (0) q)) := by rw [bf_f hb_7] <;> rfl
    have h : HS D A s H locs [(x0, .inr (7, [.ref g0, .ref oc, .ref on, .ref os, .ref ok, .ref ov, .ref fo, .ref bo, .int (bf (hcb pg ps) (0) ik), .int (bf (hcb pg ps) (crd + 1) crd), .int bdn])), (g0, .inr (4, [.ref g1, .int (nI (bf (hcb pg ps) (0) ps))])), (g1, .inl (cI, 24, .inl (ro pg))), (oc, .inr (1, [.ref c5, .ref c6, .int (nI (bf (hcb pg ps) ((ps / 4)) n)), .int (bf (hcb pg ps) (nI (pg (ps / 4 * 4)) - 48) bar)])), (c5, .inl (cI, 5, .inl (bf (hcb pg ps) (ffl (fun j => kb (pg (j * 4))) K (ps / 4)) K))), (c6, .inl (cI, 5, .inl (bf (hcb pg ps) (ffl (fun j => nI (pg (j * 4 + 2)) - 48) F (ps / 4)) F))), (on, .inr (5, [.ref oc, .ref n2, .ref n3, .ref n4, .int (bf (hcb pg ps) (0) hr), .int to])), (n2, .inl (cI, 5, .inl (bf (hcb pg ps) (ffl (fun j => nI (pg (j * 4 + 1)) - 48) w (ps / 4)) w))), (n3, .inl (cI, 5, .inl (bf (hcb pg ps) (ffl (fun _ => 0) tk (ps / 4)) tk))), (n4, .inl (cI, 5, .inl (ro (bf (hcb pg ps) (idn (ps / 4) ρ) ρ)))), (os, .inr (6, [.ref s1, .ref s2, .ref s3, .int (nI (bf (hcb pg ps) (0) q))])), (s1, .inl (cI, 6, .inl (ro sh))), (s2, .inl (cI, 6, .inl (ro sr))), (s3, .inl (cZ, 6, .inl tb))] := by rw [← ef]; exact h
    exact hret (r := (-103)) () dX7_coast_12 h (rfl) (by rw [bf_f hb_7])

set_option maxHeartbeats 4000000 in
set_option maxRecDepth 100000 in
theorem c_X7_image (l : Launch) (D : va_G) (cI cZ : ClassId) (kS vS : Nat) (x0 : Nat) (g0 : Nat) (oc : Nat) (on : Nat) (os : Nat) (ok : Nat) (ov : Nat) (fo : Nat) (bo : Nat) (ik : Int32) (crd : Int32) (bdn : Int32) (c5 : Nat) (c6 : Nat) (n : Nat) (bar : Int32) (n2 : Nat) (n3 : Nat) (n4 : Nat) (hr : Int32) (to : Int32) (w : Nat → Int32) (tk : Nat → Int32) (ρ : Nat → Nat) (s1 : Nat) (s2 : Nat) (s3 : Nat) (q : Nat) (sh : Nat → Nat) (sr : Nat → Nat) (tb : Nat → Int32) (k2 : Nat) (k3 : Nat) (k4 : Nat) (hrk : Int32) (tok : Int32) (wk : Nat → Int32) (tkk : Nat → Int32) (ρk : Nat → Nat) (v1 : Nat) (v2 : Nat) (v3 : Nat) (qk : Nat) (shk : Nat → Nat) (srk : Nat → Nat) (tbk : Nat → Int32) (hn : n = 0 ∨ (2 ≤ n ∧ n ≤ 5)) (htb : ∀ j, j < 6 → tb j = 0 ∨ tb j = 1) : CI l yX7_image cX7_image 1 .int D cI cZ kS vS 2 39 0 0 [.ref x0] [(x0, .inr (7, [.ref g0, .ref oc, .ref on, .ref os, .ref ok, .ref ov, .ref fo, .ref bo, .int ik, .int crd, .int bdn])), (oc, .inr (1, [.ref c5, .ref c6, .int (nI n), .int bar])), (on, .inr (5, [.ref oc, .ref n2, .ref n3, .ref n4, .int hr, .int to])), (n2, .inl (cI, 5, .inl w)), (n3, .inl (cI, 5, .inl tk)), (n4, .inl (cI, 5, .inl (ro ρ))), (os, .inr (6, [.ref s1, .ref s2, .ref s3, .int (nI q)])), (s1, .inl (cI, 6, .inl (ro sh))), (s2, .inl (cI, 6, .inl (ro sr))), (s3, .inl (cZ, 6, .inl tb)), (ok, .inr (5, [.ref oc, .ref k2, .ref k3, .ref k4, .int hrk, .int tok])), (k2, .inl (cI, 5, .inl wk)), (k3, .inl (cI, 5, .inl tkk)), (k4, .inl (cI, 5, .inl (ro ρk))), (ov, .inr (6, [.ref v1, .ref v2, .ref v3, .int (nI qk)])), (v1, .inl (cI, 6, .inl (ro shk))), (v2, .inl (cI, 6, .inl (ro srk))), (v3, .inl (cZ, 6, .inl tbk))] (fun (r : Int32) (_ : Unit) => r = bf (!decide (n = 0)) hr (-103)) (fun (_ : Unit) => [(x0, .inr (7, [.ref g0, .ref oc, .ref on, .ref os, .ref ok, .ref ov, .ref fo, .ref bo, .int (bf (!decide (n = 0)) 1 ik), .int crd, .int bdn])), (oc, .inr (1, [.ref c5, .ref c6, .int (nI n), .int bar])), (on, .inr (5, [.ref oc, .ref n2, .ref n3, .ref n4, .int hr, .int to])), (n2, .inl (cI, 5, .inl w)), (n3, .inl (cI, 5, .inl tk)), (n4, .inl (cI, 5, .inl (ro ρ))), (os, .inr (6, [.ref s1, .ref s2, .ref s3, .int (nI q)])), (s1, .inl (cI, 6, .inl (ro sh))), (s2, .inl (cI, 6, .inl (ro sr))), (s3, .inl (cZ, 6, .inl tb)), (ok, .inr (5, [.ref oc, .ref k2, .ref k3, .ref k4, .int (bf (!decide (n = 0)) hr hrk), .int tok])), (k2, .inl (cI, 5, .inl (bf (!decide (n = 0)) w wk))), (k3, .inl (cI, 5, .inl (bf (!decide (n = 0)) tk tkk))), (k4, .inl (cI, 5, .inl (ro (bf (!decide (n = 0)) ρ ρk)))), (ov, .inr (6, [.ref v1, .ref v2, .ref v3, .int (nI (bf (!decide (n = 0)) q qk))])), (v1, .inl (cI, 6, .inl (ro (bf (!decide (n = 0)) sh shk)))), (v2, .inl (cI, 6, .inl (ro (bf (!decide (n = 0)) sr srk)))), (v3, .inl (cZ, 6, .inl (bf (!decide (n = 0)) tb tbk)))]) := by
  refine CI_intro (by decide) (Nat.le_of_ble_eq_true rfl) ?_
  intro p e s m args below meth c A Q ls C h hret hl
  have C : CX p s m args c cX7_image 1 RX7 D cI cZ kS vS A := C
  have hx := C.1.1
  have hb := C.1.2.1
  have hl : lv_has ls 1 [(0, .ref x0)] := hl
  have hn5 : n ≤ 5 := by omega
  refine lv_aload_n hx hb dX7_image_0 rfl (lv_at hl 0 rfl) ?_
  refine r_get C h fk7 0 1 rfl (by decide) mf_RX7_19 rfl dX7_image_1 ?_
  refine k_Vi (rest := []) (as := []) (wc := [(oc, .inr (1, [.ref c5, .ref c6, .int (nI n), .int bar]))]) (wr := [(x0, .inr (7, [.ref g0, .ref oc, .ref on, .ref os, .ref ok, .ref ov, .ref fo, .ref bo, .int ik, .int crd, .int bdn])), (on, .inr (5, [.ref oc, .ref n2, .ref n3, .ref n4, .int hr, .int to])), (n2, .inl (cI, 5, .inl w)), (n3, .inl (cI, 5, .inl tk)), (n4, .inl (cI, 5, .inl (ro ρ))), (os, .inr (6, [.ref s1, .ref s2, .ref s3, .int (nI q)])), (s1, .inl (cI, 6, .inl (ro sh))), (s2, .inl (cI, 6, .inl (ro sr))), (s3, .inl (cZ, 6, .inl tb)), (ok, .inr (5, [.ref oc, .ref k2, .ref k3, .ref k4, .int hrk, .int tok])), (k2, .inl (cI, 5, .inl wk)), (k3, .inl (cI, 5, .inl tkk)), (k4, .inl (cI, 5, .inl (ro ρk))), (ov, .inr (6, [.ref v1, .ref v2, .ref v3, .int (nI qk)])), (v1, .inl (cI, 6, .inl (ro shk))), (v2, .inl (cI, 6, .inl (ro srk))), (v3, .inl (cZ, 6, .inl tbk))]) (isC := [1]) (isR := [0, 2, 3, 4, 5, 6, 7, 8, 9, 10, 11, 12, 13, 14, 15, 16, 17]) (w2 := fun (_ : Unit) => [(x0, .inr (7, [.ref g0, .ref oc, .ref on, .ref os, .ref ok, .ref ov, .ref fo, .ref bo, .int ik, .int crd, .int bdn])), (oc, .inr (1, [.ref c5, .ref c6, .int (nI n), .int bar])), (on, .inr (5, [.ref oc, .ref n2, .ref n3, .ref n4, .int hr, .int to])), (n2, .inl (cI, 5, .inl w)), (n3, .inl (cI, 5, .inl tk)), (n4, .inl (cI, 5, .inl (ro ρ))), (os, .inr (6, [.ref s1, .ref s2, .ref s3, .int (nI q)])), (s1, .inl (cI, 6, .inl (ro sh))), (s2, .inl (cI, 6, .inl (ro sr))), (s3, .inl (cZ, 6, .inl tb)), (ok, .inr (5, [.ref oc, .ref k2, .ref k3, .ref k4, .int hrk, .int tok])), (k2, .inl (cI, 5, .inl wk)), (k3, .inl (cI, 5, .inl tkk)), (k4, .inl (cI, 5, .inl (ro ρk))), (ov, .inr (6, [.ref v1, .ref v2, .ref v3, .int (nI qk)])), (v1, .inl (cI, 6, .inl (ro shk))), (v2, .inl (cI, 6, .inl (ro srk))), (v3, .inl (cZ, 6, .inl tbk))]) C h (c_X1_isRead l D cI cZ kS vS oc c5 c6 (nI n) bar ) wv_X1_isRead rfl ⟨rfl, rfl, rfl, rfl, by decide⟩ fk1 1 rfl ml_RX7_140 [0, 17, 1, 2, 3, 4, 5, 6, 7, 8, 9, 10, 11, 12, 13, 14, 15, 16] rfl (fun _ => rfl) ⟨Nat.le_of_ble_eq_true rfl, Nat.le_of_ble_eq_true rfl⟩ ⟨Nat.le_of_ble_eq_true rfl, Nat.le_of_ble_eq_true rfl⟩ (Nat.le_of_ble_eq_true rfl) hl rfl dX7_image_4 (fun r u H locs hq h => ?_)
  have h : HS D A s H locs [(x0, .inr (7, [.ref g0, .ref oc, .ref on, .ref os, .ref ok, .ref ov, .ref fo, .ref bo, .int ik, .int crd, .int bdn])), (oc, .inr (1, [.ref c5, .ref c6, .int (nI n), .int bar])), (on, .inr (5, [.ref oc, .ref n2, .ref n3, .ref n4, .int hr, .int to])), (n2, .inl (cI, 5, .inl w)), (n3, .inl (cI, 5, .inl tk)), (n4, .inl (cI, 5, .inl (ro ρ))), (os, .inr (6, [.ref s1, .ref s2, .ref s3, .int (nI q)])), (s1, .inl (cI, 6, .inl (ro sh))), (s2, .inl (cI, 6, .inl (ro sr))), (s3, .inl (cZ, 6, .inl tb)), (ok, .inr (5, [.ref oc, .ref k2, .ref k3, .ref k4, .int hrk, .int tok])), (k2, .inl (cI, 5, .inl wk)), (k3, .inl (cI, 5, .inl tkk)), (k4, .inl (cI, 5, .inl (ro ρk))), (ov, .inr (6, [.ref v1, .ref v2, .ref v3, .int (nI qk)])), (v1, .inl (cI, 6, .inl (ro shk))), (v2, .inl (cI, 6, .inl (ro srk))), (v3, .inl (cZ, 6, .inl tbk))] := h
  have hq : r = bI (!decide ((nI n) ≤ 0)) := hq
  have hq := hq.symm
  subst hq
  refine r_top (y := bI (!decide (n = 0))) (congrArg bI (isr hn5)) ?_
  refine lv_if_ne (tgt := 13) hx hb dX7_image_7 (by decide) (fun c_7 => ?_) (fun c_7 => ?_)
  · skip
    have hb_7 : (!decide (n = 0)) = true := bI_n0.mp c_7
    refine lv_aload_n hx hb dX7_image_13 rfl (lv_at hl 0 rfl) ?_
    refine r_get C h fk7 0 4 rfl (by decide) mf_RX7_39 rfl dX7_image_14 ?_
    refine lv_aload_n hx hb dX7_image_17 rfl (lv_at hl 0 rfl) ?_
    refine r_get C h fk7 0 2 rfl (by decide) mf_RX7_28 rfl dX7_image_18 ?_
    refine k_Vv (rest := []) (as := [.ref on]) (wc := [(ok, .inr (5, [.ref oc, .ref k2, .ref k3, .ref k4, .int hrk, .int tok])), (k2, .inl (cI, 5, .inl wk)), (k3, .inl (cI, 5, .inl tkk)), (k4, .inl (cI, 5, .inl (ro ρk))), (on, .inr (5, [.ref oc, .ref n2, .ref n3, .ref n4, .int hr, .int to])), (n2, .inl (cI, 5, .inl w)), (n3, .inl (cI, 5, .inl tk)), (n4, .inl (cI, 5, .inl (ro ρ)))]) (wr := [(x0, .inr (7, [.ref g0, .ref oc, .ref on, .ref os, .ref ok, .ref ov, .ref fo, .ref bo, .int ik, .int crd, .int bdn])), (oc, .inr (1, [.ref c5, .ref c6, .int (nI n), .int bar])), (os, .inr (6, [.ref s1, .ref s2, .ref s3, .int (nI q)])), (s1, .inl (cI, 6, .inl (ro sh))), (s2, .inl (cI, 6, .inl (ro sr))), (s3, .inl (cZ, 6, .inl tb)), (ov, .inr (6, [.ref v1, .ref v2, .ref v3, .int (nI qk)])), (v1, .inl (cI, 6, .inl (ro shk))), (v2, .inl (cI, 6, .inl (ro srk))), (v3, .inl (cZ, 6, .inl tbk))]) (isC := [10, 11, 12, 13, 2, 3, 4, 5]) (isR := [0, 1, 6, 7, 8, 9, 14, 15, 16, 17]) (w2 := fun (_ : Unit) => [(x0, .inr (7, [.ref g0, .ref oc, .ref on, .ref os, .ref ok, .ref ov, .ref fo, .ref bo, .int ik, .int crd, .int bdn])), (oc, .inr (1, [.ref c5, .ref c6, .int (nI n), .int bar])), (on, .inr (5, [.ref oc, .ref n2, .ref n3, .ref n4, .int hr, .int to])), (n2, .inl (cI, 5, .inl w)), (n3, .inl (cI, 5, .inl tk)), (n4, .inl (cI, 5, .inl (ro ρ))), (os, .inr (6, [.ref s1, .ref s2, .ref s3, .int (nI q)])), (s1, .inl (cI, 6, .inl (ro sh))), (s2, .inl (cI, 6, .inl (ro sr))), (s3, .inl (cZ, 6, .inl tb)), (ok, .inr (5, [.ref oc, .ref k2, .ref k3, .ref k4, .int hr, .int tok])), (k2, .inl (cI, 5, .inl w)), (k3, .inl (cI, 5, .inl tk)), (k4, .inl (cI, 5, .inl (ro ρ))), (ov, .inr (6, [.ref v1, .ref v2, .ref v3, .int (nI qk)])), (v1, .inl (cI, 6, .inl (ro shk))), (v2, .inl (cI, 6, .inl (ro srk))), (v3, .inl (cZ, 6, .inl tbk))]) C h (c_X5_copyFrom l D cI cZ kS vS ok oc k2 k3 k4 on oc n2 n3 n4 hrk tok hr to wk tkk (ro ρk) w tk (ro ρ) ) wv_X5_copyFrom rfl ⟨rfl, rfl, rfl, rfl, by decide⟩ fk5 10 rfl ml_RX7_194 [0, 1, 14, 15, 16, 17, 2, 3, 4, 5, 10, 11, 12, 13, 6, 7, 8, 9] rfl (fun _ => rfl) ⟨Nat.le_of_ble_eq_true rfl, Nat.le_of_ble_eq_true rfl⟩ ⟨Nat.le_of_ble_eq_true rfl, Nat.le_of_ble_eq_true rfl⟩ (Nat.le_of_ble_eq_true rfl) hl rfl dX7_image_21 (fun u H locs hq h => ?_)
    have h : HS D A s H locs [(x0, .inr (7, [.ref g0, .ref oc, .ref on, .ref os, .ref ok, .ref ov, .ref fo, .ref bo, .int ik, .int crd, .int bdn])), (oc, .inr (1, [.ref c5, .ref c6, .int (nI n), .int bar])), (on, .inr (5, [.ref oc, .ref n2, .ref n3, .ref n4, .int hr, .int to])), (n2, .inl (cI, 5, .inl w)), (n3, .inl (cI, 5, .inl tk)), (n4, .inl (cI, 5, .inl (ro ρ))), (os, .inr (6, [.ref s1, .ref s2, .ref s3, .int (nI q)])), (s1, .inl (cI, 6, .inl (ro sh))), (s2, .inl (cI, 6, .inl (ro sr))), (s3, .inl (cZ, 6, .inl tb)), (ok, .inr (5, [.ref oc, .ref k2, .ref k3, .ref k4, .int hr, .int tok])), (k2, .inl (cI, 5, .inl w)), (k3, .inl (cI, 5, .inl tk)), (k4, .inl (cI, 5, .inl (ro ρ))), (ov, .inr (6, [.ref v1, .ref v2, .ref v3, .int (nI qk)])), (v1, .inl (cI, 6, .inl (ro shk))), (v2, .inl (cI, 6, .inl (ro srk))), (v3, .inl (cZ, 6, .inl tbk))] := h
    have hq : True := hq
    refine lv_aload_n hx hb dX7_image_24 rfl (lv_at hl 0 rfl) ?_
    refine r_get C h fk7 0 5 rfl (by decide) mf_RX7_42 rfl dX7_image_25 ?_
    refine lv_aload_n hx hb dX7_image_28 rfl (lv_at hl 0 rfl) ?_
    refine r_get C h fk7 0 3 rfl (by decide) mf_RX7_35 rfl dX7_image_29 ?_
    refine k_Vv (rest := []) (as := [.ref os]) (wc := [(ov, .inr (6, [.ref v1, .ref v2, .ref v3, .int (nI qk)])), (v1, .inl (cI, 6, .inl (ro shk))), (v2, .inl (cI, 6, .inl (ro srk))), (v3, .inl (cZ, 6, .inl tbk)), (os, .inr (6, [.ref s1, .ref s2, .ref s3, .int (nI q)])), (s1, .inl (cI, 6, .inl (ro sh))), (s2, .inl (cI, 6, .inl (ro sr))), (s3, .inl (cZ, 6, .inl tb))]) (wr := [(x0, .inr (7, [.ref g0, .ref oc, .ref on, .ref os, .ref ok, .ref ov, .ref fo, .ref bo, .int ik, .int crd, .int bdn])), (oc, .inr (1, [.ref c5, .ref c6, .int (nI n), .int bar])), (on, .inr (5, [.ref oc, .ref n2, .ref n3, .ref n4, .int hr, .int to])), (n2, .inl (cI, 5, .inl w)), (n3, .inl (cI, 5, .inl tk)), (n4, .inl (cI, 5, .inl (ro ρ))), (ok, .inr (5, [.ref oc, .ref k2, .ref k3, .ref k4, .int hr, .int tok])), (k2, .inl (cI, 5, .inl w)), (k3, .inl (cI, 5, .inl tk)), (k4, .inl (cI, 5, .inl (ro ρ)))]) (isC := [14, 15, 16, 17, 6, 7, 8, 9]) (isR := [0, 1, 2, 3, 4, 5, 10, 11, 12, 13]) (w2 := fun (_ : Unit) => [(x0, .inr (7, [.ref g0, .ref oc, .ref on, .ref os, .ref ok, .ref ov, .ref fo, .ref bo, .int ik, .int crd, .int bdn])), (oc, .inr (1, [.ref c5, .ref c6, .int (nI n), .int bar])), (on, .inr (5, [.ref oc, .ref n2, .ref n3, .ref n4, .int hr, .int to])), (n2, .inl (cI, 5, .inl w)), (n3, .inl (cI, 5, .inl tk)), (n4, .inl (cI, 5, .inl (ro ρ))), (os, .inr (6, [.ref s1, .ref s2, .ref s3, .int (nI q)])), (s1, .inl (cI, 6, .inl (ro sh))), (s2, .inl (cI, 6, .inl (ro sr))), (s3, .inl (cZ, 6, .inl tb)), (ok, .inr (5, [.ref oc, .ref k2, .ref k3, .ref k4, .int hr, .int tok])), (k2, .inl (cI, 5, .inl w)), (k3, .inl (cI, 5, .inl tk)), (k4, .inl (cI, 5, .inl (ro ρ))), (ov, .inr (6, [.ref v1, .ref v2, .ref v3, .int (nI q)])), (v1, .inl (cI, 6, .inl (ro sh))), (v2, .inl (cI, 6, .inl (ro sr))), (v3, .inl (cZ, 6, .inl tb))]) C h (c_X6_copyFrom l D cI cZ kS vS ov v1 v2 v3 os s1 s2 s3 (nI qk) (nI q) (ro shk) (ro srk) tbk sh sr tb htb) wv_X6_copyFrom rfl ⟨rfl, rfl, rfl, rfl, by decide⟩ fk6 14 rfl ml_RX7_198 [0, 1, 2, 3, 4, 5, 14, 15, 16, 17, 6, 7, 8, 9, 10, 11, 12, 13] rfl (fun _ => rfl) ⟨Nat.le_of_ble_eq_true rfl, Nat.le_of_ble_eq_true rfl⟩ ⟨Nat.le_of_ble_eq_true rfl, Nat.le_of_ble_eq_true rfl⟩ (Nat.le_of_ble_eq_true rfl) hl rfl dX7_image_32 (fun u H locs hq h => ?_)
    have h : HS D A s H locs [(x0, .inr (7, [.ref g0, .ref oc, .ref on, .ref os, .ref ok, .ref ov, .ref fo, .ref bo, .int ik, .int crd, .int bdn])), (oc, .inr (1, [.ref c5, .ref c6, .int (nI n), .int bar])), (on, .inr (5, [.ref oc, .ref n2, .ref n3, .ref n4, .int hr, .int to])), (n2, .inl (cI, 5, .inl w)), (n3, .inl (cI, 5, .inl tk)), (n4, .inl (cI, 5, .inl (ro ρ))), (os, .inr (6, [.ref s1, .ref s2, .ref s3, .int (nI q)])), (s1, .inl (cI, 6, .inl (ro sh))), (s2, .inl (cI, 6, .inl (ro sr))), (s3, .inl (cZ, 6, .inl tb)), (ok, .inr (5, [.ref oc, .ref k2, .ref k3, .ref k4, .int hr, .int tok])), (k2, .inl (cI, 5, .inl w)), (k3, .inl (cI, 5, .inl tk)), (k4, .inl (cI, 5, .inl (ro ρ))), (ov, .inr (6, [.ref v1, .ref v2, .ref v3, .int (nI q)])), (v1, .inl (cI, 6, .inl (ro sh))), (v2, .inl (cI, 6, .inl (ro sr))), (v3, .inl (cZ, 6, .inl tb))] := h
    have hq : True := hq
    refine lv_aload_n hx hb dX7_image_35 rfl (lv_at hl 0 rfl) ?_
    refine lv_iconst (v := 1) hx hb dX7_image_36 (by decide) ?_
    refine r_put C h fk7 0 8 rfl (by decide) mf_RX7_93 rfl (rfl) rfl (Nat.le_of_ble_eq_true rfl) (ws' := [(x0, .inr (7, [.ref g0, .ref oc, .ref on, .ref os, .ref ok, .ref ov, .ref fo, .ref bo, .int 1, .int crd, .int bdn])), (oc, .inr (1, [.ref c5, .ref c6, .int (nI n), .int bar])), (on, .inr (5, [.ref oc, .ref n2, .ref n3, .ref n4, .int hr, .int to])), (n2, .inl (cI, 5, .inl w)), (n3, .inl (cI, 5, .inl tk)), (n4, .inl (cI, 5, .inl (ro ρ))), (os, .inr (6, [.ref s1, .ref s2, .ref s3, .int (nI q)])), (s1, .inl (cI, 6, .inl (ro sh))), (s2, .inl (cI, 6, .inl (ro sr))), (s3, .inl (cZ, 6, .inl tb)), (ok, .inr (5, [.ref oc, .ref k2, .ref k3, .ref k4, .int hr, .int tok])), (k2, .inl (cI, 5, .inl w)), (k3, .inl (cI, 5, .inl tk)), (k4, .inl (cI, 5, .inl (ro ρ))), (ov, .inr (6, [.ref v1, .ref v2, .ref v3, .int (nI q)])), (v1, .inl (cI, 6, .inl (ro sh))), (v2, .inl (cI, 6, .inl (ro sr))), (v3, .inl (cZ, 6, .inl tb))]) rfl dX7_image_37 (fun H locs h => ?_)
    refine lv_aload_n hx hb dX7_image_40 rfl (lv_at hl 0 rfl) ?_
    refine r_get C h fk7 0 2 rfl (by decide) mf_RX7_28 rfl dX7_image_41 ?_
    refine r_getN C h fk5 2 4 17 rfl (by decide) rfl rfl dX7_image_44 ?_
    have h := h.arr 11 (g := bf (!decide (n = 0)) w wk) rfl (fun j hj => by rw [bf_t hb_7]) rfl
    have h := h.arr 12 (g := bf (!decide (n = 0)) tk tkk) rfl (fun j hj => by rw [bf_t hb_7]) rfl
    have h := h.arr 13 (g := ro (bf (!decide (n = 0)) ρ ρk)) rfl (fun j hj => by rw [bf_t hb_7]) rfl
    have h := h.arr 15 (g := ro (bf (!decide (n = 0)) sh shk)) rfl (fun j hj => by rw [bf_t hb_7]) rfl
    have h := h.arr 16 (g := ro (bf (!decide (n = 0)) sr srk)) rfl (fun j hj => by rw [bf_t hb_7]) rfl
    have h := h.arr 17 (g := bf (!decide (n = 0)) tb tbk) rfl (fun j hj => by rw [bf_t hb_7]) rfl
    have ef : 1 = (bf (!decide (n = 0)) 1 ik) := by rw [bf_t hb_7] <;> rfl
    have h : HS D A s H locs [(x0, .inr (7, [.ref g0, .ref oc, .ref on, .ref os, .ref ok, .ref ov, .ref fo, .ref bo, .int (bf (!decide (n = 0)) 1 ik), .int crd, .int bdn])), (oc, .inr (1, [.ref c5, .ref c6, .int (nI n), .int bar])), (on, .inr (5, [.ref oc, .ref n2, .ref n3, .ref n4, .int hr, .int to])), (n2, .inl (cI, 5, .inl w)), (n3, .inl (cI, 5, .inl tk)), (n4, .inl (cI, 5, .inl (ro ρ))), (os, .inr (6, [.ref s1, .ref s2, .ref s3, .int (nI q)])), (s1, .inl (cI, 6, .inl (ro sh))), (s2, .inl (cI, 6, .inl (ro sr))), (s3, .inl (cZ, 6, .inl tb)), (ok, .inr (5, [.ref oc, .ref k2, .ref k3, .ref k4, .int hr, .int tok])), (k2, .inl (cI, 5, .inl (bf (!decide (n = 0)) w wk))), (k3, .inl (cI, 5, .inl (bf (!decide (n = 0)) tk tkk))), (k4, .inl (cI, 5, .inl (ro (bf (!decide (n = 0)) ρ ρk)))), (ov, .inr (6, [.ref v1, .ref v2, .ref v3, .int (nI q)])), (v1, .inl (cI, 6, .inl (ro (bf (!decide (n = 0)) sh shk)))), (v2, .inl (cI, 6, .inl (ro (bf (!decide (n = 0)) sr srk)))), (v3, .inl (cZ, 6, .inl (bf (!decide (n = 0)) tb tbk)))] := by rw [← ef]; exact h
    have ef : hr = (bf (!decide (n = 0)) hr hrk) := by rw [bf_t hb_7] <;> rfl
    have h : HS D A s H locs [(x0, .inr (7, [.ref g0, .ref oc, .ref on, .ref os, .ref ok, .ref ov, .ref fo, .ref bo, .int (bf (!decide (n = 0)) 1 ik), .int crd, .int bdn])), (oc, .inr (1, [.ref c5, .ref c6, .int (nI n), .int bar])), (on, .inr (5, [.ref oc, .ref n2, .ref n3, .ref n4, .int hr, .int to])), (n2, .inl (cI, 5, .inl w)), (n3, .inl (cI, 5, .inl tk)), (n4, .inl (cI, 5, .inl (ro ρ))), (os, .inr (6, [.ref s1, .ref s2, .ref s3, .int (nI q)])), (s1, .inl (cI, 6, .inl (ro sh))), (s2, .inl (cI, 6, .inl (ro sr))), (s3, .inl (cZ, 6, .inl tb)), (ok, .inr (5, [.ref oc, .ref k2, .ref k3, .ref k4, .int (bf (!decide (n = 0)) hr hrk), .int tok])), (k2, .inl (cI, 5, .inl (bf (!decide (n = 0)) w wk))), (k3, .inl (cI, 5, .inl (bf (!decide (n = 0)) tk tkk))), (k4, .inl (cI, 5, .inl (ro (bf (!decide (n = 0)) ρ ρk)))), (ov, .inr (6, [.ref v1, .ref v2, .ref v3, .int (nI q)])), (v1, .inl (cI, 6, .inl (ro (bf (!decide (n = 0)) sh shk)))), (v2, .inl (cI, 6, .inl (ro (bf (!decide (n = 0)) sr srk)))), (v3, .inl (cZ, 6, .inl (bf (!decide (n = 0)) tb tbk)))] := by rw [← ef]; exact h
    have ef : (nI q) = (nI (bf (!decide (n = 0)) q qk)) := by rw [bf_t hb_7] <;> rfl
    have h : HS D A s H locs [(x0, .inr (7, [.ref g0, .ref oc, .ref on, .ref os, .ref ok, .ref ov, .ref fo, .ref bo, .int (bf (!decide (n = 0)) 1 ik), .int crd, .int bdn])), (oc, .inr (1, [.ref c5, .ref c6, .int (nI n), .int bar])), (on, .inr (5, [.ref oc, .ref n2, .ref n3, .ref n4, .int hr, .int to])), (n2, .inl (cI, 5, .inl w)), (n3, .inl (cI, 5, .inl tk)), (n4, .inl (cI, 5, .inl (ro ρ))), (os, .inr (6, [.ref s1, .ref s2, .ref s3, .int (nI q)])), (s1, .inl (cI, 6, .inl (ro sh))), (s2, .inl (cI, 6, .inl (ro sr))), (s3, .inl (cZ, 6, .inl tb)), (ok, .inr (5, [.ref oc, .ref k2, .ref k3, .ref k4, .int (bf (!decide (n = 0)) hr hrk), .int tok])), (k2, .inl (cI, 5, .inl (bf (!decide (n = 0)) w wk))), (k3, .inl (cI, 5, .inl (bf (!decide (n = 0)) tk tkk))), (k4, .inl (cI, 5, .inl (ro (bf (!decide (n = 0)) ρ ρk)))), (ov, .inr (6, [.ref v1, .ref v2, .ref v3, .int (nI (bf (!decide (n = 0)) q qk))])), (v1, .inl (cI, 6, .inl (ro (bf (!decide (n = 0)) sh shk)))), (v2, .inl (cI, 6, .inl (ro (bf (!decide (n = 0)) sr srk)))), (v3, .inl (cZ, 6, .inl (bf (!decide (n = 0)) tb tbk)))] := by rw [← ef]; exact h
    exact hret (r := hr) () dX7_image_47 h (rfl) (by rw [bf_t hb_7])
  · skip
    have hb_7 : (!decide (n = 0)) = false := bI_0.mp c_7
    refine lv_bipush (v := (-103)) hx hb dX7_image_10 (by decide) ?_
    have h := h.arr 11 (g := bf (!decide (n = 0)) w wk) rfl (fun j hj => by rw [bf_f hb_7]) rfl
    have h := h.arr 12 (g := bf (!decide (n = 0)) tk tkk) rfl (fun j hj => by rw [bf_f hb_7]) rfl
    have h := h.arr 13 (g := ro (bf (!decide (n = 0)) ρ ρk)) rfl (fun j hj => by rw [bf_f hb_7]) rfl
    have h := h.arr 15 (g := ro (bf (!decide (n = 0)) sh shk)) rfl (fun j hj => by rw [bf_f hb_7]) rfl
    have h := h.arr 16 (g := ro (bf (!decide (n = 0)) sr srk)) rfl (fun j hj => by rw [bf_f hb_7]) rfl
    have h := h.arr 17 (g := bf (!decide (n = 0)) tb tbk) rfl (fun j hj => by rw [bf_f hb_7]) rfl
    have ef : ik = (bf (!decide (n = 0)) 1 ik) := by rw [bf_f hb_7] <;> rfl
    have h : HS D A s H locs [(x0, .inr (7, [.ref g0, .ref oc, .ref on, .ref os, .ref ok, .ref ov, .ref fo, .ref bo, .int (bf (!decide (n = 0)) 1 ik), .int crd, .int bdn])), (oc, .inr (1, [.ref c5, .ref c6, .int (nI n), .int bar])), (on, .inr (5, [.ref oc, .ref n2, .ref n3, .ref n4, .int hr, .int to])), (n2, .inl (cI, 5, .inl w)), (n3, .inl (cI, 5, .inl tk)), (n4, .inl (cI, 5, .inl (ro ρ))), (os, .inr (6, [.ref s1, .ref s2, .ref s3, .int (nI q)])), (s1, .inl (cI, 6, .inl (ro sh))), (s2, .inl (cI, 6, .inl (ro sr))), (s3, .inl (cZ, 6, .inl tb)), (ok, .inr (5, [.ref oc, .ref k2, .ref k3, .ref k4, .int hrk, .int tok])), (k2, .inl (cI, 5, .inl (bf (!decide (n = 0)) w wk))), (k3, .inl (cI, 5, .inl (bf (!decide (n = 0)) tk tkk))), (k4, .inl (cI, 5, .inl (ro (bf (!decide (n = 0)) ρ ρk)))), (ov, .inr (6, [.ref v1, .ref v2, .ref v3, .int (nI qk)])), (v1, .inl (cI, 6, .inl (ro (bf (!decide (n = 0)) sh shk)))), (v2, .inl (cI, 6, .inl (ro (bf (!decide (n = 0)) sr srk)))), (v3, .inl (cZ, 6, .inl (bf (!decide (n = 0)) tb tbk)))] := by rw [← ef]; exact h
    have ef : hrk = (bf (!decide (n = 0)) hr hrk) := by rw [bf_f hb_7] <;> rfl
    have h : HS D A s H locs [(x0, .inr (7, [.ref g0, .ref oc, .ref on, .ref os, .ref ok, .ref ov, .ref fo, .ref bo, .int (bf (!decide (n = 0)) 1 ik), .int crd, .int bdn])), (oc, .inr (1, [.ref c5, .ref c6, .int (nI n), .int bar])), (on, .inr (5, [.ref oc, .ref n2, .ref n3, .ref n4, .int hr, .int to])), (n2, .inl (cI, 5, .inl w)), (n3, .inl (cI, 5, .inl tk)), (n4, .inl (cI, 5, .inl (ro ρ))), (os, .inr (6, [.ref s1, .ref s2, .ref s3, .int (nI q)])), (s1, .inl (cI, 6, .inl (ro sh))), (s2, .inl (cI, 6, .inl (ro sr))), (s3, .inl (cZ, 6, .inl tb)), (ok, .inr (5, [.ref oc, .ref k2, .ref k3, .ref k4, .int (bf (!decide (n = 0)) hr hrk), .int tok])), (k2, .inl (cI, 5, .inl (bf (!decide (n = 0)) w wk))), (k3, .inl (cI, 5, .inl (bf (!decide (n = 0)) tk tkk))), (k4, .inl (cI, 5, .inl (ro (bf (!decide (n = 0)) ρ ρk)))), (ov, .inr (6, [.ref v1, .ref v2, .ref v3, .int (nI qk)])), (v1, .inl (cI, 6, .inl (ro (bf (!decide (n = 0)) sh shk)))), (v2, .inl (cI, 6, .inl (ro (bf (!decide (n = 0)) sr srk)))), (v3, .inl (cZ, 6, .inl (bf (!decide (n = 0)) tb tbk)))] := by rw [← ef]; exact h
    have ef : (nI qk) = (nI (bf (!decide (n = 0)) q qk)) := by rw [bf_f hb_7] <;> rfl
    have h : HS D A s H locs [(x0, .inr (7, [.ref g0, .ref oc, .ref on, .ref os, .ref ok, .ref ov, .ref fo, .ref bo, .int (bf (!decide (n = 0)) 1 ik), .int crd, .int bdn])), (oc, .inr (1, [.ref c5, .ref c6, .int (nI n), .int bar])), (on, .inr (5, [.ref oc, .ref n2, .ref n3, .ref n4, .int hr, .int to])), (n2, .inl (cI, 5, .inl w)), (n3, .inl (cI, 5, .inl tk)), (n4, .inl (cI, 5, .inl (ro ρ))), (os, .inr (6, [.ref s1, .ref s2, .ref s3, .int (nI q)])), (s1, .inl (cI, 6, .inl (ro sh))), (s2, .inl (cI, 6, .inl (ro sr))), (s3, .inl (cZ, 6, .inl tb)), (ok, .inr (5, [.ref oc, .ref k2, .ref k3, .ref k4, .int (bf (!decide (n = 0)) hr hrk), .int tok])), (k2, .inl (cI, 5, .inl (bf (!decide (n = 0)) w wk))), (k3, .inl (cI, 5, .inl (bf (!decide (n = 0)) tk tkk))), (k4, .inl (cI, 5, .inl (ro (bf (!decide (n = 0)) ρ ρk)))), (ov, .inr (6, [.ref v1, .ref v2, .ref v3, .int (nI (bf (!decide (n = 0)) q qk))])), (v1, .inl (cI, 6, .inl (ro (bf (!decide (n = 0)) sh shk)))), (v2, .inl (cI, 6, .inl (ro (bf (!decide (n = 0)) sr srk)))), (v3, .inl (cZ, 6, .inl (bf (!decide (n = 0)) tb tbk)))] := by rw [← ef]; exact h
    exact hret (r := (-103)) () dX7_image_12 h (rfl) (by rw [bf_f hb_7])

set_option maxHeartbeats 4000000 in
set_option maxRecDepth 100000 in
theorem c_X7_restore (l : Launch) (D : va_G) (cI cZ : ClassId) (kS vS : Nat) (x0 : Nat) (g0 : Nat) (oc : Nat) (on : Nat) (os : Nat) (ok : Nat) (ov : Nat) (fo : Nat) (bo : Nat) (ik : Int32) (crd : Int32) (bdn : Int32) (c5 : Nat) (c6 : Nat) (n : Nat) (bar : Int32) (n2 : Nat) (n3 : Nat) (n4 : Nat) (hr : Int32) (to : Int32) (w : Nat → Int32) (tk : Nat → Int32) (ρ : Nat → Nat) (s1 : Nat) (s2 : Nat) (s3 : Nat) (q : Nat) (sh : Nat → Nat) (sr : Nat → Nat) (tb : Nat → Int32) (k2 : Nat) (k3 : Nat) (k4 : Nat) (hrk : Int32) (tok : Int32) (wk : Nat → Int32) (tkk : Nat → Int32) (ρk : Nat → Nat) (v1 : Nat) (v2 : Nat) (v3 : Nat) (qk : Nat) (shk : Nat → Nat) (srk : Nat → Nat) (tbk : Nat → Int32) (htbk : ∀ j, j < 6 → tbk j = 0 ∨ tbk j = 1) : CI l yX7_restore cX7_restore 1 .int D cI cZ kS vS 2 39 0 0 [.ref x0] [(x0, .inr (7, [.ref g0, .ref oc, .ref on, .ref os, .ref ok, .ref ov, .ref fo, .ref bo, .int ik, .int crd, .int bdn])), (oc, .inr (1, [.ref c5, .ref c6, .int (nI n), .int bar])), (on, .inr (5, [.ref oc, .ref n2, .ref n3, .ref n4, .int hr, .int to])), (n2, .inl (cI, 5, .inl w)), (n3, .inl (cI, 5, .inl tk)), (n4, .inl (cI, 5, .inl (ro ρ))), (os, .inr (6, [.ref s1, .ref s2, .ref s3, .int (nI q)])), (s1, .inl (cI, 6, .inl (ro sh))), (s2, .inl (cI, 6, .inl (ro sr))), (s3, .inl (cZ, 6, .inl tb)), (ok, .inr (5, [.ref oc, .ref k2, .ref k3, .ref k4, .int hrk, .int tok])), (k2, .inl (cI, 5, .inl wk)), (k3, .inl (cI, 5, .inl tkk)), (k4, .inl (cI, 5, .inl (ro ρk))), (ov, .inr (6, [.ref v1, .ref v2, .ref v3, .int (nI qk)])), (v1, .inl (cI, 6, .inl (ro shk))), (v2, .inl (cI, 6, .inl (ro srk))), (v3, .inl (cZ, 6, .inl tbk))] (fun (r : Int32) (_ : Unit) => r = bf (decide (ik = 0)) (-103) hrk) (fun (_ : Unit) => [(x0, .inr (7, [.ref g0, .ref oc, .ref on, .ref os, .ref ok, .ref ov, .ref fo, .ref bo, .int ik, .int crd, .int bdn])), (oc, .inr (1, [.ref c5, .ref c6, .int (nI n), .int bar])), (on, .inr (5, [.ref oc, .ref n2, .ref n3, .ref n4, .int (bf (decide (ik = 0)) hr hrk), .int to])), (n2, .inl (cI, 5, .inl (bf (decide (ik = 0)) w wk))), (n3, .inl (cI, 5, .inl (bf (decide (ik = 0)) tk tkk))), (n4, .inl (cI, 5, .inl (ro (bf (decide (ik = 0)) ρ ρk)))), (os, .inr (6, [.ref s1, .ref s2, .ref s3, .int (nI (bf (decide (ik = 0)) q qk))])), (s1, .inl (cI, 6, .inl (ro (bf (decide (ik = 0)) sh shk)))), (s2, .inl (cI, 6, .inl (ro (bf (decide (ik = 0)) sr srk)))), (s3, .inl (cZ, 6, .inl (bf (decide (ik = 0)) tb tbk))), (ok, .inr (5, [.ref oc, .ref k2, .ref k3, .ref k4, .int hrk, .int tok])), (k2, .inl (cI, 5, .inl wk)), (k3, .inl (cI, 5, .inl tkk)), (k4, .inl (cI, 5, .inl (ro ρk))), (ov, .inr (6, [.ref v1, .ref v2, .ref v3, .int (nI qk)])), (v1, .inl (cI, 6, .inl (ro shk))), (v2, .inl (cI, 6, .inl (ro srk))), (v3, .inl (cZ, 6, .inl tbk))]) := by
  refine CI_intro (by decide) (Nat.le_of_ble_eq_true rfl) ?_
  intro p e s m args below meth c A Q ls C h hret hl
  have C : CX p s m args c cX7_restore 1 RX7 D cI cZ kS vS A := C
  have hx := C.1.1
  have hb := C.1.2.1
  have hl : lv_has ls 1 [(0, .ref x0)] := hl
  refine lv_aload_n hx hb dX7_restore_0 rfl (lv_at hl 0 rfl) ?_
  refine r_get C h fk7 0 8 rfl (by decide) mf_RX7_93 rfl dX7_restore_1 ?_
  refine lv_if_ne (tgt := 10) hx hb dX7_restore_4 (by decide) (fun c_4 => ?_) (fun c_4 => ?_)
  · skip
    have ek := decide_eq_false c_4
    refine lv_aload_n hx hb dX7_restore_10 rfl (lv_at hl 0 rfl) ?_
    refine r_get C h fk7 0 2 rfl (by decide) mf_RX7_28 rfl dX7_restore_11 ?_
    refine lv_aload_n hx hb dX7_restore_14 rfl (lv_at hl 0 rfl) ?_
    refine r_get C h fk7 0 4 rfl (by decide) mf_RX7_39 rfl dX7_restore_15 ?_
    refine k_Vv (rest := []) (as := [.ref ok]) (wc := [(on, .inr (5, [.ref oc, .ref n2, .ref n3, .ref n4, .int hr, .int to])), (n2, .inl (cI, 5, .inl w)), (n3, .inl (cI, 5, .inl tk)), (n4, .inl (cI, 5, .inl (ro ρ))), (ok, .inr (5, [.ref oc, .ref k2, .ref k3, .ref k4, .int hrk, .int tok])), (k2, .inl (cI, 5, .inl wk)), (k3, .inl (cI, 5, .inl tkk)), (k4, .inl (cI, 5, .inl (ro ρk)))]) (wr := [(x0, .inr (7, [.ref g0, .ref oc, .ref on, .ref os, .ref ok, .ref ov, .ref fo, .ref bo, .int ik, .int crd, .int bdn])), (oc, .inr (1, [.ref c5, .ref c6, .int (nI n), .int bar])), (os, .inr (6, [.ref s1, .ref s2, .ref s3, .int (nI q)])), (s1, .inl (cI, 6, .inl (ro sh))), (s2, .inl (cI, 6, .inl (ro sr))), (s3, .inl (cZ, 6, .inl tb)), (ov, .inr (6, [.ref v1, .ref v2, .ref v3, .int (nI qk)])), (v1, .inl (cI, 6, .inl (ro shk))), (v2, .inl (cI, 6, .inl (ro srk))), (v3, .inl (cZ, 6, .inl tbk))]) (isC := [2, 3, 4, 5, 10, 11, 12, 13]) (isR := [0, 1, 6, 7, 8, 9, 14, 15, 16, 17]) (w2 := fun (_ : Unit) => [(x0, .inr (7, [.ref g0, .ref oc, .ref on, .ref os, .ref ok, .ref ov, .ref fo, .ref bo, .int ik, .int crd, .int bdn])), (oc, .inr (1, [.ref c5, .ref c6, .int (nI n), .int bar])), (on, .inr (5, [.ref oc, .ref n2, .ref n3, .ref n4, .int hrk, .int to])), (n2, .inl (cI, 5, .inl wk)), (n3, .inl (cI, 5, .inl tkk)), (n4, .inl (cI, 5, .inl (ro ρk))), (os, .inr (6, [.ref s1, .ref s2, .ref s3, .int (nI q)])), (s1, .inl (cI, 6, .inl (ro sh))), (s2, .inl (cI, 6, .inl (ro sr))), (s3, .inl (cZ, 6, .inl tb)), (ok, .inr (5, [.ref oc, .ref k2, .ref k3, .ref k4, .int hrk, .int tok])), (k2, .inl (cI, 5, .inl wk)), (k3, .inl (cI, 5, .inl tkk)), (k4, .inl (cI, 5, .inl (ro ρk))), (ov, .inr (6, [.ref v1, .ref v2, .ref v3, .int (nI qk)])), (v1, .inl (cI, 6, .inl (ro shk))), (v2, .inl (cI, 6, .inl (ro srk))), (v3, .inl (cZ, 6, .inl tbk))]) C h (c_X5_copyFrom l D cI cZ kS vS on oc n2 n3 n4 ok oc k2 k3 k4 hr to hrk tok w tk (ro ρ) wk tkk (ro ρk) ) wv_X5_copyFrom rfl ⟨rfl, rfl, rfl, rfl, by decide⟩ fk5 2 rfl ml_RX7_194 [0, 1, 10, 11, 12, 13, 2, 3, 4, 5, 14, 15, 16, 17, 6, 7, 8, 9] rfl (fun _ => rfl) ⟨Nat.le_of_ble_eq_true rfl, Nat.le_of_ble_eq_true rfl⟩ ⟨Nat.le_of_ble_eq_true rfl, Nat.le_of_ble_eq_true rfl⟩ (Nat.le_of_ble_eq_true rfl) hl rfl dX7_restore_18 (fun u H locs hq h => ?_)
    have h : HS D A s H locs [(x0, .inr (7, [.ref g0, .ref oc, .ref on, .ref os, .ref ok, .ref ov, .ref fo, .ref bo, .int ik, .int crd, .int bdn])), (oc, .inr (1, [.ref c5, .ref c6, .int (nI n), .int bar])), (on, .inr (5, [.ref oc, .ref n2, .ref n3, .ref n4, .int hrk, .int to])), (n2, .inl (cI, 5, .inl wk)), (n3, .inl (cI, 5, .inl tkk)), (n4, .inl (cI, 5, .inl (ro ρk))), (os, .inr (6, [.ref s1, .ref s2, .ref s3, .int (nI q)])), (s1, .inl (cI, 6, .inl (ro sh))), (s2, .inl (cI, 6, .inl (ro sr))), (s3, .inl (cZ, 6, .inl tb)), (ok, .inr (5, [.ref oc, .ref k2, .ref k3, .ref k4, .int hrk, .int tok])), (k2, .inl (cI, 5, .inl wk)), (k3, .inl (cI, 5, .inl tkk)), (k4, .inl (cI, 5, .inl (ro ρk))), (ov, .inr (6, [.ref v1, .ref v2, .ref v3, .int (nI qk)])), (v1, .inl (cI, 6, .inl (ro shk))), (v2, .inl (cI, 6, .inl (ro srk))), (v3, .inl (cZ, 6, .inl tbk))] := h
    have hq : True := hq
    refine lv_aload_n hx hb dX7_restore_21 rfl (lv_at hl 0 rfl) ?_
    refine r_get C h fk7 0 3 rfl (by decide) mf_RX7_35 rfl dX7_restore_22 ?_
    refine lv_aload_n hx hb dX7_restore_25 rfl (lv_at hl 0 rfl) ?_
    refine r_get C h fk7 0 5 rfl (by decide) mf_RX7_42 rfl dX7_restore_26 ?_
    refine k_Vv (rest := []) (as := [.ref ov]) (wc := [(os, .inr (6, [.ref s1, .ref s2, .ref s3, .int (nI q)])), (s1, .inl (cI, 6, .inl (ro sh))), (s2, .inl (cI, 6, .inl (ro sr))), (s3, .inl (cZ, 6, .inl tb)), (ov, .inr (6, [.ref v1, .ref v2, .ref v3, .int (nI qk)])), (v1, .inl (cI, 6, .inl (ro shk))), (v2, .inl (cI, 6, .inl (ro srk))), (v3, .inl (cZ, 6, .inl tbk))]) (wr := [(x0, .inr (7, [.ref g0, .ref oc, .ref on, .ref os, .ref ok, .ref ov, .ref fo, .ref bo, .int ik, .int crd, .int bdn])), (oc, .inr (1, [.ref c5, .ref c6, .int (nI n), .int bar])), (on, .inr (5, [.ref oc, .ref n2, .ref n3, .ref n4, .int hrk, .int to])), (n2, .inl (cI, 5, .inl wk)), (n3, .inl (cI, 5, .inl tkk)), (n4, .inl (cI, 5, .inl (ro ρk))), (ok, .inr (5, [.ref oc, .ref k2, .ref k3, .ref k4, .int hrk, .int tok])), (k2, .inl (cI, 5, .inl wk)), (k3, .inl (cI, 5, .inl tkk)), (k4, .inl (cI, 5, .inl (ro ρk)))]) (isC := [6, 7, 8, 9, 14, 15, 16, 17]) (isR := [0, 1, 2, 3, 4, 5, 10, 11, 12, 13]) (w2 := fun (_ : Unit) => [(x0, .inr (7, [.ref g0, .ref oc, .ref on, .ref os, .ref ok, .ref ov, .ref fo, .ref bo, .int ik, .int crd, .int bdn])), (oc, .inr (1, [.ref c5, .ref c6, .int (nI n), .int bar])), (on, .inr (5, [.ref oc, .ref n2, .ref n3, .ref n4, .int hrk, .int to])), (n2, .inl (cI, 5, .inl wk)), (n3, .inl (cI, 5, .inl tkk)), (n4, .inl (cI, 5, .inl (ro ρk))), (os, .inr (6, [.ref s1, .ref s2, .ref s3, .int (nI qk)])), (s1, .inl (cI, 6, .inl (ro shk))), (s2, .inl (cI, 6, .inl (ro srk))), (s3, .inl (cZ, 6, .inl tbk)), (ok, .inr (5, [.ref oc, .ref k2, .ref k3, .ref k4, .int hrk, .int tok])), (k2, .inl (cI, 5, .inl wk)), (k3, .inl (cI, 5, .inl tkk)), (k4, .inl (cI, 5, .inl (ro ρk))), (ov, .inr (6, [.ref v1, .ref v2, .ref v3, .int (nI qk)])), (v1, .inl (cI, 6, .inl (ro shk))), (v2, .inl (cI, 6, .inl (ro srk))), (v3, .inl (cZ, 6, .inl tbk))]) C h (c_X6_copyFrom l D cI cZ kS vS os s1 s2 s3 ov v1 v2 v3 (nI q) (nI qk) (ro sh) (ro sr) tb shk srk tbk htbk) wv_X6_copyFrom rfl ⟨rfl, rfl, rfl, rfl, by decide⟩ fk6 6 rfl ml_RX7_198 [0, 1, 2, 3, 4, 5, 10, 11, 12, 13, 6, 7, 8, 9, 14, 15, 16, 17] rfl (fun _ => rfl) ⟨Nat.le_of_ble_eq_true rfl, Nat.le_of_ble_eq_true rfl⟩ ⟨Nat.le_of_ble_eq_true rfl, Nat.le_of_ble_eq_true rfl⟩ (Nat.le_of_ble_eq_true rfl) hl rfl dX7_restore_29 (fun u H locs hq h => ?_)
    have h : HS D A s H locs [(x0, .inr (7, [.ref g0, .ref oc, .ref on, .ref os, .ref ok, .ref ov, .ref fo, .ref bo, .int ik, .int crd, .int bdn])), (oc, .inr (1, [.ref c5, .ref c6, .int (nI n), .int bar])), (on, .inr (5, [.ref oc, .ref n2, .ref n3, .ref n4, .int hrk, .int to])), (n2, .inl (cI, 5, .inl wk)), (n3, .inl (cI, 5, .inl tkk)), (n4, .inl (cI, 5, .inl (ro ρk))), (os, .inr (6, [.ref s1, .ref s2, .ref s3, .int (nI qk)])), (s1, .inl (cI, 6, .inl (ro shk))), (s2, .inl (cI, 6, .inl (ro srk))), (s3, .inl (cZ, 6, .inl tbk)), (ok, .inr (5, [.ref oc, .ref k2, .ref k3, .ref k4, .int hrk, .int tok])), (k2, .inl (cI, 5, .inl wk)), (k3, .inl (cI, 5, .inl tkk)), (k4, .inl (cI, 5, .inl (ro ρk))), (ov, .inr (6, [.ref v1, .ref v2, .ref v3, .int (nI qk)])), (v1, .inl (cI, 6, .inl (ro shk))), (v2, .inl (cI, 6, .inl (ro srk))), (v3, .inl (cZ, 6, .inl tbk))] := h
    have hq : True := hq
    refine lv_aload_n hx hb dX7_restore_32 rfl (lv_at hl 0 rfl) ?_
    refine r_get C h fk7 0 2 rfl (by decide) mf_RX7_28 rfl dX7_restore_33 ?_
    refine r_getN C h fk5 2 4 17 rfl (by decide) rfl rfl dX7_restore_36 ?_
    have h := h.arr 3 (g := bf (decide (ik = 0)) w wk) rfl (fun j hj => by rw [bf_f ek]) rfl
    have h := h.arr 4 (g := bf (decide (ik = 0)) tk tkk) rfl (fun j hj => by rw [bf_f ek]) rfl
    have h := h.arr 5 (g := ro (bf (decide (ik = 0)) ρ ρk)) rfl (fun j hj => by rw [bf_f ek]) rfl
    have h := h.arr 7 (g := ro (bf (decide (ik = 0)) sh shk)) rfl (fun j hj => by rw [bf_f ek]) rfl
    have h := h.arr 8 (g := ro (bf (decide (ik = 0)) sr srk)) rfl (fun j hj => by rw [bf_f ek]) rfl
    have h := h.arr 9 (g := bf (decide (ik = 0)) tb tbk) rfl (fun j hj => by rw [bf_f ek]) rfl
    have ef : hrk = (bf (decide (ik = 0)) hr hrk) := by rw [bf_f ek] <;> rfl
    have h : HS D A s H locs [(x0, .inr (7, [.ref g0, .ref oc, .ref on, .ref os, .ref ok, .ref ov, .ref fo, .ref bo, .int ik, .int crd, .int bdn])), (oc, .inr (1, [.ref c5, .ref c6, .int (nI n), .int bar])), (on, .inr (5, [.ref oc, .ref n2, .ref n3, .ref n4, .int (bf (decide (ik = 0)) hr hrk), .int to])), (n2, .inl (cI, 5, .inl (bf (decide (ik = 0)) w wk))), (n3, .inl (cI, 5, .inl (bf (decide (ik = 0)) tk tkk))), (n4, .inl (cI, 5, .inl (ro (bf (decide (ik = 0)) ρ ρk)))), (os, .inr (6, [.ref s1, .ref s2, .ref s3, .int (nI qk)])), (s1, .inl (cI, 6, .inl (ro (bf (decide (ik = 0)) sh shk)))), (s2, .inl (cI, 6, .inl (ro (bf (decide (ik = 0)) sr srk)))), (s3, .inl (cZ, 6, .inl (bf (decide (ik = 0)) tb tbk))), (ok, .inr (5, [.ref oc, .ref k2, .ref k3, .ref k4, .int hrk, .int tok])), (k2, .inl (cI, 5, .inl wk)), (k3, .inl (cI, 5, .inl tkk)), (k4, .inl (cI, 5, .inl (ro ρk))), (ov, .inr (6, [.ref v1, .ref v2, .ref v3, .int (nI qk)])), (v1, .inl (cI, 6, .inl (ro shk))), (v2, .inl (cI, 6, .inl (ro srk))), (v3, .inl (cZ, 6, .inl tbk))] := by rw [← ef]; exact h
    have ef : (nI qk) = (nI (bf (decide (ik = 0)) q qk)) := by rw [bf_f ek] <;> rfl
    have h : HS D A s H locs [(x0, .inr (7, [.ref g0, .ref oc, .ref on, .ref os, .ref ok, .ref ov, .ref fo, .ref bo, .int ik, .int crd, .int bdn])), (oc, .inr (1, [.ref c5, .ref c6, .int (nI n), .int bar])), (on, .inr (5, [.ref oc, .ref n2, .ref n3, .ref n4, .int (bf (decide (ik = 0)) hr hrk), .int to])), (n2, .inl (cI, 5, .inl (bf (decide (ik = 0)) w wk))), (n3, .inl (cI, 5, .inl (bf (decide (ik = 0)) tk tkk))), (n4, .inl (cI, 5, .inl (ro (bf (decide (ik = 0)) ρ ρk)))), (os, .inr (6, [.ref s1, .ref s2, .ref s3, .int (nI (bf (decide (ik = 0)) q qk))])), (s1, .inl (cI, 6, .inl (ro (bf (decide (ik = 0)) sh shk)))), (s2, .inl (cI, 6, .inl (ro (bf (decide (ik = 0)) sr srk)))), (s3, .inl (cZ, 6, .inl (bf (decide (ik = 0)) tb tbk))), (ok, .inr (5, [.ref oc, .ref k2, .ref k3, .ref k4, .int hrk, .int tok])), (k2, .inl (cI, 5, .inl wk)), (k3, .inl (cI, 5, .inl tkk)), (k4, .inl (cI, 5, .inl (ro ρk))), (ov, .inr (6, [.ref v1, .ref v2, .ref v3, .int (nI qk)])), (v1, .inl (cI, 6, .inl (ro shk))), (v2, .inl (cI, 6, .inl (ro srk))), (v3, .inl (cZ, 6, .inl tbk))] := by rw [← ef]; exact h
    exact hret (r := hrk) () dX7_restore_39 h (rfl) (by rw [bf_f ek])
  · skip
    have ek := decide_eq_true c_4
    refine lv_bipush (v := (-103)) hx hb dX7_restore_7 (by decide) ?_
    have h := h.arr 3 (g := bf (decide (ik = 0)) w wk) rfl (fun j hj => by rw [bf_t ek]) rfl
    have h := h.arr 4 (g := bf (decide (ik = 0)) tk tkk) rfl (fun j hj => by rw [bf_t ek]) rfl
    have h := h.arr 5 (g := ro (bf (decide (ik = 0)) ρ ρk)) rfl (fun j hj => by rw [bf_t ek]) rfl
    have h := h.arr 7 (g := ro (bf (decide (ik = 0)) sh shk)) rfl (fun j hj => by rw [bf_t ek]) rfl
    have h := h.arr 8 (g := ro (bf (decide (ik = 0)) sr srk)) rfl (fun j hj => by rw [bf_t ek]) rfl
    have h := h.arr 9 (g := bf (decide (ik = 0)) tb tbk) rfl (fun j hj => by rw [bf_t ek]) rfl
    have ef : hr = (bf (decide (ik = 0)) hr hrk) := by rw [bf_t ek] <;> rfl
    have h : HS D A s H locs [(x0, .inr (7, [.ref g0, .ref oc, .ref on, .ref os, .ref ok, .ref ov, .ref fo, .ref bo, .int ik, .int crd, .int bdn])), (oc, .inr (1, [.ref c5, .ref c6, .int (nI n), .int bar])), (on, .inr (5, [.ref oc, .ref n2, .ref n3, .ref n4, .int (bf (decide (ik = 0)) hr hrk), .int to])), (n2, .inl (cI, 5, .inl (bf (decide (ik = 0)) w wk))), (n3, .inl (cI, 5, .inl (bf (decide (ik = 0)) tk tkk))), (n4, .inl (cI, 5, .inl (ro (bf (decide (ik = 0)) ρ ρk)))), (os, .inr (6, [.ref s1, .ref s2, .ref s3, .int (nI q)])), (s1, .inl (cI, 6, .inl (ro (bf (decide (ik = 0)) sh shk)))), (s2, .inl (cI, 6, .inl (ro (bf (decide (ik = 0)) sr srk)))), (s3, .inl (cZ, 6, .inl (bf (decide (ik = 0)) tb tbk))), (ok, .inr (5, [.ref oc, .ref k2, .ref k3, .ref k4, .int hrk, .int tok])), (k2, .inl (cI, 5, .inl wk)), (k3, .inl (cI, 5, .inl tkk)), (k4, .inl (cI, 5, .inl (ro ρk))), (ov, .inr (6, [.ref v1, .ref v2, .ref v3, .int (nI qk)])), (v1, .inl (cI, 6, .inl (ro shk))), (v2, .inl (cI, 6, .inl (ro srk))), (v3, .inl (cZ, 6, .inl tbk))] := by rw [← ef]; exact h
    have ef : (nI q) = (nI (bf (decide (ik = 0)) q qk)) := by rw [bf_t ek] <;> rfl
    have h : HS D A s H locs [(x0, .inr (7, [.ref g0, .ref oc, .ref on, .ref os, .ref ok, .ref ov, .ref fo, .ref bo, .int ik, .int crd, .int bdn])), (oc, .inr (1, [.ref c5, .ref c6, .int (nI n), .int bar])), (on, .inr (5, [.ref oc, .ref n2, .ref n3, .ref n4, .int (bf (decide (ik = 0)) hr hrk), .int to])), (n2, .inl (cI, 5, .inl (bf (decide (ik = 0)) w wk))), (n3, .inl (cI, 5, .inl (bf (decide (ik = 0)) tk tkk))), (n4, .inl (cI, 5, .inl (ro (bf (decide (ik = 0)) ρ ρk)))), (os, .inr (6, [.ref s1, .ref s2, .ref s3, .int (nI (bf (decide (ik = 0)) q qk))])), (s1, .inl (cI, 6, .inl (ro (bf (decide (ik = 0)) sh shk)))), (s2, .inl (cI, 6, .inl (ro (bf (decide (ik = 0)) sr srk)))), (s3, .inl (cZ, 6, .inl (bf (decide (ik = 0)) tb tbk))), (ok, .inr (5, [.ref oc, .ref k2, .ref k3, .ref k4, .int hrk, .int tok])), (k2, .inl (cI, 5, .inl wk)), (k3, .inl (cI, 5, .inl tkk)), (k4, .inl (cI, 5, .inl (ro ρk))), (ov, .inr (6, [.ref v1, .ref v2, .ref v3, .int (nI qk)])), (v1, .inl (cI, 6, .inl (ro shk))), (v2, .inl (cI, 6, .inl (ro srk))), (v3, .inl (cZ, 6, .inl tbk))] := by rw [← ef]; exact h
    exact hret (r := (-103)) () dX7_restore_9 h (rfl) (by rw [bf_t ek])

set_option maxHeartbeats 4000000 in
set_option maxRecDepth 100000 in
theorem c_X7_count (l : Launch) (D : va_G) (cI cZ : ClassId) (kS vS : Nat) (x0 : Nat) (g0 : Nat) (oc : Nat) (on : Nat) (os : Nat) (ok : Nat) (ov : Nat) (fo : Nat) (bo : Nat) (ik : Int32) (crd : Int32) (bdn : Int32) (g1 : Nat) (ps : Nat) (pg : Nat → Nat) (c5 : Nat) (c6 : Nat) (n : Nat) (bar : Int32) (n2 : Nat) (n3 : Nat) (n4 : Nat) (hr : Int32) (to : Int32) (w : Nat → Int32) (tk : Nat → Int32) (ρ : Nat → Nat) (s1 : Nat) (s2 : Nat) (s3 : Nat) (q : Nat) (x : Int32) (hn : n = 0 ∨ (2 ≤ n ∧ n ≤ 5)) : CI l yX7_count cX7_count 2 .int D cI cZ kS vS 2 43 0 0 [.ref x0, .int x] [(x0, .inr (7, [.ref g0, .ref oc, .ref on, .ref os, .ref ok, .ref ov, .ref fo, .ref bo, .int ik, .int crd, .int bdn])), (g0, .inr (4, [.ref g1, .int (nI ps)])), (g1, .inl (cI, 24, .inl (ro pg))), (oc, .inr (1, [.ref c5, .ref c6, .int (nI n), .int bar])), (on, .inr (5, [.ref oc, .ref n2, .ref n3, .ref n4, .int hr, .int to])), (n2, .inl (cI, 5, .inl w)), (n3, .inl (cI, 5, .inl tk)), (n4, .inl (cI, 5, .inl (ro ρ))), (os, .inr (6, [.ref s1, .ref s2, .ref s3, .int (nI q)]))] (fun (r : Int32) (_ : Unit) => r = cnt n bar w hr tk q ps crd bdn x) (fun (_ : Unit) => [(x0, .inr (7, [.ref g0, .ref oc, .ref on, .ref os, .ref ok, .ref ov, .ref fo, .ref bo, .int ik, .int crd, .int bdn])), (g0, .inr (4, [.ref g1, .int (nI ps)])), (g1, .inl (cI, 24, .inl (ro pg))), (oc, .inr (1, [.ref c5, .ref c6, .int (nI n), .int bar])), (on, .inr (5, [.ref oc, .ref n2, .ref n3, .ref n4, .int hr, .int to])), (n2, .inl (cI, 5, .inl w)), (n3, .inl (cI, 5, .inl tk)), (n4, .inl (cI, 5, .inl (ro ρ))), (os, .inr (6, [.ref s1, .ref s2, .ref s3, .int (nI q)]))]) := by
  refine CI_intro (by decide) (Nat.le_of_ble_eq_true rfl) ?_
  intro p e s m args below meth c A Q ls C h hret hl
  have C : CX p s m args c cX7_count 2 RX7 D cI cZ kS vS A := C
  have hx := C.1.1
  have hb := C.1.2.1
  have hl : lv_has ls 2 [(0, .ref x0), (1, .int x)] := hl
  have hn5 : n ≤ 5 := by omega
  refine lv_iload_n hx hb dX7_count_0 rfl (lv_at hl 1 rfl) ?_
  by_cases k_1_0 : x = 0
  · skip
    refine r_top (y := 0) k_1_0 ?_
    refine lv_tableIn (tgt := 52) hx hb dX7_count_1 (by decide) (by decide) rfl (by decide) ?_
    refine lv_aload_n hx hb dX7_count_52 rfl (lv_at hl 0 rfl) ?_
    refine r_get C h fk7 0 1 rfl (by decide) mf_RX7_19 rfl dX7_count_53 ?_
    refine r_getN C h fk1 3 2 8 rfl (by decide) rfl rfl dX7_count_56 ?_
    exact hret (r := nI n) () dX7_count_59 h (rfl) (by unfold cnt; first | rw [if_neg k_1_0] | rw [if_pos k_1_0])
  · skip
    by_cases k_1_1 : x = 1
    · skip
      refine r_top (y := 1) k_1_1 ?_
      refine lv_tableIn (tgt := 60) hx hb dX7_count_1 (by decide) (by decide) rfl (by decide) ?_
      refine lv_aload_n hx hb dX7_count_60 rfl (lv_at hl 0 rfl) ?_
      refine r_get C h fk7 0 1 rfl (by decide) mf_RX7_19 rfl dX7_count_61 ?_
      refine r_getN C h fk1 3 3 11 rfl (by decide) rfl rfl dX7_count_64 ?_
      exact hret (r := bar) () dX7_count_67 h (rfl) (by unfold cnt; first | rw [if_neg k_1_0, if_neg k_1_1] | rw [if_neg k_1_0, if_pos k_1_1])
    · skip
      by_cases k_1_2 : x = 2
      · skip
        refine r_top (y := 2) k_1_2 ?_
        refine lv_tableIn (tgt := 68) hx hb dX7_count_1 (by decide) (by decide) rfl (by decide) ?_
        refine lv_aload_n hx hb dX7_count_68 rfl (lv_at hl 0 rfl) ?_
        refine r_get C h fk7 0 2 rfl (by decide) mf_RX7_28 rfl dX7_count_69 ?_
        refine k_Vi (rest := []) (as := []) (wc := [(on, .inr (5, [.ref oc, .ref n2, .ref n3, .ref n4, .int hr, .int to])), (oc, .inr (1, [.ref c5, .ref c6, .int (nI n), .int bar])), (n2, .inl (cI, 5, .inl w))]) (wr := [(x0, .inr (7, [.ref g0, .ref oc, .ref on, .ref os, .ref ok, .ref ov, .ref fo, .ref bo, .int ik, .int crd, .int bdn])), (g0, .inr (4, [.ref g1, .int (nI ps)])), (g1, .inl (cI, 24, .inl (ro pg))), (n3, .inl (cI, 5, .inl tk)), (n4, .inl (cI, 5, .inl (ro ρ))), (os, .inr (6, [.ref s1, .ref s2, .ref s3, .int (nI q)]))]) (isC := [4, 3, 5]) (isR := [0, 1, 2, 6, 7, 8]) (w2 := fun (_ : Unit) => [(x0, .inr (7, [.ref g0, .ref oc, .ref on, .ref os, .ref ok, .ref ov, .ref fo, .ref bo, .int ik, .int crd, .int bdn])), (g0, .inr (4, [.ref g1, .int (nI ps)])), (g1, .inl (cI, 24, .inl (ro pg))), (oc, .inr (1, [.ref c5, .ref c6, .int (nI n), .int bar])), (on, .inr (5, [.ref oc, .ref n2, .ref n3, .ref n4, .int hr, .int to])), (n2, .inl (cI, 5, .inl w)), (n3, .inl (cI, 5, .inl tk)), (n4, .inl (cI, 5, .inl (ro ρ))), (os, .inr (6, [.ref s1, .ref s2, .ref s3, .int (nI q)]))]) C h (c_X5_waterInAll l D cI cZ kS vS on oc n2 n3 n4 c5 c6 n bar hr to w hn5) wv_X5_waterInAll rfl ⟨rfl, rfl, rfl, rfl, by decide⟩ fk5 4 rfl ml_RX7_182 [0, 1, 2, 7, 6, 8, 3, 4, 5] rfl (fun _ => rfl) ⟨Nat.le_of_ble_eq_true rfl, Nat.le_of_ble_eq_true rfl⟩ ⟨Nat.le_of_ble_eq_true rfl, Nat.le_of_ble_eq_true rfl⟩ (Nat.le_of_ble_eq_true rfl) hl rfl dX7_count_72 (fun r u H locs hq h => ?_)
        have h : HS D A s H locs [(x0, .inr (7, [.ref g0, .ref oc, .ref on, .ref os, .ref ok, .ref ov, .ref fo, .ref bo, .int ik, .int crd, .int bdn])), (g0, .inr (4, [.ref g1, .int (nI ps)])), (g1, .inl (cI, 24, .inl (ro pg))), (oc, .inr (1, [.ref c5, .ref c6, .int (nI n), .int bar])), (on, .inr (5, [.ref oc, .ref n2, .ref n3, .ref n4, .int hr, .int to])), (n2, .inl (cI, 5, .inl w)), (n3, .inl (cI, 5, .inl tk)), (n4, .inl (cI, 5, .inl (ro ρ))), (os, .inr (6, [.ref s1, .ref s2, .ref s3, .int (nI q)]))] := h
        have hq : r = hsum w n := hq
        have hq := hq.symm
        subst hq
        exact hret (r := hsum w n) () dX7_count_75 h (rfl) (by unfold cnt; first | rw [if_neg k_1_0, if_neg k_1_1, if_neg k_1_2] | rw [if_neg k_1_0, if_neg k_1_1, if_pos k_1_2])
      · skip
        by_cases k_1_3 : x = 3
        · skip
          refine r_top (y := 3) k_1_3 ?_
          refine lv_tableIn (tgt := 76) hx hb dX7_count_1 (by decide) (by decide) rfl (by decide) ?_
          refine lv_aload_n hx hb dX7_count_76 rfl (lv_at hl 0 rfl) ?_
          refine r_get C h fk7 0 2 rfl (by decide) mf_RX7_28 rfl dX7_count_77 ?_
          refine r_getN C h fk5 4 4 17 rfl (by decide) rfl rfl dX7_count_80 ?_
          exact hret (r := hr) () dX7_count_83 h (rfl) (by unfold cnt; first | rw [if_neg k_1_0, if_neg k_1_1, if_neg k_1_2, if_neg k_1_3] | rw [if_neg k_1_0, if_neg k_1_1, if_neg k_1_2, if_pos k_1_3])
        · skip
          by_cases k_1_4 : x = 4
          · skip
            refine r_top (y := 4) k_1_4 ?_
            refine lv_tableIn (tgt := 84) hx hb dX7_count_1 (by decide) (by decide) rfl (by decide) ?_
            refine lv_aload_n hx hb dX7_count_84 rfl (lv_at hl 0 rfl) ?_
            refine r_get C h fk7 0 2 rfl (by decide) mf_RX7_28 rfl dX7_count_85 ?_
            refine k_Vi (rest := []) (as := []) (wc := [(on, .inr (5, [.ref oc, .ref n2, .ref n3, .ref n4, .int hr, .int to])), (oc, .inr (1, [.ref c5, .ref c6, .int (nI n), .int bar])), (n3, .inl (cI, 5, .inl tk))]) (wr := [(x0, .inr (7, [.ref g0, .ref oc, .ref on, .ref os, .ref ok, .ref ov, .ref fo, .ref bo, .int ik, .int crd, .int bdn])), (g0, .inr (4, [.ref g1, .int (nI ps)])), (g1, .inl (cI, 24, .inl (ro pg))), (n2, .inl (cI, 5, .inl w)), (n4, .inl (cI, 5, .inl (ro ρ))), (os, .inr (6, [.ref s1, .ref s2, .ref s3, .int (nI q)]))]) (isC := [4, 3, 6]) (isR := [0, 1, 2, 5, 7, 8]) (w2 := fun (_ : Unit) => [(x0, .inr (7, [.ref g0, .ref oc, .ref on, .ref os, .ref ok, .ref ov, .ref fo, .ref bo, .int ik, .int crd, .int bdn])), (g0, .inr (4, [.ref g1, .int (nI ps)])), (g1, .inl (cI, 24, .inl (ro pg))), (oc, .inr (1, [.ref c5, .ref c6, .int (nI n), .int bar])), (on, .inr (5, [.ref oc, .ref n2, .ref n3, .ref n4, .int hr, .int to])), (n2, .inl (cI, 5, .inl w)), (n3, .inl (cI, 5, .inl tk)), (n4, .inl (cI, 5, .inl (ro ρ))), (os, .inr (6, [.ref s1, .ref s2, .ref s3, .int (nI q)]))]) C h (c_X5_tookInAll l D cI cZ kS vS on oc n2 n3 n4 c5 c6 n bar hr to tk hn5) wv_X5_tookInAll rfl ⟨rfl, rfl, rfl, rfl, by decide⟩ fk5 4 rfl ml_RX7_207 [0, 1, 2, 7, 6, 3, 8, 4, 5] rfl (fun _ => rfl) ⟨Nat.le_of_ble_eq_true rfl, Nat.le_of_ble_eq_true rfl⟩ ⟨Nat.le_of_ble_eq_true rfl, Nat.le_of_ble_eq_true rfl⟩ (Nat.le_of_ble_eq_true rfl) hl rfl dX7_count_88 (fun r u H locs hq h => ?_)
            have h : HS D A s H locs [(x0, .inr (7, [.ref g0, .ref oc, .ref on, .ref os, .ref ok, .ref ov, .ref fo, .ref bo, .int ik, .int crd, .int bdn])), (g0, .inr (4, [.ref g1, .int (nI ps)])), (g1, .inl (cI, 24, .inl (ro pg))), (oc, .inr (1, [.ref c5, .ref c6, .int (nI n), .int bar])), (on, .inr (5, [.ref oc, .ref n2, .ref n3, .ref n4, .int hr, .int to])), (n2, .inl (cI, 5, .inl w)), (n3, .inl (cI, 5, .inl tk)), (n4, .inl (cI, 5, .inl (ro ρ))), (os, .inr (6, [.ref s1, .ref s2, .ref s3, .int (nI q)]))] := h
            have hq : r = hsum tk n := hq
            have hq := hq.symm
            subst hq
            exact hret (r := hsum tk n) () dX7_count_91 h (rfl) (by unfold cnt; first | rw [if_neg k_1_0, if_neg k_1_1, if_neg k_1_2, if_neg k_1_3, if_neg k_1_4] | rw [if_neg k_1_0, if_neg k_1_1, if_neg k_1_2, if_neg k_1_3, if_pos k_1_4])
          · skip
            by_cases k_1_5 : x = 5
            · skip
              refine r_top (y := 5) k_1_5 ?_
              refine lv_tableIn (tgt := 92) hx hb dX7_count_1 (by decide) (by decide) rfl (by decide) ?_
              refine lv_aload_n hx hb dX7_count_92 rfl (lv_at hl 0 rfl) ?_
              refine r_get C h fk7 0 3 rfl (by decide) mf_RX7_35 rfl dX7_count_93 ?_
              refine r_getN C h fk6 8 3 19 rfl (by decide) rfl rfl dX7_count_96 ?_
              exact hret (r := nI q) () dX7_count_99 h (rfl) (by unfold cnt; first | rw [if_neg k_1_0, if_neg k_1_1, if_neg k_1_2, if_neg k_1_3, if_neg k_1_4, if_neg k_1_5] | rw [if_neg k_1_0, if_neg k_1_1, if_neg k_1_2, if_neg k_1_3, if_neg k_1_4, if_pos k_1_5])
            · skip
              by_cases k_1_6 : x = 6
              · skip
                refine r_top (y := 6) k_1_6 ?_
                refine lv_tableIn (tgt := 100) hx hb dX7_count_1 (by decide) (by decide) rfl (by decide) ?_
                refine lv_aload_n hx hb dX7_count_100 rfl (lv_at hl 0 rfl) ?_
                refine r_get C h fk7 0 0 rfl (by decide) mf_RX7_10 rfl dX7_count_101 ?_
                refine r_getN C h fk4 1 1 1 rfl (by decide) rfl rfl dX7_count_104 ?_
                exact hret (r := nI ps) () dX7_count_107 h (rfl) (by unfold cnt; first | rw [if_neg k_1_0, if_neg k_1_1, if_neg k_1_2, if_neg k_1_3, if_neg k_1_4, if_neg k_1_5, if_neg k_1_6] | rw [if_neg k_1_0, if_neg k_1_1, if_neg k_1_2, if_neg k_1_3, if_neg k_1_4, if_neg k_1_5, if_pos k_1_6])
              · skip
                by_cases k_1_7 : x = 7
                · skip
                  refine r_top (y := 7) k_1_7 ?_
                  refine lv_tableIn (tgt := 108) hx hb dX7_count_1 (by decide) (by decide) rfl (by decide) ?_
                  refine lv_aload_n hx hb dX7_count_108 rfl (lv_at hl 0 rfl) ?_
                  refine r_get C h fk7 0 9 rfl (by decide) mf_RX7_97 rfl dX7_count_109 ?_
                  exact hret (r := crd) () dX7_count_112 h (rfl) (by unfold cnt; first | rw [if_neg k_1_0, if_neg k_1_1, if_neg k_1_2, if_neg k_1_3, if_neg k_1_4, if_neg k_1_5, if_neg k_1_6, if_neg k_1_7] | rw [if_neg k_1_0, if_neg k_1_1, if_neg k_1_2, if_neg k_1_3, if_neg k_1_4, if_neg k_1_5, if_neg k_1_6, if_pos k_1_7])
                · skip
                  by_cases k_1_8 : x = 8
                  · skip
                    refine r_top (y := 8) k_1_8 ?_
                    refine lv_tableIn (tgt := 113) hx hb dX7_count_1 (by decide) (by decide) rfl (by decide) ?_
                    refine lv_aload_n hx hb dX7_count_113 rfl (lv_at hl 0 rfl) ?_
                    refine r_get C h fk7 0 10 rfl (by decide) mf_RX7_159 rfl dX7_count_114 ?_
                    exact hret (r := bdn) () dX7_count_117 h (rfl) (by unfold cnt; first | rw [if_neg k_1_0, if_neg k_1_1, if_neg k_1_2, if_neg k_1_3, if_neg k_1_4, if_neg k_1_5, if_neg k_1_6, if_neg k_1_7, if_neg k_1_8] | rw [if_neg k_1_0, if_neg k_1_1, if_neg k_1_2, if_neg k_1_3, if_neg k_1_4, if_neg k_1_5, if_neg k_1_6, if_neg k_1_7, if_pos k_1_8])
                  · skip
                    have hO : (x).toInt < 0 ∨ 8 < (x).toInt := by
                      have zk_1_0 := lv_neT (a := 0) k_1_0 (by decide)
                      have zk_1_1 := lv_neT (a := 1) k_1_1 (by decide)
                      have zk_1_2 := lv_neT (a := 2) k_1_2 (by decide)
                      have zk_1_3 := lv_neT (a := 3) k_1_3 (by decide)
                      have zk_1_4 := lv_neT (a := 4) k_1_4 (by decide)
                      have zk_1_5 := lv_neT (a := 5) k_1_5 (by decide)
                      have zk_1_6 := lv_neT (a := 6) k_1_6 (by decide)
                      have zk_1_7 := lv_neT (a := 7) k_1_7 (by decide)
                      have zk_1_8 := lv_neT (a := 8) k_1_8 (by decide)
                      omega
                    refine lv_tableOut (tgt := 118) hx hb dX7_count_1 hO (by decide) ?_
                    refine lv_bipush (v := (-102)) hx hb dX7_count_118 (by decide) ?_
                    exact hret (r := (-102)) () dX7_count_120 h (rfl) (by unfold cnt; first | rw [if_neg k_1_0, if_neg k_1_1, if_neg k_1_2, if_neg k_1_3, if_neg k_1_4, if_neg k_1_5, if_neg k_1_6, if_neg k_1_7, if_neg k_1_8] | rw [if_neg k_1_0, if_neg k_1_1, if_neg k_1_2, if_neg k_1_3, if_neg k_1_4, if_neg k_1_5, if_neg k_1_6, if_neg k_1_7, if_pos k_1_8])

set_option maxHeartbeats 4000000 in
set_option maxRecDepth 100000 in
theorem c_X7_mixed (l : Launch) (D : va_G) (cI cZ : ClassId) (kS vS : Nat) (a : Int64) (b : Int64)  : CL l yX7_mixed cX7_mixed 4 D cI cZ kS vS 0 0 0 0 [.long a, .long b] [] (fun (r : Int64) (_ : Unit) => r = 31 * a + b) (fun (_ : Unit) => []) := by
  refine CL_intro (by decide) (Nat.le_of_ble_eq_true rfl) ?_
  intro p e s m args below meth c A Q ls C h hret hl
  have C : CX p s m args c cX7_mixed 4 RX7 D cI cZ kS vS A := C
  have hx := C.1.1
  have hb := C.1.2.1
  have hl : lv_has ls 4 [(0, .long a), (2, .long b)] := hl
  refine lv_ldc2 (v := 31) hx hb C.1.2.2.2.1 (C.1.2.2.2.2 _ mq_RX7_234) dX7_mixed_0 ?_
  refine lv_lload_n hx hb dX7_mixed_3 rfl (lv_at hl 0 rfl) ?_
  refine lv_lmul hx hb dX7_mixed_4 ?_
  refine lv_lload_n hx hb dX7_mixed_5 rfl (lv_at hl 1 rfl) ?_
  refine lv_ladd hx hb dX7_mixed_6 ?_
  exact hret (r := (31 * a) + b) () dX7_mixed_7 h (rfl)

