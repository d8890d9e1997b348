set_option maxHeartbeats 4000000 in
set_option maxRecDepth 100000 in
theorem c_X8_waitsOf (l : Launch) (D : va_G) (cI cZ : ClassId) (kS vS : Nat) (p0 : Nat) (p1 : Nat) (p2 : Nat) (p3 : Nat) (p4 : Nat) (p5 : Nat) (p6 : Nat) (p7 : Nat) (p8 : Nat) (p9 : Nat) (p10 : Nat) (p11 : Nat) (p12 : Nat) (p13 : Nat) (p14 : Nat) (p15 : Nat) (p16 : Nat) (p17 : Nat) (n : Nat) (pgm : Int32) (rdm : Int32) (rdb : Int32) (stt : Int32) (bar : Int32) (hrs : Int32) (crd : Int32) (tof : Int32) (tmu : Int32) (bdn : Int32) (snm : Int32) (sdn : Int32) (kcs : Int32) (khr : Int32) (ksn : Int32) (hlg : Int64) (w : Nat → Int32) (ρ : Nat → Nat) (K : Nat → Int32) (F : Nat → Int32) (sw : Nat → Int32) (ss : Nat → Int32) (rr : Nat) (hn2 : 2 ≤ n) (hn5 : n ≤ 5) (hpm : PM n ρ) (hK : ∀ j, j < n → K j = 0 ∨ K j = 1 ∨ K j = 2 ∨ K j = 3 ∨ K j = 4) : CI l yX8_waitsOf cX8_waitsOf 4 .int D cI cZ kS vS 2 48 0 0 [.ref p0, .int (nI rr)] [(p0, .inr (8, [.ref p1, .int pgm, .ref p2, .int rdm, .int rdb, .int stt, .int (nI n), .int bar, .int hrs, .int crd, .ref p3, .ref p4, .ref p5, .ref p6, .ref p7, .int tof, .int tmu, .ref p8, .ref p9, .int bdn, .ref p10, .int snm, .ref p11, .ref p12, .ref p13, .int sdn, .int kcs, .int khr, .int ksn, .ref p14, .ref p15, .ref p16, .ref p17, .long hlg])), (p3, .inl (cI, 5, .inl K)), (p4, .inl (cI, 5, .inl F)), (p5, .inl (cI, 5, .inl w)), (p6, .inl (cI, 5, .inl (ro ρ))), (p8, .inl (cI, 5, .inl sw)), (p9, .inl (cI, 5, .inl ss))] (fun (r : Int32) (u : Int32 × Int32) => r = hwt n K F bar w ρ (nI rr) 60 0) (fun (u : Int32 × Int32) => [(p0, .inr (8, [.ref p1, .int pgm, .ref p2, .int rdm, .int rdb, .int stt, .int (nI n), .int bar, .int hrs, .int crd, .ref p3, .ref p4, .ref p5, .ref p6, .ref p7, .int u.1, .int u.2, .ref p8, .ref p9, .int bdn, .ref p10, .int snm, .ref p11, .ref p12, .ref p13, .int sdn, .int kcs, .int khr, .int ksn, .ref p14, .ref p15, .ref p16, .ref p17, .long hlg])), (p3, .inl (cI, 5, .inl K)), (p4, .inl (cI, 5, .inl F)), (p5, .inl (cI, 5, .inl w)), (p6, .inl (cI, 5, .inl (ro ρ))), (p8, .inl (cI, 5, .inl w)), (p9, .inl (cI, 5, .inl (ro ρ)))]) := by
  refine CI_intro (by decide) (Nat.le_of_ble_eq_true rfl) ?_
  intro p e s m args below meth c A Q ls C h hret hl
  have C : CX p s m args c cX8_waitsOf 4 RX8 D cI cZ kS vS A := C
  have hx := C.1.1
  have hb := C.1.2.1
  have hl : lv_has ls 4 [(0, .ref p0), (1, .int (nI rr))] := hl
  refine lv_aload_n hx hb dX8_waitsOf_0 rfl (lv_at hl 0 rfl) ?_
  refine k_Vv (rest := []) (as := []) (wc := [(p0, .inr (8, [.ref p1, .int pgm, .ref p2, .int rdm, .int rdb, .int stt, .int (nI n), .int bar, .int hrs, .int crd, .ref p3, .ref p4, .ref p5, .ref p6, .ref p7, .int tof, .int tmu, .ref p8, .ref p9, .int bdn, .ref p10, .int snm, .ref p11, .ref p12, .ref p13, .int sdn, .int kcs, .int khr, .int ksn, .ref p14, .ref p15, .ref p16, .ref p17, .long hlg])), (p5, .inl (cI, 5, .inl w)), (p6, .inl (cI, 5, .inl (ro ρ))), (p8, .inl (cI, 5, .inl sw)), (p9, .inl (cI, 5, .inl ss))]) (wr := [(p3, .inl (cI, 5, .inl K)), (p4, .inl (cI, 5, .inl F))]) (isC := [0, 3, 4, 5, 6]) (isR := [1, 2]) (w2 := fun (_ : Unit) => [(p0, .inr (8, [.ref p1, .int pgm, .ref p2, .int rdm, .int rdb, .int stt, .int (nI n), .int bar, .int hrs, .int crd, .ref p3, .ref p4, .ref p5, .ref p6, .ref p7, .int tof, .int tmu, .ref p8, .ref p9, .int bdn, .ref p10, .int snm, .ref p11, .ref p12, .ref p13, .int sdn, .int kcs, .int khr, .int ksn, .ref p14, .ref p15, .ref p16, .ref p17, .long hlg])), (p3, .inl (cI, 5, .inl K)), (p4, .inl (cI, 5, .inl F)), (p5, .inl (cI, 5, .inl w)), (p6, .inl (cI, 5, .inl (ro ρ))), (p8, .inl (cI, 5, .inl w)), (p9, .inl (cI, 5, .inl (ro ρ)))]) C h (c_X8_layAside l D cI cZ kS vS p0 p1 p2 p3 p4 p5 p6 p7 p8 p9 p10 p11 p12 p13 p14 p15 p16 p17 n pgm rdm rdb stt bar hrs crd tof tmu bdn snm sdn kcs khr ksn hlg w (ro ρ) sw ss ) wv_X8_layAside rfl ⟨rfl, rfl, rfl, rfl, by decide⟩ fk8 0 rfl ml_RX8_132 [2, 0, 1, 3, 4, 5, 6] rfl (fun _ => rfl) ⟨Nat.le_of_ble_eq_true rfl, Nat.le_of_ble_eq_true rfl⟩ ⟨Nat.le_of_ble_eq_true rfl, Nat.le_of_ble_eq_true rfl⟩ (Nat.le_of_ble_eq_true rfl) hl rfl dX8_waitsOf_1 (fun u H locs hq h => ?_)
  have h : HS D A s H locs [(p0, .inr (8, [.ref p1, .int pgm, .ref p2, .int rdm, .int rdb, .int stt, .int (nI n), .int bar, .int hrs, .int crd, .ref p3, .ref p4, .ref p5, .ref p6, .ref p7, .int tof, .int tmu, .ref p8, .ref p9, .int bdn, .ref p10, .int snm, .ref p11, .ref p12, .ref p13, .int sdn, .int kcs, .int khr, .int ksn, .ref p14, .ref p15, .ref p16, .ref p17, .long hlg])), (p3, .inl (cI, 5, .inl K)), (p4, .inl (cI, 5, .inl F)), (p5, .inl (cI, 5, .inl w)), (p6, .inl (cI, 5, .inl (ro ρ))), (p8, .inl (cI, 5, .inl w)), (p9, .inl (cI, 5, .inl (ro ρ)))] := h
  have hq : True := hq
  refine lv_iconst (v := (-1)) hx hb dX8_waitsOf_4 (by decide) ?_
  refine lv_istore_n (lv' := [(2, .int (-1)), (0, .ref p0), (1, .int (nI rr))]) hx hb dX8_waitsOf_5 rfl hl (by decide) rfl (fun ls hl => ?_)
  refine lv_iconst (v := 1) hx hb dX8_waitsOf_6 (by decide) ?_
  refine lv_istore_n (lv' := [(3, .int 1), (2, .int (-1)), (0, .ref p0), (1, .int (nI rr))]) hx hb dX8_waitsOf_7 rfl hl (by decide) rfl (fun ls hl => ?_)
  have L8 : ∀ (fu : Nat) (k : Nat) (to1 : Int32) (tm1 : Int32) (hh : Int32), (60 - k) < fu → (hk : k ≤ 60) → (hv0 : (hh = -1 ∧ hwt n K F bar w ρ (nI rr) (60 - k) k = hwt n K F bar w ρ (nI rr) 60 0) ∨ (¬ hh = -1 ∧ hh = hwt n K F bar w ρ (nI rr) 60 0)) → ∀ (H : Heap) (locs : List Loc) (ls : Array Slot), HS D A s H locs [(p0, .inr (8, [.ref p1, .int pgm, .ref p2, .int rdm, .int rdb, .int stt, .int (nI n), .int bar, .int hrs, .int crd, .ref p3, .ref p4, .ref p5, .ref p6, .ref p7, .int to1, .int tm1, .ref p8, .ref p9, .int bdn, .ref p10, .int snm, .ref p11, .ref p12, .ref p13, .int sdn, .int kcs, .int khr, .int ksn, .ref p14, .ref p15, .ref p16, .ref p17, .long hlg])), (p3, .inl (cI, 5, .inl K)), (p4, .inl (cI, 5, .inl F)), (p5, .inl (cI, 5, .inl (hit n K F bar w ρ k).1)), (p6, .inl (cI, 5, .inl (ro (hit n K F bar w ρ k).2))), (p8, .inl (cI, 5, .inl w)), (p9, .inl (cI, 5, .inl (ro ρ)))] → lv_has ls 4 [(0, .ref p0), (1, .int (nI rr)), (2, .int hh), (3, .int (nI (k + 1)))] → W p l e (rmO 2 48 0 0) s m args below meth c H locs 0 0 Q (F0 m 8 ls []) := by
    intro fu
    induction fu with
    | zero => intro k to1 tm1 hh hfu; exact absurd hfu (Nat.not_lt_zero _)
    | succ fu ih8 =>
      intro k to1 tm1 hh hfu hk hv0 H locs ls h hl
      refine lv_iload_n hx hb dX8_waitsOf_8 rfl (lv_at hl 3 rfl) ?_
      refine lv_bipush (v := 61) hx hb dX8_waitsOf_9 (by decide) ?_
      refine lv_icmp_ge (tgt := 43) hx hb dX8_waitsOf_11 (by decide) (fun c_11 => ?_) (fun c_11 => ?_)
      · skip
        have c_11 := (jle (a := 61) (b := (k + 1)) (by omega) (by omega)).mp c_11
        obtain rfl : 60 = k := by omega
        refine lv_aload_n hx hb dX8_waitsOf_43 rfl (lv_at hl 0 rfl) ?_
        refine k_Vv (rest := []) (as := []) (wc := [(p0, .inr (8, [.ref p1, .int pgm, .ref p2, .int rdm, .int rdb, .int stt, .int (nI n), .int bar, .int hrs, .int crd, .ref p3, .ref p4, .ref p5, .ref p6, .ref p7, .int to1, .int tm1, .ref p8, .ref p9, .int bdn, .ref p10, .int snm, .ref p11, .ref p12, .ref p13, .int sdn, .int kcs, .int khr, .int ksn, .ref p14, .ref p15, .ref p16, .ref p17, .long hlg])), (p8, .inl (cI, 5, .inl w)), (p9, .inl (cI, 5, .inl (ro ρ))), (p5, .inl (cI, 5, .inl (hit n K F bar w ρ 60).1)), (p6, .inl (cI, 5, .inl (ro (hit n K F bar w ρ 60).2)))]) (wr := [(p3, .inl (cI, 5, .inl K)), (p4, .inl (cI, 5, .inl F))]) (isC := [0, 5, 6, 3, 4]) (isR := [1, 2]) (w2 := fun (_ : Unit) => [(p0, .inr (8, [.ref p1, .int pgm, .ref p2, .int rdm, .int rdb, .int stt, .int (nI n), .int bar, .int hrs, .int crd, .ref p3, .ref p4, .ref p5, .ref p6, .ref p7, .int to1, .int tm1, .ref p8, .ref p9, .int bdn, .ref p10, .int snm, .ref p11, .ref p12, .ref p13, .int sdn, .int kcs, .int khr, .int ksn, .ref p14, .ref p15, .ref p16, .ref p17, .long hlg])), (p3, .inl (cI, 5, .inl K)), (p4, .inl (cI, 5, .inl F)), (p5, .inl (cI, 5, .inl w)), (p6, .inl (cI, 5, .inl (ro ρ))), (p8, .inl (cI, 5, .inl w)), (p9, .inl (cI, 5, .inl (ro ρ)))]) C h (c_X8_layBack l D cI cZ kS vS p0 p1 p2 p3 p4 p5 p6 p7 p8 p9 p10 p11 p12 p13 p14 p15 p16 p17 n pgm rdm rdb stt bar hrs crd to1 tm1 bdn snm sdn kcs khr ksn hlg w (ro ρ) (hit n K F bar w ρ 60).1 (ro (hit n K F bar w ρ 60).2) ) wv_X8_layBack rfl ⟨rfl, rfl, rfl, rfl, by decide⟩ fk8 0 rfl ml_RX8_138 [2, 0, 1, 5, 6, 3, 4] rfl (fun _ => rfl) ⟨Nat.le_of_ble_eq_true rfl, Nat.le_of_ble_eq_true rfl⟩ ⟨Nat.le_of_ble_eq_true rfl, Nat.le_of_ble_eq_true rfl⟩ (Nat.le_of_ble_eq_true rfl) hl rfl dX8_waitsOf_44 (fun u H locs hq h => ?_)
        have h : HS D A s H locs [(p0, .inr (8, [.ref p1, .int pgm, .ref p2, .int rdm, .int rdb, .int stt, .int (nI n), .int bar, .int hrs, .int crd, .ref p3, .ref p4, .ref p5, .ref p6, .ref p7, .int to1, .int tm1, .ref p8, .ref p9, .int bdn, .ref p10, .int snm, .ref p11, .ref p12, .ref p13, .int sdn, .int kcs, .int khr, .int ksn, .ref p14, .ref p15, .ref p16, .ref p17, .long hlg])), (p3, .inl (cI, 5, .inl K)), (p4, .inl (cI, 5, .inl F)), (p5, .inl (cI, 5, .inl w)), (p6, .inl (cI, 5, .inl (ro ρ))), (p8, .inl (cI, 5, .inl w)), (p9, .inl (cI, 5, .inl (ro ρ)))] := h
        have hq : True := hq
        refine lv_iload_n hx hb dX8_waitsOf_47 rfl (lv_at hl 2 rfl) ?_
        exact hret (r := hh) (⟨to1, tm1⟩) dX8_waitsOf_48 h (rfl) (hv0.elim (fun z => z.1.trans z.2) (fun z => z.2))
      · skip
        have c_11 : ¬ 61 ≤ (k + 1) := fun z => c_11 ((jle (a := 61) (b := (k + 1)) (by omega) (by omega)).mpr z)
        have hlt : k < 60 := by omega
        have hpk := hpm.hit (K := K) (F := F) (bar := bar) (w := w) hn2 k
        have hs0 := hwt_s (n := n) (K := K) (F := F) (bar := bar) (w := w) (ρ := ρ) (x := nI rr) hlt
        refine lv_iload_n hx hb dX8_waitsOf_14 rfl (lv_at hl 2 rfl) ?_
        refine lv_iconst (v := (-1)) hx hb dX8_waitsOf_15 (by decide) ?_
        refine lv_icmp_ne (tgt := 43) hx hb dX8_waitsOf_16 (by decide) (fun c_16 => ?_) (fun c_16 => ?_)
        · skip
          refine lv_aload_n hx hb dX8_waitsOf_43 rfl (lv_at hl 0 rfl) ?_
          refine k_Vv (rest := []) (as := []) (wc := [(p0, .inr (8, [.ref p1, .int pgm, .ref p2, .int rdm, .int rdb, .int stt, .int (nI n), .int bar, .int hrs, .int crd, .ref p3, .ref p4, .ref p5, .ref p6, .ref p7, .int to1, .int tm1, .ref p8, .ref p9, .int bdn, .ref p10, .int snm, .ref p11, .ref p12, .ref p13, .int sdn, .int kcs, .int khr, .int ksn, .ref p14, .ref p15, .ref p16, .ref p17, .long hlg])), (p8, .inl (cI, 5, .inl w)), (p9, .inl (cI, 5, .inl (ro ρ))), (p5, .inl (cI, 5, .inl (hit n K F bar w ρ k).1)), (p6, .inl (cI, 5, .inl (ro (hit n K F bar w ρ k).2)))]) (wr := [(p3, .inl (cI, 5, .inl K)), (p4, .inl (cI, 5, .inl F))]) (isC := [0, 5, 6, 3, 4]) (isR := [1, 2]) (w2 := fun (_ : Unit) => [(p0, .inr (8, [.ref p1, .int pgm, .ref p2, .int rdm, .int rdb, .int stt, .int (nI n), .int bar, .int hrs, .int crd, .ref p3, .ref p4, .ref p5, .ref p6, .ref p7, .int to1, .int tm1, .ref p8, .ref p9, .int bdn, .ref p10, .int snm, .ref p11, .ref p12, .ref p13, .int sdn, .int kcs, .int khr, .int ksn, .ref p14, .ref p15, .ref p16, .ref p17, .long hlg])), (p3, .inl (cI, 5, .inl K)), (p4, .inl (cI, 5, .inl F)), (p5, .inl (cI, 5, .inl w)), (p6, .inl (cI, 5, .inl (ro ρ))), (p8, .inl (cI, 5, .inl w)), (p9, .inl (cI, 5, .inl (ro ρ)))]) C h (c_X8_layBack l D cI cZ kS vS p0 p1 p2 p3 p4 p5 p6 p7 p8 p9 p10 p11 p12 p13 p14 p15 p16 p17 n pgm rdm rdb stt bar hrs crd to1 tm1 bdn snm sdn kcs khr ksn hlg w (ro ρ) (hit n K F bar w ρ k).1 (ro (hit n K F bar w ρ k).2) ) wv_X8_layBack rfl ⟨rfl, rfl, rfl, rfl, by decide⟩ fk8 0 rfl ml_RX8_138 [2, 0, 1, 5, 6, 3, 4] rfl (fun _ => rfl) ⟨Nat.le_of_ble_eq_true rfl, Nat.le_of_ble_eq_true rfl⟩ ⟨Nat.le_of_ble_eq_true rfl, Nat.le_of_ble_eq_true rfl⟩ (Nat.le_of_ble_eq_true rfl) hl rfl dX8_waitsOf_44 (fun u H locs hq h => ?_)
          have h : HS D A s H locs [(p0, .inr (8, [.ref p1, .int pgm, .ref p2, .int rdm, .int rdb, .int stt, .int (nI n), .int bar, .int hrs, .int crd, .ref p3, .ref p4, .ref p5, .ref p6, .ref p7, .int to1, .int tm1, .ref p8, .ref p9, .int bdn, .ref p10, .int snm, .ref p11, .ref p12, .ref p13, .int sdn, .int kcs, .int khr, .int ksn, .ref p14, .ref p15, .ref p16, .ref p17, .long hlg])), (p3, .inl (cI, 5, .inl K)), (p4, .inl (cI, 5, .inl F)), (p5, .inl (cI, 5, .inl w)), (p6, .inl (cI, 5, .inl (ro ρ))), (p8, .inl (cI, 5, .inl w)), (p9, .inl (cI, 5, .inl (ro ρ)))] := h
          have hq : True := hq
          refine lv_iload_n hx hb dX8_waitsOf_47 rfl (lv_at hl 2 rfl) ?_
          exact hret (r := hh) (⟨to1, tm1⟩) dX8_waitsOf_48 h (rfl) (hv0.elim (fun z => absurd z.1 c_16) (fun z => z.2))
        · skip
          have hv1 := hv0.elim (fun z => z.2) (fun z => absurd c_16 z.1)
          refine lv_aload_n hx hb dX8_waitsOf_19 rfl (lv_at hl 0 rfl) ?_
          refine k_Vv (rest := []) (as := []) (wc := [(p0, .inr (8, [.ref p1, .int pgm, .ref p2, .int rdm, .int rdb, .int stt, .int (nI n), .int bar, .int hrs, .int crd, .ref p3, .ref p4, .ref p5, .ref p6, .ref p7, .int to1, .int tm1, .ref p8, .ref p9, .int bdn, .ref p10, .int snm, .ref p11, .ref p12, .ref p13, .int sdn, .int kcs, .int khr, .int ksn, .ref p14, .ref p15, .ref p16, .ref p17, .long hlg])), (p3, .inl (cI, 5, .inl K)), (p4, .inl (cI, 5, .inl F)), (p5, .inl (cI, 5, .inl (hit n K F bar w ρ k).1)), (p6, .inl (cI, 5, .inl (ro (hit n K F bar w ρ k).2)))]) (wr := [(p8, .inl (cI, 5, .inl w)), (p9, .inl (cI, 5, .inl (ro ρ)))]) (isC := [0, 1, 2, 3, 4]) (isR := [5, 6]) (w2 := fun (_ : Unit) => [(p0, .inr (8, [.ref p1, .int pgm, .ref p2, .int rdm, .int rdb, .int stt, .int (nI n), .int bar, .int hrs, .int crd, .ref p3, .ref p4, .ref p5, .ref p6, .ref p7, .int (hoo n K F bar (hit n K F bar w ρ k).1 (hit n K F bar w ρ k).2), .int (hmm n K F bar (hit n K F bar w ρ k).1 (hit n K F bar w ρ k).2), .ref p8, .ref p9, .int bdn, .ref p10, .int snm, .ref p11, .ref p12, .ref p13, .int sdn, .int kcs, .int khr, .int ksn, .ref p14, .ref p15, .ref p16, .ref p17, .long hlg])), (p3, .inl (cI, 5, .inl K)), (p4, .inl (cI, 5, .inl F)), (p5, .inl (cI, 5, .inl (hww n K F bar (hit n K F bar w ρ k).1 (hit n K F bar w ρ k).2))), (p6, .inl (cI, 5, .inl (ro (hrr n K F bar (hit n K F bar w ρ k).1 (hit n K F bar w ρ k).2)))), (p8, .inl (cI, 5, .inl w)), (p9, .inl (cI, 5, .inl (ro ρ)))]) C h (c_X8_goesBy l D cI cZ kS vS p0 p1 p2 p3 p4 p5 p6 p7 p8 p9 p10 p11 p12 p13 p14 p15 p16 p17 n pgm rdm rdb stt bar hrs crd to1 tm1 bdn snm sdn kcs khr ksn hlg (hit n K F bar w ρ k).1 (hit n K F bar w ρ k).2 K F hn2 hn5 hpk hK) wv_X8_goesBy rfl ⟨rfl, rfl, rfl, rfl, by decide⟩ fk8 0 rfl ml_RX8_135 [2, 3, 4, 5, 6, 0, 1] rfl (fun _ => rfl) ⟨Nat.le_of_ble_eq_true rfl, Nat.le_of_ble_eq_true rfl⟩ ⟨Nat.le_of_ble_eq_true rfl, Nat.le_of_ble_eq_true rfl⟩ (Nat.le_of_ble_eq_true rfl) hl rfl dX8_waitsOf_20 (fun u H locs hq h => ?_)
          have h : HS D A s H locs [(p0, .inr (8, [.ref p1, .int pgm, .ref p2, .int rdm, .int rdb, .int stt, .int (nI n), .int bar, .int hrs, .int crd, .ref p3, .ref p4, .ref p5, .ref p6, .ref p7, .int (hoo n K F bar (hit n K F bar w ρ k).1 (hit n K F bar w ρ k).2), .int (hmm n K F bar (hit n K F bar w ρ k).1 (hit n K F bar w ρ k).2), .ref p8, .ref p9, .int bdn, .ref p10, .int snm, .ref p11, .ref p12, .ref p13, .int sdn, .int kcs, .int khr, .int ksn, .ref p14, .ref p15, .ref p16, .ref p17, .long hlg])), (p3, .inl (cI, 5, .inl K)), (p4, .inl (cI, 5, .inl F)), (p5, .inl (cI, 5, .inl (hww n K F bar (hit n K F bar w ρ k).1 (hit n K F bar w ρ k).2))), (p6, .inl (cI, 5, .inl (ro (hrr n K F bar (hit n K F bar w ρ k).1 (hit n K F bar w ρ k).2)))), (p8, .inl (cI, 5, .inl w)), (p9, .inl (cI, 5, .inl (ro ρ)))] := h
          have hq : True := hq
          refine lv_aload_n hx hb dX8_waitsOf_23 rfl (lv_at hl 0 rfl) ?_
          refine r_get C h fk8 0 15 rfl (by decide) mf_RX8_121 rfl dX8_waitsOf_24 ?_
          refine lv_iload_n hx hb dX8_waitsOf_27 rfl (lv_at hl 1 rfl) ?_
          refine lv_icmp_ne (tgt := 35) hx hb dX8_waitsOf_28 (by decide) (fun c_28 => ?_) (fun c_28 => ?_)
          · skip
            have hnx : ((-1 : Int32) = -1 ∧ hwt n K F bar w ρ (nI rr) (60 - (k + 1)) (k + 1) = hwt n K F bar w ρ (nI rr) 60 0) ∨ (¬ (-1 : Int32) = -1 ∧ (-1 : Int32) = hwt n K F bar w ρ (nI rr) 60 0) := Or.inl ⟨rfl, (hs0.trans (if_neg c_28)).symm.trans hv1⟩
            refine lv_iconst (v := (-1)) hx hb dX8_waitsOf_35 (by decide) ?_
            refine lv_istore_n (lv' := [(2, .int (-1)), (0, .ref p0), (1, .int (nI rr)), (3, .int (nI (k + 1)))]) hx hb dX8_waitsOf_36 rfl hl (by decide) rfl (fun ls hl => ?_)
            refine lv_iinc (v := nI ((k + 1) + 1)) (lv' := [(3, .int (nI ((k + 1) + 1))), (2, .int (-1)), (0, .ref p0), (1, .int (nI rr))]) hx hb dX8_waitsOf_37 hl (k := 3) rfl (nI_1 (k + 1)) (by decide) rfl (fun ls hl => ?_)
            refine lv_goto (tgt := 8) hx hb dX8_waitsOf_40 (by decide) ?_
            have h := h.arr 3 (g := (hit n K F bar w ρ (k + 1)).1) rfl (fun j hj => rfl) rfl
            have h := h.arr 4 (g := ro (hit n K F bar w ρ (k + 1)).2) rfl (fun j hj => rfl) rfl
            exact ih8  (k + 1) (hoo n K F bar (hit n K F bar w ρ k).1 (hit n K F bar w ρ k).2) (hmm n K F bar (hit n K F bar w ρ k).1 (hit n K F bar w ρ k).2) (-1) (by omega) (by omega) hnx _ _ _ h (lv_sub hl [2, 3, 1, 0] rfl)
          · skip
            have hne : ¬ nI (k + 1) = -1 := fun z => absurd (congrArg Int32.toInt z) (by rw [nI_toInt (by omega), show (-1 : Int32).toInt = -1 from rfl]; omega)
            have hnx : (nI (k + 1) = -1 ∧ hwt n K F bar w ρ (nI rr) (60 - (k + 1)) (k + 1) = hwt n K F bar w ρ (nI rr) 60 0) ∨ (¬ nI (k + 1) = -1 ∧ nI (k + 1) = hwt n K F bar w ρ (nI rr) 60 0) := Or.inr ⟨hne, (hs0.trans (if_pos c_28)).symm.trans hv1⟩
            refine lv_iload_n hx hb dX8_waitsOf_31 rfl (lv_at hl 3 rfl) ?_
            refine lv_goto (tgt := 36) hx hb dX8_waitsOf_32 (by decide) ?_
            refine lv_istore_n (lv' := [(2, .int (nI (k + 1))), (0, .ref p0), (1, .int (nI rr)), (3, .int (nI (k + 1)))]) hx hb dX8_waitsOf_36 rfl hl (by decide) rfl (fun ls hl => ?_)
            refine lv_iinc (v := nI ((k + 1) + 1)) (lv' := [(3, .int (nI ((k + 1) + 1))), (2, .int (nI (k + 1))), (0, .ref p0), (1, .int (nI rr))]) hx hb dX8_waitsOf_37 hl (k := 3) rfl (nI_1 (k + 1)) (by decide) rfl (fun ls hl => ?_)
            refine lv_goto (tgt := 8) hx hb dX8_waitsOf_40 (by decide) ?_
            have h := h.arr 3 (g := (hit n K F bar w ρ (k + 1)).1) rfl (fun j hj => rfl) rfl
            have h := h.arr 4 (g := ro (hit n K F bar w ρ (k + 1)).2) rfl (fun j hj => rfl) rfl
            exact ih8  (k + 1) (hoo n K F bar (hit n K F bar w ρ k).1 (hit n K F bar w ρ k).2) (hmm n K F bar (hit n K F bar w ρ k).1 (hit n K F bar w ρ k).2) (nI (k + 1)) (by omega) (by omega) hnx _ _ _ h (lv_sub hl [2, 3, 1, 0] rfl)
  have h := h.arr 3 (g := (hit n K F bar w ρ 0).1) rfl (fun j hj => rfl) rfl
  have h := h.arr 4 (g := ro (hit n K F bar w ρ 0).2) rfl (fun j hj => rfl) rfl
  exact L8 ((60 - 0) + 1) 0 tof tmu (-1) (by omega) (by first | assumption | omega) (Or.inl ⟨rfl, rfl⟩) _ _ _ h (lv_sub hl [2, 3, 1, 0] rfl)

set_option maxHeartbeats 4000000 in
set_option maxRecDepth 100000 in
theorem c_X8_wideOf (l : Launch) (D : va_G) (cI cZ : ClassId) (kS vS : Nat) (p0 : Nat) (p1 : Nat) (p2 : Nat) (p3 : Nat) (p4 : Nat) (p5 : Nat) (p6 : Nat) (p7 : Nat) (p8 : Nat) (p9 : Nat) (p10 : Nat) (p11 : Nat) (p12 : Nat) (p13 : Nat) (p14 : Nat) (p15 : Nat) (p16 : Nat) (p17 : Nat) (n : Nat) (pgm : Int32) (rdm : Int32) (rdb : Int32) (stt : Int32) (bar : Int32) (hrs : Int32) (crd : Int32) (tof : Int32) (tmu : Int32) (bdn : Int32) (snm : Int32) (sdn : Int32) (kcs : Int32) (khr : Int32) (ksn : Int32) (hlg : Int64) (w : Nat → Int32) (ρ : Nat → Nat) (K : Nat → Int32) (F : Nat → Int32) (sw : Nat → Int32) (ss : Nat → Int32) (mm : Nat) (what : Int32) (hn2 : 2 ≤ n) (hn5 : n ≤ 5) (hpm : PM n ρ) (hK : ∀ j, j < n → K j = 0 ∨ K j = 1 ∨ K j = 2 ∨ K j = 3 ∨ K j = 4) (hm : mm ≤ 60) : CI l yX8_wideOf cX8_wideOf 7 .int D cI cZ kS vS 2 48 0 0 [.ref p0, .int (nI mm), .int what] [(p0, .inr (8, [.ref p1, .int pgm, .ref p2, .int rdm, .int rdb, .int stt, .int (nI n), .int bar, .int hrs, .int crd, .ref p3, .ref p4, .ref p5, .ref p6, .ref p7, .int tof, .int tmu, .ref p8, .ref p9, .int bdn, .ref p10, .int snm, .ref p11, .ref p12, .ref p13, .int sdn, .int kcs, .int khr, .int ksn, .ref p14, .ref p15, .ref p16, .ref p17, .long hlg])), (p3, .inl (cI, 5, .inl K)), (p4, .inl (cI, 5, .inl F)), (p5, .inl (cI, 5, .inl w)), (p6, .inl (cI, 5, .inl (ro ρ))), (p8, .inl (cI, 5, .inl sw)), (p9, .inl (cI, 5, .inl ss))] (fun (r : Int32) (u : Int32 × Int32) => r = if what = 0 then (hwd n K F bar w ρ mm).2 else (hwd n K F bar w ρ mm).1) (fun (u : Int32 × Int32) => [(p0, .inr (8, [.ref p1, .int pgm, .ref p2, .int rdm, .int rdb, .int stt, .int (nI n), .int bar, .int hrs, .int crd, .ref p3, .ref p4, .ref p5, .ref p6, .ref p7, .int u.1, .int u.2, .ref p8, .ref p9, .int bdn, .ref p10, .int snm, .ref p11, .ref p12, .ref p13, .int sdn, .int kcs, .int khr, .int ksn, .ref p14, .ref p15, .ref p16, .ref p17, .long hlg])), (p3, .inl (cI, 5, .inl K)), (p4, .inl (cI, 5, .inl F)), (p5, .inl (cI, 5, .inl w)), (p6, .inl (cI, 5, .inl (ro ρ))), (p8, .inl (cI, 5, .inl w)), (p9, .inl (cI, 5, .inl (ro ρ)))]) := by
  refine CI_intro (by decide) (Nat.le_of_ble_eq_true rfl) ?_
  intro p e s m args below meth c A Q ls C h hret hl
  have C : CX p s m args c cX8_wideOf 7 RX8 D cI cZ kS vS A := C
  have hx := C.1.1
  have hb := C.1.2.1
  have hl : lv_has ls 7 [(0, .ref p0), (1, .int (nI mm)), (2, .int what)] := hl
  refine lv_aload_n hx hb dX8_wideOf_0 rfl (lv_at hl 0 rfl) ?_
  refine k_Vv (rest := []) (as := []) (wc := [(p0, .inr (8, [.ref p1, .int pgm, .ref p2, .int rdm, .int rdb, .int stt, .int (nI n), .int bar, .int hrs, .int crd, .ref p3, .ref p4, .ref p5, .ref p6, .ref p7, .int tof, .int tmu, .ref p8, .ref p9, .int bdn, .ref p10, .int snm, .ref p11, .ref p12, .ref p13, .int sdn, .int kcs, .int khr, .int ksn, .ref p14, .ref p15, .ref p16, .ref p17, .long hlg])), (p5, .inl (cI, 5, .inl w)), (p6, .inl (cI, 5, .inl (ro ρ))), (p8, .inl (cI, 5, .inl sw)), (p9, .inl (cI, 5, .inl ss))]) (wr := [(p3, .inl (cI, 5, .inl K)), (p4, .inl (cI, 5, .inl F))]) (isC := [0, 3, 4, 5, 6]) (isR := [1, 2]) (w2 := fun (_ : Unit) => [(p0, .inr (8, [.ref p1, .int pgm, .ref p2, .int rdm, .int rdb, .int stt, .int (nI n), .int bar, .int hrs, .int crd, .ref p3, .ref p4, .ref p5, .ref p6, .ref p7, .int tof, .int tmu, .ref p8, .ref p9, .int bdn, .ref p10, .int snm, .ref p11, .ref p12, .ref p13, .int sdn, .int kcs, .int khr, .int ksn, .ref p14, .ref p15, .ref p16, .ref p17, .long hlg])), (p3, .inl (cI, 5, .inl K)), (p4, .inl (cI, 5, .inl F)), (p5, .inl (cI, 5, .inl w)), (p6, .inl (cI, 5, .inl (ro ρ))), (p8, .inl (cI, 5, .inl w)), (p9, .inl (cI, 5, .inl (ro ρ)))]) C h (c_X8_layAside l D cI cZ kS vS p0 p1 p2 p3 p4 p5 p6 p7 p8 p9 p10 p11 p12 p13 p14 p15 p16 p17 n pgm rdm rdb stt bar hrs crd tof tmu bdn snm sdn kcs khr ksn hlg w (ro ρ) sw ss ) wv_X8_layAside rfl ⟨rfl, rfl, rfl, rfl, by decide⟩ fk8 0 rfl ml_RX8_132 [2, 0, 1, 3, 4, 5, 6] rfl (fun _ => rfl) ⟨Nat.le_of_ble_eq_true rfl, Nat.le_of_ble_eq_true rfl⟩ ⟨Nat.le_of_ble_eq_true rfl, Nat.le_of_ble_eq_true rfl⟩ (Nat.le_of_ble_eq_true rfl) hl rfl dX8_wideOf_1 (fun u H locs hq h => ?_)
  have h : HS D A s H locs [(p0, .inr (8, [.ref p1, .int pgm, .ref p2, .int rdm, .int rdb, .int stt, .int (nI n), .int bar, .int hrs, .int crd, .ref p3, .ref p4, .ref p5, .ref p6, .ref p7, .int tof, .int tmu, .ref p8, .ref p9, .int bdn, .ref p10, .int snm, .ref p11, .ref p12, .ref p13, .int sdn, .int kcs, .int khr, .int ksn, .ref p14, .ref p15, .ref p16, .ref p17, .long hlg])), (p3, .inl (cI, 5, .inl K)), (p4, .inl (cI, 5, .inl F)), (p5, .inl (cI, 5, .inl w)), (p6, .inl (cI, 5, .inl (ro ρ))), (p8, .inl (cI, 5, .inl w)), (p9, .inl (cI, 5, .inl (ro ρ)))] := h
  have hq : True := hq
  refine lv_iconst (v := (-1)) hx hb dX8_wideOf_4 (by decide) ?_
  refine lv_istore_n (lv' := [(3, .int (-1)), (0, .ref p0), (1, .int (nI mm)), (2, .int what)]) hx hb dX8_wideOf_5 rfl hl (by decide) rfl (fun ls hl => ?_)
  refine lv_iconst (v := (-1)) hx hb dX8_wideOf_6 (by decide) ?_
  refine lv_istore (lv' := [(4, .int (-1)), (3, .int (-1)), (0, .ref p0), (1, .int (nI mm)), (2, .int what)]) hx hb dX8_wideOf_7 hl (by decide) rfl (fun ls hl => ?_)
  refine lv_iconst (v := 1) hx hb dX8_wideOf_9 (by decide) ?_
  refine lv_istore (lv' := [(5, .int 1), (4, .int (-1)), (3, .int (-1)), (0, .ref p0), (1, .int (nI mm)), (2, .int what)]) hx hb dX8_wideOf_10 hl (by decide) rfl (fun ls hl => ?_)
  have L12 : ∀ (fu : Nat) (k : Nat) (to1 : Int32) (tm1 : Int32), (mm - k) < fu → (hk : k ≤ mm) → ∀ (H : Heap) (locs : List Loc) (ls : Array Slot), HS D A s H locs [(p0, .inr (8, [.ref p1, .int pgm, .ref p2, .int rdm, .int rdb, .int stt, .int (nI n), .int bar, .int hrs, .int crd, .ref p3, .ref p4, .ref p5, .ref p6, .ref p7, .int to1, .int tm1, .ref p8, .ref p9, .int bdn, .ref p10, .int snm, .ref p11, .ref p12, .ref p13, .int sdn, .int kcs, .int khr, .int ksn, .ref p14, .ref p15, .ref p16, .ref p17, .long hlg])), (p3, .inl (cI, 5, .inl K)), (p4, .inl (cI, 5, .inl F)), (p5, .inl (cI, 5, .inl (hit n K F bar w ρ k).1)), (p6, .inl (cI, 5, .inl (ro (hit n K F bar w ρ k).2))), (p8, .inl (cI, 5, .inl w)), (p9, .inl (cI, 5, .inl (ro ρ)))] → lv_has ls 7 [(0, .ref p0), (1, .int (nI mm)), (2, .int what), (3, .int (hwd n K F bar w ρ k).2), (4, .int (hwd n K F bar w ρ k).1), (5, .int (nI (k + 1)))] → W p l e (rmO 2 48 0 0) s m args below meth c H locs 0 0 Q (F0 m 12 ls []) := by
    intro fu
    induction fu with
    | zero => intro k to1 tm1 hfu; exact absurd hfu (Nat.not_lt_zero _)
    | succ fu ih12 =>
      intro k to1 tm1 hfu hk H locs ls h hl
      refine lv_iload hx hb dX8_wideOf_12 (lv_at hl 5 rfl) ?_
      refine lv_iload_n hx hb dX8_wideOf_14 rfl (lv_at hl 1 rfl) ?_
      refine lv_icmp_gt (tgt := 62) hx hb dX8_wideOf_15 (by decide) (fun c_15 => ?_) (fun c_15 => ?_)
      · skip
        have c_15 := (jlt (a := mm) (b := (k + 1)) (by omega) (by omega)).mp c_15
        obtain rfl : mm = k := by omega
        refine lv_aload_n hx hb dX8_wideOf_62 rfl (lv_at hl 0 rfl) ?_
        refine k_Vv (rest := []) (as := []) (wc := [(p0, .inr (8, [.ref p1, .int pgm, .ref p2, .int rdm, .int rdb, .int stt, .int (nI n), .int bar, .int hrs, .int crd, .ref p3, .ref p4, .ref p5, .ref p6, .ref p7, .int to1, .int tm1, .ref p8, .ref p9, .int bdn, .ref p10, .int snm, .ref p11, .ref p12, .ref p13, .int sdn, .int kcs, .int khr, .int ksn, .ref p14, .ref p15, .ref p16, .ref p17, .long hlg])), (p8, .inl (cI, 5, .inl w)), (p9, .inl (cI, 5, .inl (ro ρ))), (p5, .inl (cI, 5, .inl (hit n K F bar w ρ mm).1)), (p6, .inl (cI, 5, .inl (ro (hit n K F bar w ρ mm).2)))]) (wr := [(p3, .inl (cI, 5, .inl K)), (p4, .inl (cI, 5, .inl F))]) (isC := [0, 5, 6, 3, 4]) (isR := [1, 2]) (w2 := fun (_ : Unit) => [(p0, .inr (8, [.ref p1, .int pgm, .ref p2, .int rdm, .int rdb, .int stt, .int (nI n), .int bar, .int hrs, .int crd, .ref p3, .ref p4, .ref p5, .ref p6, .ref p7, .int to1, .int tm1, .ref p8, .ref p9, .int bdn, .ref p10, .int snm, .ref p11, .ref p12, .ref p13, .int sdn, .int kcs, .int khr, .int ksn, .ref p14, .ref p15, .ref p16, .ref p17, .long hlg])), (p3, .inl (cI, 5, .inl K)), (p4, .inl (cI, 5, .inl F)), (p5, .inl (cI, 5, .inl w)), (p6, .inl (cI, 5, .inl (ro ρ))), (p8, .inl (cI, 5, .inl w)), (p9, .inl (cI, 5, .inl (ro ρ)))]) C h (c_X8_layBack l D cI cZ kS vS p0 p1 p2 p3 p4 p5 p6 p7 p8 p9 p10 p11 p12 p13 p14 p15 p16 p17 n pgm rdm rdb stt bar hrs crd to1 tm1 bdn snm sdn kcs khr ksn hlg w (ro ρ) (hit n K F bar w ρ mm).1 (ro (hit n K F bar w ρ mm).2) ) wv_X8_layBack rfl ⟨rfl, rfl, rfl, rfl, by decide⟩ fk8 0 rfl ml_RX8_138 [2, 0, 1, 5, 6, 3, 4] rfl (fun _ => rfl) ⟨Nat.le_of_ble_eq_true rfl, Nat.le_of_ble_eq_true rfl⟩ ⟨Nat.le_of_ble_eq_true rfl, Nat.le_of_ble_eq_true rfl⟩ (Nat.le_of_ble_eq_true rfl) hl rfl dX8_wideOf_63 (fun u H locs hq h => ?_)
        have h : HS D A s H locs [(p0, .inr (8, [.ref p1, .int pgm, .ref p2, .int rdm, .int rdb, .int stt, .int (nI n), .int bar, .int hrs, .int crd, .ref p3, .ref p4, .ref p5, .ref p6, .ref p7, .int to1, .int tm1, .ref p8, .ref p9, .int bdn, .ref p10, .int snm, .ref p11, .ref p12, .ref p13, .int sdn, .int kcs, .int khr, .int ksn, .ref p14, .ref p15, .ref p16, .ref p17, .long hlg])), (p3, .inl (cI, 5, .inl K)), (p4, .inl (cI, 5, .inl F)), (p5, .inl (cI, 5, .inl w)), (p6, .inl (cI, 5, .inl (ro ρ))), (p8, .inl (cI, 5, .inl w)), (p9, .inl (cI, 5, .inl (ro ρ)))] := h
        have hq : True := hq
        refine lv_iload_n hx hb dX8_wideOf_66 rfl (lv_at hl 2 rfl) ?_
        refine lv_if_ne (tgt := 74) hx hb dX8_wideOf_67 (by decide) (fun c_67 => ?_) (fun c_67 => ?_)
        · skip
          refine lv_iload hx hb dX8_wideOf_74 (lv_at hl 4 rfl) ?_
          exact hret (r := (hwd n K F bar w ρ mm).1) (⟨to1, tm1⟩) dX8_wideOf_76 h (rfl) ((if_neg c_67).symm)
        · skip
          refine lv_iload_n hx hb dX8_wideOf_70 rfl (lv_at hl 3 rfl) ?_
          refine lv_goto (tgt := 76) hx hb dX8_wideOf_71 (by decide) ?_
          exact hret (r := (hwd n K F bar w ρ mm).2) (⟨to1, tm1⟩) dX8_wideOf_76 h (rfl) ((if_pos c_67).symm)
      · skip
        have c_15 : ¬ mm < (k + 1) := fun z => c_15 ((jlt (a := mm) (b := (k + 1)) (by omega) (by omega)).mpr z)
        have hlt : k < mm := by omega
        have hpk := hpm.hit (K := K) (F := F) (bar := bar) (w := w) hn2 k
        refine lv_aload_n hx hb dX8_wideOf_18 rfl (lv_at hl 0 rfl) ?_
        refine k_Vv (rest := []) (as := []) (wc := [(p0, .inr (8, [.ref p1, .int pgm, .ref p2, .int rdm, .int rdb, .int stt, .int (nI n), .int bar, .int hrs, .int crd, .ref p3, .ref p4, .ref p5, .ref p6, .ref p7, .int to1, .int tm1, .ref p8, .ref p9, .int bdn, .ref p10, .int snm, .ref p11, .ref p12, .ref p13, .int sdn, .int kcs, .int khr, .int ksn, .ref p14, .ref p15, .ref p16, .ref p17, .long hlg])), (p3, .inl (cI, 5, .inl K)), (p4, .inl (cI, 5, .inl F)), (p5, .inl (cI, 5, .inl (hit n K F bar w ρ k).1)), (p6, .inl (cI, 5, .inl (ro (hit n K F bar w ρ k).2)))]) (wr := [(p8, .inl (cI, 5, .inl w)), (p9, .inl (cI, 5, .inl (ro ρ)))]) (isC := [0, 1, 2, 3, 4]) (isR := [5, 6]) (w2 := fun (_ : Unit) => [(p0, .inr (8, [.ref p1, .int pgm, .ref p2, .int rdm, .int rdb, .int stt, .int (nI n), .int bar, .int hrs, .int crd, .ref p3, .ref p4, .ref p5, .ref p6, .ref p7, .int (hoo n K F bar (hit n K F bar w ρ k).1 (hit n K F bar w ρ k).2), .int (hmm n K F bar (hit n K F bar w ρ k).1 (hit n K F bar w ρ k).2), .ref p8, .ref p9, .int bdn, .ref p10, .int snm, .ref p11, .ref p12, .ref p13, .int sdn, .int kcs, .int khr, .int ksn, .ref p14, .ref p15, .ref p16, .ref p17, .long hlg])), (p3, .inl (cI, 5, .inl K)), (p4, .inl (cI, 5, .inl F)), (p5, .inl (cI, 5, .inl (hww n K F bar (hit n K F bar w ρ k).1 (hit n K F bar w ρ k).2))), (p6, .inl (cI, 5, .inl (ro (hrr n K F bar (hit n K F bar w ρ k).1 (hit n K F bar w ρ k).2)))), (p8, .inl (cI, 5, .inl w)), (p9, .inl (cI, 5, .inl (ro ρ)))]) C h (c_X8_goesBy l D cI cZ kS vS p0 p1 p2 p3 p4 p5 p6 p7 p8 p9 p10 p11 p12 p13 p14 p15 p16 p17 n pgm rdm rdb stt bar hrs crd to1 tm1 bdn snm sdn kcs khr ksn hlg (hit n K F bar w ρ k).1 (hit n K F bar w ρ k).2 K F hn2 hn5 hpk hK) wv_X8_goesBy rfl ⟨rfl, rfl, rfl, rfl, by decide⟩ fk8 0 rfl ml_RX8_135 [2, 3, 4, 5, 6, 0, 1] rfl (fun _ => rfl) ⟨Nat.le_of_ble_eq_true rfl, Nat.le_of_ble_eq_true rfl⟩ ⟨Nat.le_of_ble_eq_true rfl, Nat.le_of_ble_eq_true rfl⟩ (Nat.le_of_ble_eq_true rfl) hl rfl dX8_wideOf_19 (fun u H locs hq h => ?_)
        have h : HS D A s H locs [(p0, .inr (8, [.ref p1, .int pgm, .ref p2, .int rdm, .int rdb, .int stt, .int (nI n), .int bar, .int hrs, .int crd, .ref p3, .ref p4, .ref p5, .ref p6, .ref p7, .int (hoo n K F bar (hit n K F bar w ρ k).1 (hit n K F bar w ρ k).2), .int (hmm n K F bar (hit n K F bar w ρ k).1 (hit n K F bar w ρ k).2), .ref p8, .ref p9, .int bdn, .ref p10, .int snm, .ref p11, .ref p12, .ref p13, .int sdn, .int kcs, .int khr, .int ksn, .ref p14, .ref p15, .ref p16, .ref p17, .long hlg])), (p3, .inl (cI, 5, .inl K)), (p4, .inl (cI, 5, .inl F)), (p5, .inl (cI, 5, .inl (hww n K F bar (hit n K F bar w ρ k).1 (hit n K F bar w ρ k).2))), (p6, .inl (cI, 5, .inl (ro (hrr n K F bar (hit n K F bar w ρ k).1 (hit n K F bar w ρ k).2)))), (p8, .inl (cI, 5, .inl w)), (p9, .inl (cI, 5, .inl (ro ρ)))] := h
        have hq : True := hq
        refine lv_aload_n hx hb dX8_wideOf_22 rfl (lv_at hl 0 rfl) ?_
        refine k_Vi (rest := []) (as := []) (wc := [(p0, .inr (8, [.ref p1, .int pgm, .ref p2, .int rdm, .int rdb, .int stt, .int (nI n), .int bar, .int hrs, .int crd, .ref p3, .ref p4, .ref p5, .ref p6, .ref p7, .int (hoo n K F bar (hit n K F bar w ρ k).1 (hit n K F bar w ρ k).2), .int (hmm n K F bar (hit n K F bar w ρ k).1 (hit n K F bar w ρ k).2), .ref p8, .ref p9, .int bdn, .ref p10, .int snm, .ref p11, .ref p12, .ref p13, .int sdn, .int kcs, .int khr, .int ksn, .ref p14, .ref p15, .ref p16, .ref p17, .long hlg])), (p5, .inl (cI, 5, .inl (hww n K F bar (hit n K F bar w ρ k).1 (hit n K F bar w ρ k).2)))]) (wr := [(p3, .inl (cI, 5, .inl K)), (p4, .inl (cI, 5, .inl F)), (p6, .inl (cI, 5, .inl (ro (hrr n K F bar (hit n K F bar w ρ k).1 (hit n K F bar w ρ k).2)))), (p8, .inl (cI, 5, .inl w)), (p9, .inl (cI, 5, .inl (ro ρ)))]) (isC := [0, 3]) (isR := [1, 2, 4, 5, 6]) (w2 := fun (_ : Unit) => [(p0, .inr (8, [.ref p1, .int pgm, .ref p2, .int rdm, .int rdb, .int stt, .int (nI n), .int bar, .int hrs, .int crd, .ref p3, .ref p4, .ref p5, .ref p6, .ref p7, .int (hoo n K F bar (hit n K F bar w ρ k).1 (hit n K F bar w ρ k).2), .int (hmm n K F bar (hit n K F bar w ρ k).1 (hit n K F bar w ρ k).2), .ref p8, .ref p9, .int bdn, .ref p10, .int snm, .ref p11, .ref p12, .ref p13, .int sdn, .int kcs, .int khr, .int ksn, .ref p14, .ref p15, .ref p16, .ref p17, .long hlg])), (p3, .inl (cI, 5, .inl K)), (p4, .inl (cI, 5, .inl F)), (p5, .inl (cI, 5, .inl (hww n K F bar (hit n K F bar w ρ k).1 (hit n K F bar w ρ k).2))), (p6, .inl (cI, 5, .inl (ro (hrr n K F bar (hit n K F bar w ρ k).1 (hit n K F bar w ρ k).2)))), (p8, .inl (cI, 5, .inl w)), (p9, .inl (cI, 5, .inl (ro ρ)))]) C h (c_X8_standing l D cI cZ kS vS p0 p1 p2 p3 p4 p5 p6 p7 p8 p9 p10 p11 p12 p13 p14 p15 p16 p17 n pgm rdm rdb stt bar hrs crd (hoo n K F bar (hit n K F bar w ρ k).1 (hit n K F bar w ρ k).2) (hmm n K F bar (hit n K F bar w ρ k).1 (hit n K F bar w ρ k).2) bdn snm sdn kcs khr ksn hlg (hww n K F bar (hit n K F bar w ρ k).1 (hit n K F bar w ρ k).2) hn5) wv_X8_standing rfl ⟨rfl, rfl, rfl, rfl, by decide⟩ fk8 0 rfl ml_RX8_171 [5, 0, 1, 6, 2, 3, 4] rfl (fun _ => rfl) ⟨Nat.le_of_ble_eq_true rfl, Nat.le_of_ble_eq_true rfl⟩ ⟨Nat.le_of_ble_eq_true rfl, Nat.le_of_ble_eq_true rfl⟩ (Nat.le_of_ble_eq_true rfl) hl rfl dX8_wideOf_23 (fun r u H locs hq h => ?_)
        have h : HS D A s H locs [(p0, .inr (8, [.ref p1, .int pgm, .ref p2, .int rdm, .int rdb, .int stt, .int (nI n), .int bar, .int hrs, .int crd, .ref p3, .ref p4, .ref p5, .ref p6, .ref p7, .int (hoo n K F bar (hit n K F bar w ρ k).1 (hit n K F bar w ρ k).2), .int (hmm n K F bar (hit n K F bar w ρ k).1 (hit n K F bar w ρ k).2), .ref p8, .ref p9, .int bdn, .ref p10, .int snm, .ref p11, .ref p12, .ref p13, .int sdn, .int kcs, .int khr, .int ksn, .ref p14, .ref p15, .ref p16, .ref p17, .long hlg])), (p3, .inl (cI, 5, .inl K)), (p4, .inl (cI, 5, .inl F)), (p5, .inl (cI, 5, .inl (hww n K F bar (hit n K F bar w ρ k).1 (hit n K F bar w ρ k).2))), (p6, .inl (cI, 5, .inl (ro (hrr n K F bar (hit n K F bar w ρ k).1 (hit n K F bar w ρ k).2)))), (p8, .inl (cI, 5, .inl w)), (p9, .inl (cI, 5, .inl (ro ρ)))] := h
        have hq : r = hsum (hww n K F bar (hit n K F bar w ρ k).1 (hit n K F bar w ρ k).2) n := hq
        have hq := hq.symm
        subst hq
        refine r_top (y := hsm n K F bar w ρ (k + 1)) (rfl) ?_
        refine lv_istore (lv' := [(6, .int (hsm n K F bar w ρ (k + 1))), (0, .ref p0), (1, .int (nI mm)), (2, .int what), (3, .int (hwd n K F bar w ρ k).2), (4, .int (hwd n K F bar w ρ k).1), (5, .int (nI (k + 1)))]) hx hb dX8_wideOf_26 hl (by decide) rfl (fun ls hl => ?_)
        refine lv_iload hx hb dX8_wideOf_28 (lv_at hl 0 rfl) ?_
        refine lv_iload_n hx hb dX8_wideOf_30 rfl (lv_at hl 4 rfl) ?_
        refine lv_icmp_le (tgt := 39) hx hb dX8_wideOf_31 (by decide) (fun c_31 => ?_) (fun c_31 => ?_)
        · skip
          have ew : hwd n K F bar w ρ (k + 1) = hwd n K F bar w ρ k := if_pos c_31
          refine lv_iload hx hb dX8_wideOf_39 (lv_at hl 5 rfl) ?_
          refine lv_istore (lv' := [(4, .int (hwd n K F bar w ρ k).1), (6, .int (hsm n K F bar w ρ (k + 1))), (0, .ref p0), (1, .int (nI mm)), (2, .int what), (3, .int (hwd n K F bar w ρ k).2), (5, .int (nI (k + 1)))]) hx hb dX8_wideOf_41 hl (by decide) rfl (fun ls hl => ?_)
          refine lv_iload hx hb dX8_wideOf_43 (lv_at hl 1 rfl) ?_
          refine lv_iload_n hx hb dX8_wideOf_45 rfl (lv_at hl 5 rfl) ?_
          refine lv_icmp_le (tgt := 54) hx hb dX8_wideOf_46 (by decide) (fun c_46 => ?_) (fun c_46 => ?_)
          · skip
            refine lv_iload_n hx hb dX8_wideOf_54 rfl (lv_at hl 5 rfl) ?_
            refine lv_istore_n (lv' := [(3, .int (hwd n K F bar w ρ k).2), (4, .int (hwd n K F bar w ρ k).1), (6, .int (hsm n K F bar w ρ (k + 1))), (0, .ref p0), (1, .int (nI mm)), (2, .int what), (5, .int (nI (k + 1)))]) hx hb dX8_wideOf_55 rfl hl (by decide) rfl (fun ls hl => ?_)
            refine lv_iinc (v := nI ((k + 1) + 1)) (lv' := [(5, .int (nI ((k + 1) + 1))), (3, .int (hwd n K F bar w ρ k).2), (4, .int (hwd n K F bar w ρ k).1), (6, .int (hsm n K F bar w ρ (k + 1))), (0, .ref p0), (1, .int (nI mm)), (2, .int what)]) hx hb dX8_wideOf_56 hl (k := 6) rfl (nI_1 (k + 1)) (by decide) rfl (fun ls hl => ?_)
            refine lv_goto (tgt := 12) hx hb dX8_wideOf_59 (by decide) ?_
            have hl : lv_has ls 7 [(5, .int (nI ((k + 1) + 1))), (3, .int (hwd n K F bar w ρ (k + 1)).2), (4, .int (hwd n K F bar w ρ (k + 1)).1), (6, .int (hsm n K F bar w ρ (k + 1))), (0, .ref p0), (1, .int (nI mm)), (2, .int what)] := by rw [ew]; exact hl
            have h := h.arr 3 (g := (hit n K F bar w ρ (k + 1)).1) rfl (fun j hj => rfl) rfl
            have h := h.arr 4 (g := ro (hit n K F bar w ρ (k + 1)).2) rfl (fun j hj => rfl) rfl
            exact ih12  (k + 1) (hoo n K F bar (hit n K F bar w ρ k).1 (hit n K F bar w ρ k).2) (hmm n K F bar (hit n K F bar w ρ k).1 (hit n K F bar w ρ k).2) (by omega) (by first | assumption | omega) _ _ _ h (lv_sub hl [4, 5, 6, 1, 2, 0] rfl)
          · skip
            exact absurd c_31 c_46
        · skip
          have ew : hwd n K F bar w ρ (k + 1) = (nI (k + 1), hsm n K F bar w ρ (k + 1)) := if_neg c_31
          refine lv_iload hx hb dX8_wideOf_34 (lv_at hl 6 rfl) ?_
          refine lv_goto (tgt := 41) hx hb dX8_wideOf_36 (by decide) ?_
          refine lv_istore (lv' := [(4, .int (nI (k + 1))), (6, .int (hsm n K F bar w ρ (k + 1))), (0, .ref p0), (1, .int (nI mm)), (2, .int what), (3, .int (hwd n K F bar w ρ k).2), (5, .int (nI (k + 1)))]) hx hb dX8_wideOf_41 hl (by decide) rfl (fun ls hl => ?_)
          refine lv_iload hx hb dX8_wideOf_43 (lv_at hl 1 rfl) ?_
          refine lv_iload_n hx hb dX8_wideOf_45 rfl (lv_at hl 5 rfl) ?_
          refine lv_icmp_le (tgt := 54) hx hb dX8_wideOf_46 (by decide) (fun c_46 => ?_) (fun c_46 => ?_)
          · skip
            exact absurd c_46 c_31
          · skip
            refine lv_iload hx hb dX8_wideOf_49 (lv_at hl 1 rfl) ?_
            refine lv_goto (tgt := 55) hx hb dX8_wideOf_51 (by decide) ?_
            refine lv_istore_n (lv' := [(3, .int (hsm n K F bar w ρ (k + 1))), (4, .int (nI (k + 1))), (6, .int (hsm n K F bar w ρ (k + 1))), (0, .ref p0), (1, .int (nI mm)), (2, .int what), (5, .int (nI (k + 1)))]) hx hb dX8_wideOf_55 rfl hl (by decide) rfl (fun ls hl => ?_)
            refine lv_iinc (v := nI ((k + 1) + 1)) (lv' := [(5, .int (nI ((k + 1) + 1))), (3, .int (hsm n K F bar w ρ (k + 1))), (4, .int (nI (k + 1))), (6, .int (hsm n K F bar w ρ (k + 1))), (0, .ref p0), (1, .int (nI mm)), (2, .int what)]) hx hb dX8_wideOf_56 hl (k := 6) rfl (nI_1 (k + 1)) (by decide) rfl (fun ls hl => ?_)
            refine lv_goto (tgt := 12) hx hb dX8_wideOf_59 (by decide) ?_
            have hl : lv_has ls 7 [(5, .int (nI ((k + 1) + 1))), (3, .int (hwd n K F bar w ρ (k + 1)).2), (4, .int (hwd n K F bar w ρ (k + 1)).1), (6, .int (hsm n K F bar w ρ (k + 1))), (0, .ref p0), (1, .int (nI mm)), (2, .int what)] := by rw [ew]; exact hl
            have h := h.arr 3 (g := (hit n K F bar w ρ (k + 1)).1) rfl (fun j hj => rfl) rfl
            have h := h.arr 4 (g := ro (hit n K F bar w ρ (k + 1)).2) rfl (fun j hj => rfl) rfl
            exact ih12  (k + 1) (hoo n K F bar (hit n K F bar w ρ k).1 (hit n K F bar w ρ k).2) (hmm n K F bar (hit n K F bar w ρ k).1 (hit n K F bar w ρ k).2) (by omega) (by first | assumption | omega) _ _ _ h (lv_sub hl [4, 5, 6, 1, 2, 0] rfl)
  have h := h.arr 3 (g := (hit n K F bar w ρ 0).1) rfl (fun j hj => rfl) rfl
  have h := h.arr 4 (g := ro (hit n K F bar w ρ 0).2) rfl (fun j hj => rfl) rfl
  exact L12 ((mm - 0) + 1) 0 tof tmu (by omega) (by first | assumption | omega) _ _ _ h (lv_sub hl [3, 4, 5, 2, 1, 0] rfl)

set_option maxHeartbeats 4000000 in
set_option maxRecDepth 100000 in
theorem c_X8_layThen (l : Launch) (D : va_G) (cI cZ : ClassId) (kS vS : Nat) (p0 : Nat) (p1 : Nat) (p2 : Nat) (p3 : Nat) (p4 : Nat) (p5 : Nat) (p6 : Nat) (p7 : Nat) (p8 : Nat) (p9 : Nat) (p10 : Nat) (p11 : Nat) (p12 : Nat) (p13 : Nat) (p14 : Nat) (p15 : Nat) (p16 : Nat) (p17 : Nat) (n : Nat) (pgm : Int32) (rdm : Int32) (rdb : Int32) (stt : Int32) (bar : Int32) (hrs : Int32) (crd : Int32) (tof : Int32) (tmu : Int32) (bdn : Int32) (snm : Int32) (sdn : Int32) (kcs : Int32) (khr : Int32) (ksn : Int32) (hlg : Int64) (w : Nat → Int32) (ρ : Nat → Nat) (K : Nat → Int32) (F : Nat → Int32) (sw : Nat → Int32) (ss : Nat → Int32) (g : Nat → Int32) (rr : Nat) (v : Nat) (hn2 : 2 ≤ n) (hn5 : n ≤ 5) (hpm : PM n ρ) (hK : ∀ j, j < n → K j = 0 ∨ K j = 1 ∨ K j = 2 ∨ K j = 3 ∨ K j = 4) (hrn : rr < n) (hv9 : v < 10) : CV l yX8_layThen cX8_layThen 4 D cI cZ kS vS 2 48 0 0 [.ref p0, .int (nI rr), .int (nI v)] [(p0, .inr (8, [.ref p1, .int pgm, .ref p2, .int rdm, .int rdb, .int stt, .int (nI n), .int bar, .int hrs, .int crd, .ref p3, .ref p4, .ref p5, .ref p6, .ref p7, .int tof, .int tmu, .ref p8, .ref p9, .int bdn, .ref p10, .int snm, .ref p11, .ref p12, .ref p13, .int sdn, .int kcs, .int khr, .int ksn, .ref p14, .ref p15, .ref p16, .ref p17, .long hlg])), (p3, .inl (cI, 5, .inl K)), (p4, .inl (cI, 5, .inl F)), (p5, .inl (cI, 5, .inl w)), (p6, .inl (cI, 5, .inl (ro ρ))), (p8, .inl (cI, 5, .inl sw)), (p9, .inl (cI, 5, .inl ss)), (p12, .inl (cI, 13, .inl g))] (fun (u : Int32 × Int32) => True) (fun (u : Int32 × Int32) => [(p0, .inr (8, [.ref p1, .int pgm, .ref p2, .int rdm, .int rdb, .int stt, .int (nI n), .int bar, .int hrs, .int crd, .ref p3, .ref p4, .ref p5, .ref p6, .ref p7, .int u.1, .int u.2, .ref p8, .ref p9, .int bdn, .ref p10, .int snm, .ref p11, .ref p12, .ref p13, .int sdn, .int kcs, .int khr, .int ksn, .ref p14, .ref p15, .ref p16, .ref p17, .long hlg])), (p3, .inl (cI, 5, .inl K)), (p4, .inl (cI, 5, .inl F)), (p5, .inl (cI, 5, .inl w)), (p6, .inl (cI, 5, .inl (ro ρ))), (p8, .inl (cI, 5, .inl w)), (p9, .inl (cI, 5, .inl (ro ρ))), (p12, .inl (cI, 13, .inl (hfl (htk n K F bar (upd w rr (nI v)) ρ) g 12)))]) := by
  refine CV_intro (by decide) (Nat.le_of_ble_eq_true rfl) ?_
  intro p e s m args below meth c A Q ls C hini h hret hl
  have C : CX p s m args c cX8_layThen 4 RX8 D cI cZ kS vS A := C
  have hx := C.1.1
  have hb := C.1.2.1
  have hl : lv_has ls 4 [(0, .ref p0), (1, .int (nI rr)), (2, .int (nI v))] := hl
  refine lv_aload_n hx hb dX8_layThen_0 rfl (lv_at hl 0 rfl) ?_
  refine k_Vv (rest := []) (as := []) (wc := [(p0, .inr (8, [.ref p1, .int pgm, .ref p2, .int rdm, .int rdb, .int stt, .int (nI n), .int bar, .int hrs, .int crd, .ref p3, .ref p4, .ref p5, .ref p6, .ref p7, .int tof, .int tmu, .ref p8, .ref p9, .int bdn, .ref p10, .int snm, .ref p11, .ref p12, .ref p13, .int sdn, .int kcs, .int khr, .int ksn, .ref p14, .ref p15, .ref p16, .ref p17, .long hlg])), (p5, .inl (cI, 5, .inl w)), (p6, .inl (cI, 5, .inl (ro ρ))), (p8, .inl (cI, 5, .inl sw)), (p9, .inl (cI, 5, .inl ss))]) (wr := [(p3, .inl (cI, 5, .inl K)), (p4, .inl (cI, 5, .inl F)), (p12, .inl (cI, 13, .inl g))]) (isC := [0, 3, 4, 5, 6]) (isR := [1, 2, 7]) (w2 := fun (_ : Unit) => [(p0, .inr (8, [.ref p1, .int pgm, .ref p2, .int rdm, .int rdb, .int stt, .int (nI n), .int bar, .int hrs, .int crd, .ref p3, .ref p4, .ref p5, .ref p6, .ref p7, .int tof, .int tmu, .ref p8, .ref p9, .int bdn, .ref p10, .int snm, .ref p11, .ref p12, .ref p13, .int sdn, .int kcs, .int khr, .int ksn, .ref p14, .ref p15, .ref p16, .ref p17, .long hlg])), (p3, .inl (cI, 5, .inl K)), (p4, .inl (cI, 5, .inl F)), (p5, .inl (cI, 5, .inl w)), (p6, .inl (cI, 5, .inl (ro ρ))), (p8, .inl (cI, 5, .inl w)), (p9, .inl (cI, 5, .inl (ro ρ))), (p12, .inl (cI, 13, .inl g))]) C h (c_X8_layAside l D cI cZ kS vS p0 p1 p2 p3 p4 p5 p6 p7 p8 p9 p10 p11 p12 p13 p14 p15 p16 p17 n pgm rdm rdb stt bar hrs crd tof tmu bdn snm sdn kcs khr ksn hlg w (ro ρ) sw ss ) wv_X8_layAside rfl ⟨rfl, rfl, rfl, rfl, by decide⟩ fk8 0 rfl ml_RX8_132 [3, 0, 1, 4, 5, 6, 7, 2] rfl (fun _ => rfl) ⟨Nat.le_of_ble_eq_true rfl, Nat.le_of_ble_eq_true rfl⟩ ⟨Nat.le_of_ble_eq_true rfl, Nat.le_of_ble_eq_true rfl⟩ (Nat.le_of_ble_eq_true rfl) hl rfl dX8_layThen_1 (fun u H locs hq h => ?_)
  have h : HS D A s H locs [(p0, .inr (8, [.ref p1, .int pgm, .ref p2, .int rdm, .int rdb, .int stt, .int (nI n), .int bar, .int hrs, .int crd, .ref p3, .ref p4, .ref p5, .ref p6, .ref p7, .int tof, .int tmu, .ref p8, .ref p9, .int bdn, .ref p10, .int snm, .ref p11, .ref p12, .ref p13, .int sdn, .int kcs, .int khr, .int ksn, .ref p14, .ref p15, .ref p16, .ref p17, .long hlg])), (p3, .inl (cI, 5, .inl K)), (p4, .inl (cI, 5, .inl F)), (p5, .inl (cI, 5, .inl w)), (p6, .inl (cI, 5, .inl (ro ρ))), (p8, .inl (cI, 5, .inl w)), (p9, .inl (cI, 5, .inl (ro ρ))), (p12, .inl (cI, 13, .inl g))] := h
  have hq : True := hq
  refine lv_aload_n hx hb dX8_layThen_4 rfl (lv_at hl 0 rfl) ?_
  refine r_get C h fk8 0 12 rfl (by decide) mf_RX8_22 rfl dX8_layThen_5 ?_
  refine lv_iload_n hx hb dX8_layThen_8 rfl (lv_at hl 1 rfl) ?_
  refine lv_iload_n hx hb dX8_layThen_9 rfl (lv_at hl 2 rfl) ?_
  refine r_st C h 3 rfl rr (rfl) (by omega) (by decide) (g := upd w rr (nI v)) (fun _ _ => rfl) (ws' := [(p0, .inr (8, [.ref p1, .int pgm, .ref p2, .int rdm, .int rdb, .int stt, .int (nI n), .int bar, .int hrs, .int crd, .ref p3, .ref p4, .ref p5, .ref p6, .ref p7, .int tof, .int tmu, .ref p8, .ref p9, .int bdn, .ref p10, .int snm, .ref p11, .ref p12, .ref p13, .int sdn, .int kcs, .int khr, .int ksn, .ref p14, .ref p15, .ref p16, .ref p17, .long hlg])), (p3, .inl (cI, 5, .inl K)), (p4, .inl (cI, 5, .inl F)), (p5, .inl (cI, 5, .inl (upd w rr (nI v)))), (p6, .inl (cI, 5, .inl (ro ρ))), (p8, .inl (cI, 5, .inl w)), (p9, .inl (cI, 5, .inl (ro ρ))), (p12, .inl (cI, 13, .inl g))]) rfl dX8_layThen_10 (fun H locs h => ?_)
  refine lv_iconst (v := 1) hx hb dX8_layThen_11 (by decide) ?_
  refine lv_istore_n (lv' := [(3, .int 1), (0, .ref p0), (1, .int (nI rr)), (2, .int (nI v))]) hx hb dX8_layThen_12 rfl hl (by decide) rfl (fun ls hl => ?_)
  have L13 : ∀ (fu : Nat) (k : Nat) (to1 : Int32) (tm1 : Int32), (12 - k) < fu → (hk : k ≤ 12) → ∀ (H : Heap) (locs : List Loc) (ls : Array Slot), HS D A s H locs [(p0, .inr (8, [.ref p1, .int pgm, .ref p2, .int rdm, .int rdb, .int stt, .int (nI n), .int bar, .int hrs, .int crd, .ref p3, .ref p4, .ref p5, .ref p6, .ref p7, .int to1, .int tm1, .ref p8, .ref p9, .int bdn, .ref p10, .int snm, .ref p11, .ref p12, .ref p13, .int sdn, .int kcs, .int khr, .int ksn, .ref p14, .ref p15, .ref p16, .ref p17, .long hlg])), (p3, .inl (cI, 5, .inl K)), (p4, .inl (cI, 5, .inl F)), (p5, .inl (cI, 5, .inl (hit n K F bar (upd w rr (nI v)) ρ k).1)), (p6, .inl (cI, 5, .inl (ro (hit n K F bar (upd w rr (nI v)) ρ k).2))), (p8, .inl (cI, 5, .inl w)), (p9, .inl (cI, 5, .inl (ro ρ))), (p12, .inl (cI, 13, .inl (hfl (htk n K F bar (upd w rr (nI v)) ρ) g k)))] → lv_has ls 4 [(0, .ref p0), (1, .int (nI rr)), (2, .int (nI v)), (3, .int (nI (k + 1)))] → W p l e (rmO 2 48 0 0) s m args below meth c H locs 0 0 Q (F0 m 13 ls []) := by
    intro fu
    induction fu with
    | zero => intro k to1 tm1 hfu; exact absurd hfu (Nat.not_lt_zero _)
    | succ fu ih13 =>
      intro k to1 tm1 hfu hk H locs ls h hl
      refine lv_iload_n hx hb dX8_layThen_13 rfl (lv_at hl 3 rfl) ?_
      refine lv_bipush (v := 13) hx hb dX8_layThen_14 (by decide) ?_
      refine lv_icmp_ge (tgt := 39) hx hb dX8_layThen_16 (by decide) (fun c_16 => ?_) (fun c_16 => ?_)
      · skip
        have c_16 := (jle (a := 13) (b := (k + 1)) (by omega) (by omega)).mp c_16
        obtain rfl : 12 = k := by omega
        refine lv_aload_n hx hb dX8_layThen_39 rfl (lv_at hl 0 rfl) ?_
        refine k_Vv (rest := []) (as := []) (wc := [(p0, .inr (8, [.ref p1, .int pgm, .ref p2, .int rdm, .int rdb, .int stt, .int (nI n), .int bar, .int hrs, .int crd, .ref p3, .ref p4, .ref p5, .ref p6, .ref p7, .int to1, .int tm1, .ref p8, .ref p9, .int bdn, .ref p10, .int snm, .ref p11, .ref p12, .ref p13, .int sdn, .int kcs, .int khr, .int ksn, .ref p14, .ref p15, .ref p16, .ref p17, .long hlg])), (p8, .inl (cI, 5, .inl w)), (p9, .inl (cI, 5, .inl (ro ρ))), (p5, .inl (cI, 5, .inl (hit n K F bar (upd w rr (nI v)) ρ 12).1)), (p6, .inl (cI, 5, .inl (ro (hit n K F bar (upd w rr (nI v)) ρ 12).2)))]) (wr := [(p3, .inl (cI, 5, .inl K)), (p4, .inl (cI, 5, .inl F)), (p12, .inl (cI, 13, .inl (hfl (htk n K F bar (upd w rr (nI v)) ρ) g 12)))]) (isC := [0, 5, 6, 3, 4]) (isR := [1, 2, 7]) (w2 := fun (_ : Unit) => [(p0, .inr (8, [.ref p1, .int pgm, .ref p2, .int rdm, .int rdb, .int stt, .int (nI n), .int bar, .int hrs, .int crd, .ref p3, .ref p4, .ref p5, .ref p6, .ref p7, .int to1, .int tm1, .ref p8, .ref p9, .int bdn, .ref p10, .int snm, .ref p11, .ref p12, .ref p13, .int sdn, .int kcs, .int khr, .int ksn, .ref p14, .ref p15, .ref p16, .ref p17, .long hlg])), (p3, .inl (cI, 5, .inl K)), (p4, .inl (cI, 5, .inl F)), (p5, .inl (cI, 5, .inl w)), (p6, .inl (cI, 5, .inl (ro ρ))), (p8, .inl (cI, 5, .inl w)), (p9, .inl (cI, 5, .inl (ro ρ))), (p12, .inl (cI, 13, .inl (hfl (htk n K F bar (upd w rr (nI v)) ρ) g 12)))]) C h (c_X8_layBack l D cI cZ kS vS p0 p1 p2 p3 p4 p5 p6 p7 p8 p9 p10 p11 p12 p13 p14 p15 p16 p17 n pgm rdm rdb stt bar hrs crd to1 tm1 bdn snm sdn kcs khr ksn hlg w (ro ρ) (hit n K F bar (upd w rr (nI v)) ρ 12).1 (ro (hit n K F bar (upd w rr (nI v)) ρ 12).2) ) wv_X8_layBack rfl ⟨rfl, rfl, rfl, rfl, by decide⟩ fk8 0 rfl ml_RX8_138 [3, 0, 1, 6, 7, 4, 5, 2] rfl (fun _ => rfl) ⟨Nat.le_of_ble_eq_true rfl, Nat.le_of_ble_eq_true rfl⟩ ⟨Nat.le_of_ble_eq_true rfl, Nat.le_of_ble_eq_true rfl⟩ (Nat.le_of_ble_eq_true rfl) hl rfl dX8_layThen_40 (fun u H locs hq h => ?_)
        have h : HS D A s H locs [(p0, .inr (8, [.ref p1, .int pgm, .ref p2, .int rdm, .int rdb, .int stt, .int (nI n), .int bar, .int hrs, .int crd, .ref p3, .ref p4, .ref p5, .ref p6, .ref p7, .int to1, .int tm1, .ref p8, .ref p9, .int bdn, .ref p10, .int snm, .ref p11, .ref p12, .ref p13, .int sdn, .int kcs, .int khr, .int ksn, .ref p14, .ref p15, .ref p16, .ref p17, .long hlg])), (p3, .inl (cI, 5, .inl K)), (p4, .inl (cI, 5, .inl F)), (p5, .inl (cI, 5, .inl w)), (p6, .inl (cI, 5, .inl (ro ρ))), (p8, .inl (cI, 5, .inl w)), (p9, .inl (cI, 5, .inl (ro ρ))), (p12, .inl (cI, 13, .inl (hfl (htk n K F bar (upd w rr (nI v)) ρ) g 12)))] := h
        have hq : True := hq
        exact hret (⟨to1, tm1⟩) dX8_layThen_43 h (trivial)
      · skip
        have c_16 : ¬ 13 ≤ (k + 1) := fun z => c_16 ((jle (a := 13) (b := (k + 1)) (by omega) (by omega)).mpr z)
        have hlt : k < 12 := by omega
        have hpk := hpm.hit (K := K) (F := F) (bar := bar) (w := upd w rr (nI v)) hn2 k
        refine lv_aload_n hx hb dX8_layThen_19 rfl (lv_at hl 0 rfl) ?_
        refine k_Vv (rest := []) (as := []) (wc := [(p0, .inr (8, [.ref p1, .int pgm, .ref p2, .int rdm, .int rdb, .int stt, .int (nI n), .int bar, .int hrs, .int crd, .ref p3, .ref p4, .ref p5, .ref p6, .ref p7, .int to1, .int tm1, .ref p8, .ref p9, .int bdn, .ref p10, .int snm, .ref p11, .ref p12, .ref p13, .int sdn, .int kcs, .int khr, .int ksn, .ref p14, .ref p15, .ref p16, .ref p17, .long hlg])), (p3, .inl (cI, 5, .inl K)), (p4, .inl (cI, 5, .inl F)), (p5, .inl (cI, 5, .inl (hit n K F bar (upd w rr (nI v)) ρ k).1)), (p6, .inl (cI, 5, .inl (ro (hit n K F bar (upd w rr (nI v)) ρ k).2)))]) (wr := [(p8, .inl (cI, 5, .inl w)), (p9, .inl (cI, 5, .inl (ro ρ))), (p12, .inl (cI, 13, .inl (hfl (htk n K F bar (upd w rr (nI v)) ρ) g k)))]) (isC := [0, 1, 2, 3, 4]) (isR := [5, 6, 7]) (w2 := fun (_ : Unit) => [(p0, .inr (8, [.ref p1, .int pgm, .ref p2, .int rdm, .int rdb, .int stt, .int (nI n), .int bar, .int hrs, .int crd, .ref p3, .ref p4, .ref p5, .ref p6, .ref p7, .int (hoo n K F bar (hit n K F bar (upd w rr (nI v)) ρ k).1 (hit n K F bar (upd w rr (nI v)) ρ k).2), .int (hmm n K F bar (hit n K F bar (upd w rr (nI v)) ρ k).1 (hit n K F bar (upd w rr (nI v)) ρ k).2), .ref p8, .ref p9, .int bdn, .ref p10, .int snm, .ref p11, .ref p12, .ref p13, .int sdn, .int kcs, .int khr, .int ksn, .ref p14, .ref p15, .ref p16, .ref p17, .long hlg])), (p3, .inl (cI, 5, .inl K)), (p4, .inl (cI, 5, .inl F)), (p5, .inl (cI, 5, .inl (hww n K F bar (hit n K F bar (upd w rr (nI v)) ρ k).1 (hit n K F bar (upd w rr (nI v)) ρ k).2))), (p6, .inl (cI, 5, .inl (ro (hrr n K F bar (hit n K F bar (upd w rr (nI v)) ρ k).1 (hit n K F bar (upd w rr (nI v)) ρ k).2)))), (p8, .inl (cI, 5, .inl w)), (p9, .inl (cI, 5, .inl (ro ρ))), (p12, .inl (cI, 13, .inl (hfl (htk n K F bar (upd w rr (nI v)) ρ) g k)))]) C h (c_X8_goesBy l D cI cZ kS vS p0 p1 p2 p3 p4 p5 p6 p7 p8 p9 p10 p11 p12 p13 p14 p15 p16 p17 n pgm rdm rdb stt bar hrs crd to1 tm1 bdn snm sdn kcs khr ksn hlg (hit n K F bar (upd w rr (nI v)) ρ k).1 (hit n K F bar (upd w rr (nI v)) ρ k).2 K F hn2 hn5 hpk hK) wv_X8_goesBy rfl ⟨rfl, rfl, rfl, rfl, by decide⟩ fk8 0 rfl ml_RX8_135 [3, 4, 5, 6, 7, 0, 1, 2] rfl (fun _ => rfl) ⟨Nat.le_of_ble_eq_true rfl, Nat.le_of_ble_eq_true rfl⟩ ⟨Nat.le_of_ble_eq_true rfl, Nat.le_of_ble_eq_true rfl⟩ (Nat.le_of_ble_eq_true rfl) hl rfl dX8_layThen_20 (fun u H locs hq h => ?_)
        have h : HS D A s H locs [(p0, .inr (8, [.ref p1, .int pgm, .ref p2, .int rdm, .int rdb, .int stt, .int (nI n), .int bar, .int hrs, .int crd, .ref p3, .ref p4, .ref p5, .ref p6, .ref p7, .int (hoo n K F bar (hit n K F bar (upd w rr (nI v)) ρ k).1 (hit n K F bar (upd w rr (nI v)) ρ k).2), .int (hmm n K F bar (hit n K F bar (upd w rr (nI v)) ρ k).1 (hit n K F bar (upd w rr (nI v)) ρ k).2), .ref p8, .ref p9, .int bdn, .ref p10, .int snm, .ref p11, .ref p12, .ref p13, .int sdn, .int kcs, .int khr, .int ksn, .ref p14, .ref p15, .ref p16, .ref p17, .long hlg])), (p3, .inl (cI, 5, .inl K)), (p4, .inl (cI, 5, .inl F)), (p5, .inl (cI, 5, .inl (hww n K F bar (hit n K F bar (upd w rr (nI v)) ρ k).1 (hit n K F bar (upd w rr (nI v)) ρ k).2))), (p6, .inl (cI, 5, .inl (ro (hrr n K F bar (hit n K F bar (upd w rr (nI v)) ρ k).1 (hit n K F bar (upd w rr (nI v)) ρ k).2)))), (p8, .inl (cI, 5, .inl w)), (p9, .inl (cI, 5, .inl (ro ρ))), (p12, .inl (cI, 13, .inl (hfl (htk n K F bar (upd w rr (nI v)) ρ) g k)))] := h
        have hq : True := hq
        refine lv_aload_n hx hb dX8_layThen_23 rfl (lv_at hl 0 rfl) ?_
        refine r_get C h fk8 0 23 rfl (by decide) mf_RX8_43 rfl dX8_layThen_24 ?_
        refine lv_iload_n hx hb dX8_layThen_27 rfl (lv_at hl 3 rfl) ?_
        refine lv_aload_n hx hb dX8_layThen_28 rfl (lv_at hl 0 rfl) ?_
        refine r_get C h fk8 0 15 rfl (by decide) mf_RX8_121 rfl dX8_layThen_29 ?_
        refine r_top (y := (htk n K F bar (upd w rr (nI v)) ρ) (k + 1)) (rfl) ?_
        refine r_st C h 7 rfl (k + 1) (rfl) (by omega) (by decide) (g := upd (hfl (htk n K F bar (upd w rr (nI v)) ρ) g k) (k + 1) ((htk n K F bar (upd w rr (nI v)) ρ) (k + 1))) (fun _ _ => rfl) (ws' := [(p0, .inr (8, [.ref p1, .int pgm, .ref p2, .int rdm, .int rdb, .int stt, .int (nI n), .int bar, .int hrs, .int crd, .ref p3, .ref p4, .ref p5, .ref p6, .ref p7, .int (hoo n K F bar (hit n K F bar (upd w rr (nI v)) ρ k).1 (hit n K F bar (upd w rr (nI v)) ρ k).2), .int (hmm n K F bar (hit n K F bar (upd w rr (nI v)) ρ k).1 (hit n K F bar (upd w rr (nI v)) ρ k).2), .ref p8, .ref p9, .int bdn, .ref p10, .int snm, .ref p11, .ref p12, .ref p13, .int sdn, .int kcs, .int khr, .int ksn, .ref p14, .ref p15, .ref p16, .ref p17, .long hlg])), (p3, .inl (cI, 5, .inl K)), (p4, .inl (cI, 5, .inl F)), (p5, .inl (cI, 5, .inl (hww n K F bar (hit n K F bar (upd w rr (nI v)) ρ k).1 (hit n K F bar (upd w rr (nI v)) ρ k).2))), (p6, .inl (cI, 5, .inl (ro (hrr n K F bar (hit n K F bar (upd w rr (nI v)) ρ k).1 (hit n K F bar (upd w rr (nI v)) ρ k).2)))), (p8, .inl (cI, 5, .inl w)), (p9, .inl (cI, 5, .inl (ro ρ))), (p12, .inl (cI, 13, .inl (upd (hfl (htk n K F bar (upd w rr (nI v)) ρ) g k) (k + 1) ((htk n K F bar (upd w rr (nI v)) ρ) (k + 1)))))]) rfl dX8_layThen_32 (fun H locs h => ?_)
        refine lv_iinc (v := nI ((k + 1) + 1)) (lv' := [(3, .int (nI ((k + 1) + 1))), (0, .ref p0), (1, .int (nI rr)), (2, .int (nI v))]) hx hb dX8_layThen_33 hl (k := 3) rfl (nI_1 (k + 1)) (by decide) rfl (fun ls hl => ?_)
        refine lv_goto (tgt := 13) hx hb dX8_layThen_36 (by decide) ?_
        have h := h.arr 3 (g := (hit n K F bar (upd w rr (nI v)) ρ (k + 1)).1) rfl (fun j hj => rfl) rfl
        have h := h.arr 4 (g := ro (hit n K F bar (upd w rr (nI v)) ρ (k + 1)).2) rfl (fun j hj => rfl) rfl
        have h := h.arr 7 (g := hfl (htk n K F bar (upd w rr (nI v)) ρ) g (k + 1)) rfl (fun j _ => hfl_s j) rfl
        exact ih13  (k + 1) (hoo n K F bar (hit n K F bar (upd w rr (nI v)) ρ k).1 (hit n K F bar (upd w rr (nI v)) ρ k).2) (hmm n K F bar (hit n K F bar (upd w rr (nI v)) ρ k).1 (hit n K F bar (upd w rr (nI v)) ρ k).2) (by omega) (by first | assumption | omega) _ _ _ h (lv_sub hl [1, 2, 3, 0] rfl)
  have h := h.arr 3 (g := (hit n K F bar (upd w rr (nI v)) ρ 0).1) rfl (fun j _ => rfl) rfl
  have h := h.arr 4 (g := ro (hit n K F bar (upd w rr (nI v)) ρ 0).2) rfl (fun j _ => rfl) rfl
  have h := h.arr 7 (g := hfl (htk n K F bar (upd w rr (nI v)) ρ) g 0) rfl (fun j _ => hfl_0 _ g j) rfl
  exact L13 ((12 - 0) + 1) 0 tof tmu (by omega) (by first | assumption | omega) _ _ _ h (lv_sub hl [1, 2, 3, 0] rfl)

set_option maxHeartbeats 4000000 in
set_option maxRecDepth 100000 in
theorem c_X8_muchOf (l : Launch) (D : va_G) (cI cZ : ClassId) (kS vS : Nat) (p0 : Nat) (p1 : Nat) (p2 : Nat) (p3 : Nat) (p4 : Nat) (p5 : Nat) (p6 : Nat) (p7 : Nat) (p8 : Nat) (p9 : Nat) (p10 : Nat) (p11 : Nat) (p12 : Nat) (p13 : Nat) (p14 : Nat) (p15 : Nat) (p16 : Nat) (p17 : Nat) (n : Nat) (pgm : Int32) (rdm : Int32) (rdb : Int32) (stt : Int32) (bar : Int32) (hrs : Int32) (crd : Int32) (tof : Int32) (tmu : Int32) (bdn : Int32) (sdn : Int32) (kcs : Int32) (khr : Int32) (ksn : Int32) (hlg : Int64) (w : Nat → Int32) (ρ : Nat → Nat) (K : Nat → Int32) (F : Nat → Int32) (sw : Nat → Int32) (ss : Nat → Int32) (q : Nat) (sh : Nat → Nat) (sr : Nat → Nat) (tb : Nat → Int32) (g : Nat → Int32) (rr : Nat) (hn2 : 2 ≤ n) (hn5 : n ≤ 5) (hpm : PM n ρ) (hK : ∀ j, j < n → K j = 0 ∨ K j = 1 ∨ K j = 2 ∨ K j = 3 ∨ K j = 4) (hq6 : q ≤ 6) (hsh : ∀ i, i < q → 1 ≤ sh i ∧ sh i ≤ 12) (hrn : rr < n) : CI l yX8_muchOf cX8_muchOf 7 .int D cI cZ kS vS 3 71 0 0 [.ref p0, .int (nI rr)] [(p0, .inr (8, [.ref p1, .int pgm, .ref p2, .int rdm, .int rdb, .int stt, .int (nI n), .int bar, .int hrs, .int crd, .ref p3, .ref p4, .ref p5, .ref p6, .ref p7, .int tof, .int tmu, .ref p8, .ref p9, .int bdn, .ref p10, .int (nI q), .ref p11, .ref p12, .ref p13, .int sdn, .int kcs, .int khr, .int ksn, .ref p14, .ref p15, .ref p16, .ref p17, .long hlg])), (p3, .inl (cI, 5, .inl K)), (p4, .inl (cI, 5, .inl F)), (p5, .inl (cI, 5, .inl w)), (p6, .inl (cI, 5, .inl (ro ρ))), (p8, .inl (cI, 5, .inl sw)), (p9, .inl (cI, 5, .inl ss)), (p11, .inl (cI, 18, .inl (sgt sh sr tb))), (p12, .inl (cI, 13, .inl g))] (fun (r : Int32) (u : Int32 × Int32 × (Nat → Int32) × (Nat → Int32) × (Nat → Int32)) => r = hbt n K F bar w ρ sh sr tb q rr 10) (fun (u : Int32 × Int32 × (Nat → Int32) × (Nat → Int32) × (Nat → Int32)) => [(p0, .inr (8, [.ref p1, .int pgm, .ref p2, .int rdm, .int rdb, .int stt, .int (nI n), .int bar, .int hrs, .int crd, .ref p3, .ref p4, .ref p5, .ref p6, .ref p7, .int u.1, .int u.2.1, .ref p8, .ref p9, .int bdn, .ref p10, .int (nI q), .ref p11, .ref p12, .ref p13, .int sdn, .int kcs, .int khr, .int ksn, .ref p14, .ref p15, .ref p16, .ref p17, .long hlg])), (p3, .inl (cI, 5, .inl K)), (p4, .inl (cI, 5, .inl F)), (p5, .inl (cI, 5, .inl w)), (p6, .inl (cI, 5, .inl (ro ρ))), (p8, .inl (cI, 5, .inl u.2.2.1)), (p9, .inl (cI, 5, .inl u.2.2.2.1)), (p11, .inl (cI, 18, .inl (sgt sh sr tb))), (p12, .inl (cI, 13, .inl u.2.2.2.2))]) := by
  refine CI_intro (by decide) (Nat.le_of_ble_eq_true rfl) ?_
  intro p e s m args below meth c A Q ls C h hret hl
  have C : CX p s m args c cX8_muchOf 7 RX8 D cI cZ kS vS A := C
  have hx := C.1.1
  have hb := C.1.2.1
  have hl : lv_has ls 7 [(0, .ref p0), (1, .int (nI rr))] := hl
  refine lv_iconst (v := 0) hx hb dX8_muchOf_0 (by decide) ?_
  refine lv_istore_n (lv' := [(2, .int 0), (0, .ref p0), (1, .int (nI rr))]) hx hb dX8_muchOf_1 rfl hl (by decide) rfl (fun ls hl => ?_)
  refine lv_iconst (v := 0) hx hb dX8_muchOf_2 (by decide) ?_
  refine lv_istore_n (lv' := [(3, .int 0), (2, .int 0), (0, .ref p0), (1, .int (nI rr))]) hx hb dX8_muchOf_3 rfl hl (by decide) rfl (fun ls hl => ?_)
  have L4 : ∀ (fu : Nat) (v : Nat) (to1 : Int32) (tm1 : Int32) (sw1 : Nat → Int32) (ss1 : Nat → Int32) (g1 : Nat → Int32), (10 - v) < fu → (hv10 : v ≤ 10) → ∀ (H : Heap) (locs : List Loc) (ls : Array Slot), HS D A s H locs [(p0, .inr (8, [.ref p1, .int pgm, .ref p2, .int rdm, .int rdb, .int stt, .int (nI n), .int bar, .int hrs, .int crd, .ref p3, .ref p4, .ref p5, .ref p6, .ref p7, .int to1, .int tm1, .ref p8, .ref p9, .int bdn, .ref p10, .int (nI q), .ref p11, .ref p12, .ref p13, .int sdn, .int kcs, .int khr, .int ksn, .ref p14, .ref p15, .ref p16, .ref p17, .long hlg])), (p3, .inl (cI, 5, .inl K)), (p4, .inl (cI, 5, .inl F)), (p5, .inl (cI, 5, .inl w)), (p6, .inl (cI, 5, .inl (ro ρ))), (p8, .inl (cI, 5, .inl sw1)), (p9, .inl (cI, 5, .inl ss1)), (p11, .inl (cI, 18, .inl (sgt sh sr tb))), (p12, .inl (cI, 13, .inl g1))] → lv_has ls 7 [(0, .ref p0), (1, .int (nI rr)), (2, .int (hbt n K F bar w ρ sh sr tb q rr v)), (3, .int (nI v))] → W p l e (rmO 3 71 0 0) s m args below meth c H locs 0 0 Q (F0 m 4 ls []) := by
    intro fu
    induction fu with
    | zero => intro v to1 tm1 sw1 ss1 g1 hfu; exact absurd hfu (Nat.not_lt_zero _)
    | succ fu ih4 =>
      intro v to1 tm1 sw1 ss1 g1 hfu hv10 H locs ls h hl
      refine lv_iload_n hx hb dX8_muchOf_4 rfl (lv_at hl 3 rfl) ?_
      refine lv_bipush (v := 10) hx hb dX8_muchOf_5 (by decide) ?_
      refine lv_icmp_ge (tgt := 121) hx hb dX8_muchOf_7 (by decide) (fun c_7 => ?_) (fun c_7 => ?_)
      · skip
        have c_7 := (jle (a := 10) (b := v) (by omega) (by omega)).mp c_7
        obtain rfl : 10 = v := by omega
        refine lv_iload_n hx hb dX8_muchOf_121 rfl (lv_at hl 2 rfl) ?_
        exact hret (r := hbt n K F bar w ρ sh sr tb q rr 10) (⟨to1, tm1, sw1, ss1, g1⟩) dX8_muchOf_122 h (rfl) (rfl)
      · skip
        have c_7 : ¬ 10 ≤ v := fun z => c_7 ((jle (a := 10) (b := v) (by omega) (by omega)).mpr z)
        have hv9 : v < 10 := by omega
        refine lv_aload_n hx hb dX8_muchOf_10 rfl (lv_at hl 0 rfl) ?_
        refine lv_iload_n hx hb dX8_muchOf_11 rfl (lv_at hl 1 rfl) ?_
        refine lv_iload_n hx hb dX8_muchOf_12 rfl (lv_at hl 3 rfl) ?_
        refine k_Vv (rest := []) (as := [.int (nI rr), .int (nI v)]) (wc := [(p0, .inr (8, [.ref p1, .int pgm, .ref p2, .int rdm, .int rdb, .int stt, .int (nI n), .int bar, .int hrs, .int crd, .ref p3, .ref p4, .ref p5, .ref p6, .ref p7, .int to1, .int tm1, .ref p8, .ref p9, .int bdn, .ref p10, .int (nI q), .ref p11, .ref p12, .ref p13, .int sdn, .int kcs, .int khr, .int ksn, .ref p14, .ref p15, .ref p16, .ref p17, .long hlg])), (p3, .inl (cI, 5, .inl K)), (p4, .inl (cI, 5, .inl F)), (p5, .inl (cI, 5, .inl w)), (p6, .inl (cI, 5, .inl (ro ρ))), (p8, .inl (cI, 5, .inl sw1)), (p9, .inl (cI, 5, .inl ss1)), (p12, .inl (cI, 13, .inl g1))]) (wr := [(p11, .inl (cI, 18, .inl (sgt sh sr tb)))]) (isC := [0, 1, 2, 3, 4, 5, 6, 8]) (isR := [7]) (w2 := fun (u : Int32 × Int32) => [(p0, .inr (8, [.ref p1, .int pgm, .ref p2, .int rdm, .int rdb, .int stt, .int (nI n), .int bar, .int hrs, .int crd, .ref p3, .ref p4, .ref p5, .ref p6, .ref p7, .int u.1, .int u.2, .ref p8, .ref p9, .int bdn, .ref p10, .int (nI q), .ref p11, .ref p12, .ref p13, .int sdn, .int kcs, .int khr, .int ksn, .ref p14, .ref p15, .ref p16, .ref p17, .long hlg])), (p3, .inl (cI, 5, .inl K)), (p4, .inl (cI, 5, .inl F)), (p5, .inl (cI, 5, .inl w)), (p6, .inl (cI, 5, .inl (ro ρ))), (p8, .inl (cI, 5, .inl w)), (p9, .inl (cI, 5, .inl (ro ρ))), (p11, .inl (cI, 18, .inl (sgt sh sr tb))), (p12, .inl (cI, 13, .inl (hfl (htk n K F bar (upd w rr (nI v)) ρ) g1 12)))]) C h (c_X8_layThen l D cI cZ kS vS p0 p1 p2 p3 p4 p5 p6 p7 p8 p9 p10 p11 p12 p13 p14 p15 p16 p17 n pgm rdm rdb stt bar hrs crd to1 tm1 bdn (nI q) sdn kcs khr ksn hlg w ρ K F sw1 ss1 g1 rr v hn2 hn5 hpm hK hrn hv9) wv_X8_layThen rfl ⟨rfl, rfl, rfl, rfl, by decide⟩ fk8 0 rfl ml_RX8_194 [1, 2, 3, 4, 5, 6, 7, 0, 8] rfl (fun _ => rfl) ⟨Nat.le_of_ble_eq_true rfl, Nat.le_of_ble_eq_true rfl⟩ ⟨Nat.le_of_ble_eq_true rfl, Nat.le_of_ble_eq_true rfl⟩ (Nat.le_of_ble_eq_true rfl) hl rfl dX8_muchOf_13 (fun u H locs hq h => ?_)
        obtain ⟨uo13, um13⟩ := u
        have h : HS D A s H locs [(p0, .inr (8, [.ref p1, .int pgm, .ref p2, .int rdm, .int rdb, .int stt, .int (nI n), .int bar, .int hrs, .int crd, .ref p3, .ref p4, .ref p5, .ref p6, .ref p7, .int uo13, .int um13, .ref p8, .ref p9, .int bdn, .ref p10, .int (nI q), .ref p11, .ref p12, .ref p13, .int sdn, .int kcs, .int khr, .int ksn, .ref p14, .ref p15, .ref p16, .ref p17, .long hlg])), (p3, .inl (cI, 5, .inl K)), (p4, .inl (cI, 5, .inl F)), (p5, .inl (cI, 5, .inl w)), (p6, .inl (cI, 5, .inl (ro ρ))), (p8, .inl (cI, 5, .inl w)), (p9, .inl (cI, 5, .inl (ro ρ))), (p11, .inl (cI, 18, .inl (sgt sh sr tb))), (p12, .inl (cI, 13, .inl (hfl (htk n K F bar (upd w rr (nI v)) ρ) g1 12)))] := h
        have hq : True := hq
        refine lv_iconst (v := 1) hx hb dX8_muchOf_16 (by decide) ?_
        refine lv_istore (lv' := [(4, .int 1), (0, .ref p0), (1, .int (nI rr)), (2, .int (hbt n K F bar w ρ sh sr tb q rr v)), (3, .int (nI v))]) hx hb dX8_muchOf_17 hl (by decide) rfl (fun ls hl => ?_)
        refine lv_iconst (v := 0) hx hb dX8_muchOf_19 (by decide) ?_
        refine lv_istore (lv' := [(5, .int 0), (4, .int 1), (0, .ref p0), (1, .int (nI rr)), (2, .int (hbt n K F bar w ρ sh sr tb q rr v)), (3, .int (nI v))]) hx hb dX8_muchOf_20 hl (by decide) rfl (fun ls hl => ?_)
        have L22 : ∀ (fu : Nat) (i : Nat), (q - i) < fu → (hi : i ≤ q) → ∀ (H : Heap) (locs : List Loc) (ls : Array Slot), HS D A s H locs [(p0, .inr (8, [.ref p1, .int pgm, .ref p2, .int rdm, .int rdb, .int stt, .int (nI n), .int bar, .int hrs, .int crd, .ref p3, .ref p4, .ref p5, .ref p6, .ref p7, .int uo13, .int um13, .ref p8, .ref p9, .int bdn, .ref p10, .int (nI q), .ref p11, .ref p12, .ref p13, .int sdn, .int kcs, .int khr, .int ksn, .ref p14, .ref p15, .ref p16, .ref p17, .long hlg])), (p3, .inl (cI, 5, .inl K)), (p4, .inl (cI, 5, .inl F)), (p5, .inl (cI, 5, .inl w)), (p6, .inl (cI, 5, .inl (ro ρ))), (p8, .inl (cI, 5, .inl w)), (p9, .inl (cI, 5, .inl (ro ρ))), (p11, .inl (cI, 18, .inl (sgt sh sr tb))), (p12, .inl (cI, 13, .inl (hfl (htk n K F bar (upd w rr (nI v)) ρ) g1 12)))] → lv_has ls 7 [(0, .ref p0), (1, .int (nI rr)), (2, .int (hbt n K F bar w ρ sh sr tb q rr v)), (3, .int (nI v)), (4, .int (bI (hag (hfl (htk n K F bar (upd w rr (nI v)) ρ) g1 12) sh sr tb i))), (5, .int (nI i))] → W p l e (rmO 3 71 0 0) s m args below meth c H locs 0 0 Q (F0 m 22 ls []) := by
          intro fu
          induction fu with
          | zero => intro i hfu; exact absurd hfu (Nat.not_lt_zero _)
          | succ fu ih22 =>
            intro i hfu hi H locs ls h hl
            refine lv_iload hx hb dX8_muchOf_22 (lv_at hl 5 rfl) ?_
            refine lv_aload_n hx hb dX8_muchOf_24 rfl (lv_at hl 0 rfl) ?_
            refine r_get C h fk8 0 21 rfl (by decide) mf_RX8_108 rfl dX8_muchOf_25 ?_
            refine lv_icmp_ge (tgt := 100) hx hb dX8_muchOf_28 (by decide) (fun c_28 => ?_) (fun c_28 => ?_)
            · skip
              have c_28 := (jle (a := q) (b := i) (by omega) (by omega)).mp c_28
              obtain rfl : q = i := by omega
              have hl : lv_has ls 7 [(0, .ref p0), (1, .int (nI rr)), (2, .int (hbt n K F bar w ρ sh sr tb q rr v)), (3, .int (nI v)), (4, .int (bI (hpo n K F bar w ρ sh sr tb q rr v))), (5, .int (nI q))] := by rw [show hpo n K F bar w ρ sh sr tb q rr v = hag (hfl (htk n K F bar (upd w rr (nI v)) ρ) g1 12) sh sr tb q from (hag_fl hsh).symm]; exact hl
              refine lv_iload_n hx hb dX8_muchOf_100 rfl (lv_at hl 2 rfl) ?_
              refine lv_iload hx hb dX8_muchOf_101 (lv_at hl 4 rfl) ?_
              refine lv_if_eq (tgt := 112) hx hb dX8_muchOf_103 (by decide) (fun c_103 => ?_) (fun c_103 => ?_)
              · skip
                have eb : hbt n K F bar w ρ sh sr tb q rr v ||| 0 = hbt n K F bar w ρ sh sr tb q rr (v + 1) := (or_0 _).trans (if_neg (by rw [bI_0.mp c_103]; decide)).symm
                refine lv_iconst (v := 0) hx hb dX8_muchOf_112 (by decide) ?_
                refine lv_ior hx hb dX8_muchOf_113 ?_
                refine r_top (y := hbt n K F bar w ρ sh sr tb q rr (v + 1)) (eb) ?_
                refine lv_istore_n (lv' := [(2, .int (hbt n K F bar w ρ sh sr tb q rr (v + 1))), (0, .ref p0), (1, .int (nI rr)), (3, .int (nI v)), (4, .int (bI (hpo n K F bar w ρ sh sr tb q rr v))), (5, .int (nI q))]) hx hb dX8_muchOf_114 rfl hl (by decide) rfl (fun ls hl => ?_)
                refine lv_iinc (v := nI (v + 1)) (lv' := [(3, .int (nI (v + 1))), (2, .int (hbt n K F bar w ρ sh sr tb q rr (v + 1))), (0, .ref p0), (1, .int (nI rr)), (4, .int (bI (hpo n K F bar w ρ sh sr tb q rr v))), (5, .int (nI q))]) hx hb dX8_muchOf_115 hl (k := 3) rfl (nI_1 v) (by decide) rfl (fun ls hl => ?_)
                refine lv_goto (tgt := 4) hx hb dX8_muchOf_118 (by decide) ?_
                have h := h.arr 6 (g := (ro ρ)) rfl (fun j hj => rfl) rfl
                have h := h.arr 8 (g := (hfl (htk n K F bar (upd w rr (nI v)) ρ) g1 12)) rfl (fun j hj => rfl) rfl
                exact ih4  (v + 1) uo13 um13 w (ro ρ) (hfl (htk n K F bar (upd w rr (nI v)) ρ) g1 12) (by omega) (by first | assumption | omega) _ _ _ h (lv_sub hl [2, 3, 1, 0] rfl)
              · skip
                have eb : hbt n K F bar w ρ sh sr tb q rr v ||| (1 <<< (nI v &&& 31)) = hbt n K F bar w ρ sh sr tb q rr (v + 1) := (if_pos (bI_n0.mp c_103)).symm
                refine lv_iconst (v := 1) hx hb dX8_muchOf_106 (by decide) ?_
                refine lv_iload_n hx hb dX8_muchOf_107 rfl (lv_at hl 3 rfl) ?_
                refine lv_ishl hx hb dX8_muchOf_108 ?_
                refine lv_goto (tgt := 113) hx hb dX8_muchOf_109 (by decide) ?_
                refine lv_ior hx hb dX8_muchOf_113 ?_
                refine r_top (y := hbt n K F bar w ρ sh sr tb q rr (v + 1)) (eb) ?_
                refine lv_istore_n (lv' := [(2, .int (hbt n K F bar w ρ sh sr tb q rr (v + 1))), (0, .ref p0), (1, .int (nI rr)), (3, .int (nI v)), (4, .int (bI (hpo n K F bar w ρ sh sr tb q rr v))), (5, .int (nI q))]) hx hb dX8_muchOf_114 rfl hl (by decide) rfl (fun ls hl => ?_)
                refine lv_iinc (v := nI (v + 1)) (lv' := [(3, .int (nI (v + 1))), (2, .int (hbt n K F bar w ρ sh sr tb q rr (v + 1))), (0, .ref p0), (1, .int (nI rr)), (4, .int (bI (hpo n K F bar w ρ sh sr tb q rr v))), (5, .int (nI q))]) hx hb dX8_muchOf_115 hl (k := 3) rfl (nI_1 v) (by decide) rfl (fun ls hl => ?_)
                refine lv_goto (tgt := 4) hx hb dX8_muchOf_118 (by decide) ?_
                have h := h.arr 6 (g := (ro ρ)) rfl (fun j hj => rfl) rfl
                have h := h.arr 8 (g := (hfl (htk n K F bar (upd w rr (nI v)) ρ) g1 12)) rfl (fun j hj => rfl) rfl
                exact ih4  (v + 1) uo13 um13 w (ro ρ) (hfl (htk n K F bar (upd w rr (nI v)) ρ) g1 12) (by omega) (by first | assumption | omega) _ _ _ h (lv_sub hl [2, 3, 1, 0] rfl)
            · skip
              have c_28 : ¬ q ≤ i := fun z => c_28 ((jle (a := q) (b := i) (by omega) (by omega)).mpr z)
              have hlt : i < q := by omega
              have hsi := hsh i hlt
              refine lv_aload_n hx hb dX8_muchOf_31 rfl (lv_at hl 0 rfl) ?_
              refine r_get C h fk8 0 23 rfl (by decide) mf_RX8_43 rfl dX8_muchOf_32 ?_
              refine lv_aload_n hx hb dX8_muchOf_35 rfl (lv_at hl 0 rfl) ?_
              refine r_get C h fk8 0 22 rfl (by decide) mf_RX8_40 rfl dX8_muchOf_36 ?_
              refine lv_iconst (v := 3) hx hb dX8_muchOf_39 (by decide) ?_
              refine lv_iload hx hb dX8_muchOf_40 (lv_at hl 5 rfl) ?_
              refine lv_imul hx hb dX8_muchOf_42 ?_
              refine r_top (y := nI (3 * i)) (pk_mul 3 i) ?_
              refine r_ld C h 7 rfl (3 * i) (rfl) (by omega) (by decide) (x := nI (sh i)) (sgt_0 i) dX8_muchOf_43 ?_
              refine r_ld C h 8 rfl (sh i) (rfl) (by omega) (by decide) (x := (hfl (htk n K F bar (upd w rr (nI v)) ρ) g1 12) (sh i)) (rfl) dX8_muchOf_44 ?_
              refine lv_aload_n hx hb dX8_muchOf_45 rfl (lv_at hl 0 rfl) ?_
              refine r_get C h fk8 0 22 rfl (by decide) mf_RX8_40 rfl dX8_muchOf_46 ?_
              refine lv_iconst (v := 3) hx hb dX8_muchOf_49 (by decide) ?_
              refine lv_iload hx hb dX8_muchOf_50 (lv_at hl 5 rfl) ?_
              refine lv_imul hx hb dX8_muchOf_52 ?_
              refine r_top (y := nI (3 * i)) (pk_mul 3 i) ?_
              refine lv_iconst (v := 1) hx hb dX8_muchOf_53 (by decide) ?_
              refine lv_iadd hx hb dX8_muchOf_54 ?_
              refine r_top (y := nI ((3 * i) + 1)) (nI_add (3 * i) 1) ?_
              refine r_ld C h 7 rfl ((3 * i) + 1) (rfl) (by omega) (by decide) (x := nI (sr i)) (sgt_1 i) dX8_muchOf_55 ?_
              refine lv_icmp_ne (tgt := 63) hx hb dX8_muchOf_56 (by decide) (fun c_56 => ?_) (fun c_56 => ?_)
              · skip
                refine lv_iconst (v := 0) hx hb dX8_muchOf_63 (by decide) ?_
                refine lv_istore (lv' := [(6, .int 0), (0, .ref p0), (1, .int (nI rr)), (2, .int (hbt n K F bar w ρ sh sr tb q rr v)), (3, .int (nI v)), (4, .int (bI (hag (hfl (htk n K F bar (upd w rr (nI v)) ρ) g1 12) sh sr tb i))), (5, .int (nI i))]) hx hb dX8_muchOf_64 hl (by decide) rfl (fun ls hl => ?_)
                refine lv_iload hx hb dX8_muchOf_66 (lv_at hl 5 rfl) ?_
                refine lv_if_eq (tgt := 91) hx hb dX8_muchOf_68 (by decide) (fun c_68 => ?_) (fun c_68 => ?_)
                · skip
                  refine lv_iconst (v := 0) hx hb dX8_muchOf_91 (by decide) ?_
                  refine r_top (y := bI (hag (hfl (htk n K F bar (upd w rr (nI v)) ρ) g1 12) sh sr tb (i + 1))) (by first | exact hag_e0 (bI_0.mp c_68) | exact hag_e1 (bI_n0.mp c_68) (by first | (rw [if_pos c_56]; exact c_84) | (rw [if_neg c_56]; exact c_84)) | exact hag_e2 (by first | (rw [if_pos c_56]; exact c_84) | (rw [if_neg c_56]; exact c_84))) ?_
                  refine lv_istore (lv' := [(4, .int (bI (hag (hfl (htk n K F bar (upd w rr (nI v)) ρ) g1 12) sh sr tb (i + 1)))), (6, .int 0), (0, .ref p0), (1, .int (nI rr)), (2, .int (hbt n K F bar w ρ sh sr tb q rr v)), (3, .int (nI v)), (5, .int (nI i))]) hx hb dX8_muchOf_92 hl (by decide) rfl (fun ls hl => ?_)
                  refine lv_iinc (v := nI (i + 1)) (lv' := [(5, .int (nI (i + 1))), (4, .int (bI (hag (hfl (htk n K F bar (upd w rr (nI v)) ρ) g1 12) sh sr tb (i + 1)))), (6, .int 0), (0, .ref p0), (1, .int (nI rr)), (2, .int (hbt n K F bar w ρ sh sr tb q rr v)), (3, .int (nI v))]) hx hb dX8_muchOf_94 hl (k := 6) rfl (nI_1 i) (by decide) rfl (fun ls hl => ?_)
                  refine lv_goto (tgt := 22) hx hb dX8_muchOf_97 (by decide) ?_
                  exact ih22  (i + 1) (by omega) (by first | assumption | omega) _ _ _ h (lv_sub hl [3, 4, 5, 6, 1, 0] rfl)
                · skip
                  refine lv_iload hx hb dX8_muchOf_71 (lv_at hl 0 rfl) ?_
                  refine lv_aload_n hx hb dX8_muchOf_73 rfl (lv_at hl 1 rfl) ?_
                  refine r_get C h fk8 0 22 rfl (by decide) mf_RX8_40 rfl dX8_muchOf_74 ?_
                  refine lv_iconst (v := 3) hx hb dX8_muchOf_77 (by decide) ?_
                  refine lv_iload hx hb dX8_muchOf_78 (lv_at hl 6 rfl) ?_
                  refine lv_imul hx hb dX8_muchOf_80 ?_
                  refine r_top (y := nI (3 * i)) (pk_mul 3 i) ?_
                  refine lv_iconst (v := 2) hx hb dX8_muchOf_81 (by decide) ?_
                  refine lv_iadd hx hb dX8_muchOf_82 ?_
                  refine r_top (y := nI ((3 * i) + 2)) (nI_add (3 * i) 2) ?_
                  refine r_ld C h 7 rfl ((3 * i) + 2) (rfl) (by omega) (by decide) (x := tb i) (sgt_2 i) dX8_muchOf_83 ?_
                  refine lv_icmp_ne (tgt := 91) hx hb dX8_muchOf_84 (by decide) (fun c_84 => ?_) (fun c_84 => ?_)
                  · skip
                    refine lv_iconst (v := 0) hx hb dX8_muchOf_91 (by decide) ?_
                    refine r_top (y := bI (hag (hfl (htk n K F bar (upd w rr (nI v)) ρ) g1 12) sh sr tb (i + 1))) (by first | exact hag_e0 (bI_0.mp c_68) | exact hag_e1 (bI_n0.mp c_68) (by first | (rw [if_pos c_56]; exact c_84) | (rw [if_neg c_56]; exact c_84)) | exact hag_e2 (by first | (rw [if_pos c_56]; exact c_84) | (rw [if_neg c_56]; exact c_84))) ?_
                    refine lv_istore (lv' := [(4, .int (bI (hag (hfl (htk n K F bar (upd w rr (nI v)) ρ) g1 12) sh sr tb (i + 1)))), (6, .int 0), (0, .ref p0), (1, .int (nI rr)), (2, .int (hbt n K F bar w ρ sh sr tb q rr v)), (3, .int (nI v)), (5, .int (nI i))]) hx hb dX8_muchOf_92 hl (by decide) rfl (fun ls hl => ?_)
                    refine lv_iinc (v := nI (i + 1)) (lv' := [(5, .int (nI (i + 1))), (4, .int (bI (hag (hfl (htk n K F bar (upd w rr (nI v)) ρ) g1 12) sh sr tb (i + 1)))), (6, .int 0), (0, .ref p0), (1, .int (nI rr)), (2, .int (hbt n K F bar w ρ sh sr tb q rr v)), (3, .int (nI v))]) hx hb dX8_muchOf_94 hl (k := 6) rfl (nI_1 i) (by decide) rfl (fun ls hl => ?_)
                    refine lv_goto (tgt := 22) hx hb dX8_muchOf_97 (by decide) ?_
                    exact ih22  (i + 1) (by omega) (by first | assumption | omega) _ _ _ h (lv_sub hl [3, 4, 5, 6, 1, 0] rfl)
                  · skip
                    refine lv_iconst (v := 1) hx hb dX8_muchOf_87 (by decide) ?_
                    refine lv_goto (tgt := 92) hx hb dX8_muchOf_88 (by decide) ?_
                    refine r_top (y := bI (hag (hfl (htk n K F bar (upd w rr (nI v)) ρ) g1 12) sh sr tb (i + 1))) (by first | exact hag_e0 (bI_0.mp c_68) | exact hag_e1 (bI_n0.mp c_68) (by first | (rw [if_pos c_56]; exact c_84) | (rw [if_neg c_56]; exact c_84)) | exact hag_e2 (by first | (rw [if_pos c_56]; exact c_84) | (rw [if_neg c_56]; exact c_84))) ?_
                    refine lv_istore (lv' := [(4, .int (bI (hag (hfl (htk n K F bar (upd w rr (nI v)) ρ) g1 12) sh sr tb (i + 1)))), (6, .int 0), (0, .ref p0), (1, .int (nI rr)), (2, .int (hbt n K F bar w ρ sh sr tb q rr v)), (3, .int (nI v)), (5, .int (nI i))]) hx hb dX8_muchOf_92 hl (by decide) rfl (fun ls hl => ?_)
                    refine lv_iinc (v := nI (i + 1)) (lv' := [(5, .int (nI (i + 1))), (4, .int (bI (hag (hfl (htk n K F bar (upd w rr (nI v)) ρ) g1 12) sh sr tb (i + 1)))), (6, .int 0), (0, .ref p0), (1, .int (nI rr)), (2, .int (hbt n K F bar w ρ sh sr tb q rr v)), (3, .int (nI v))]) hx hb dX8_muchOf_94 hl (k := 6) rfl (nI_1 i) (by decide) rfl (fun ls hl => ?_)
                    refine lv_goto (tgt := 22) hx hb dX8_muchOf_97 (by decide) ?_
                    exact ih22  (i + 1) (by omega) (by first | assumption | omega) _ _ _ h (lv_sub hl [3, 4, 5, 6, 1, 0] rfl)
              · skip
                refine lv_iconst (v := 1) hx hb dX8_muchOf_59 (by decide) ?_
                refine lv_goto (tgt := 64) hx hb dX8_muchOf_60 (by decide) ?_
                refine lv_istore (lv' := [(6, .int 1), (0, .ref p0), (1, .int (nI rr)), (2, .int (hbt n K F bar w ρ sh sr tb q rr v)), (3, .int (nI v)), (4, .int (bI (hag (hfl (htk n K F bar (upd w rr (nI v)) ρ) g1 12) sh sr tb i))), (5, .int (nI i))]) hx hb dX8_muchOf_64 hl (by decide) rfl (fun ls hl => ?_)
                refine lv_iload hx hb dX8_muchOf_66 (lv_at hl 5 rfl) ?_
                refine lv_if_eq (tgt := 91) hx hb dX8_muchOf_68 (by decide) (fun c_68 => ?_) (fun c_68 => ?_)
                · skip
                  refine lv_iconst (v := 0) hx hb dX8_muchOf_91 (by decide) ?_
                  refine r_top (y := bI (hag (hfl (htk n K F bar (upd w rr (nI v)) ρ) g1 12) sh sr tb (i + 1))) (by first | exact hag_e0 (bI_0.mp c_68) | exact hag_e1 (bI_n0.mp c_68) (by first | (rw [if_pos c_56]; exact c_84) | (rw [if_neg c_56]; exact c_84)) | exact hag_e2 (by first | (rw [if_pos c_56]; exact c_84) | (rw [if_neg c_56]; exact c_84))) ?_
                  refine lv_istore (lv' := [(4, .int (bI (hag (hfl (htk n K F bar (upd w rr (nI v)) ρ) g1 12) sh sr tb (i + 1)))), (6, .int 1), (0, .ref p0), (1, .int (nI rr)), (2, .int (hbt n K F bar w ρ sh sr tb q rr v)), (3, .int (nI v)), (5, .int (nI i))]) hx hb dX8_muchOf_92 hl (by decide) rfl (fun ls hl => ?_)
                  refine lv_iinc (v := nI (i + 1)) (lv' := [(5, .int (nI (i + 1))), (4, .int (bI (hag (hfl (htk n K F bar (upd w rr (nI v)) ρ) g1 12) sh sr tb (i + 1)))), (6, .int 1), (0, .ref p0), (1, .int (nI rr)), (2, .int (hbt n K F bar w ρ sh sr tb q rr v)), (3, .int (nI v))]) hx hb dX8_muchOf_94 hl (k := 6) rfl (nI_1 i) (by decide) rfl (fun ls hl => ?_)
                  refine lv_goto (tgt := 22) hx hb dX8_muchOf_97 (by decide) ?_
                  exact ih22  (i + 1) (by omega) (by first | assumption | omega) _ _ _ h (lv_sub hl [3, 4, 5, 6, 1, 0] rfl)
                · skip
                  refine lv_iload hx hb dX8_muchOf_71 (lv_at hl 0 rfl) ?_
                  refine lv_aload_n hx hb dX8_muchOf_73 rfl (lv_at hl 1 rfl) ?_
                  refine r_get C h fk8 0 22 rfl (by decide) mf_RX8_40 rfl dX8_muchOf_74 ?_
                  refine lv_iconst (v := 3) hx hb dX8_muchOf_77 (by decide) ?_
                  refine lv_iload hx hb dX8_muchOf_78 (lv_at hl 6 rfl) ?_
                  refine lv_imul hx hb dX8_muchOf_80 ?_
                  refine r_top (y := nI (3 * i)) (pk_mul 3 i) ?_
                  refine lv_iconst (v := 2) hx hb dX8_muchOf_81 (by decide) ?_
                  refine lv_iadd hx hb dX8_muchOf_82 ?_
                  refine r_top (y := nI ((3 * i) + 2)) (nI_add (3 * i) 2) ?_
                  refine r_ld C h 7 rfl ((3 * i) + 2) (rfl) (by omega) (by decide) (x := tb i) (sgt_2 i) dX8_muchOf_83 ?_
                  refine lv_icmp_ne (tgt := 91) hx hb dX8_muchOf_84 (by decide) (fun c_84 => ?_) (fun c_84 => ?_)
                  · skip
                    refine lv_iconst (v := 0) hx hb dX8_muchOf_91 (by decide) ?_
                    refine r_top (y := bI (hag (hfl (htk n K F bar (upd w rr (nI v)) ρ) g1 12) sh sr tb (i + 1))) (by first | exact hag_e0 (bI_0.mp c_68) | exact hag_e1 (bI_n0.mp c_68) (by first | (rw [if_pos c_56]; exact c_84) | (rw [if_neg c_56]; exact c_84)) | exact hag_e2 (by first | (rw [if_pos c_56]; exact c_84) | (rw [if_neg c_56]; exact c_84))) ?_
                    refine lv_istore (lv' := [(4, .int (bI (hag (hfl (htk n K F bar (upd w rr (nI v)) ρ) g1 12) sh sr tb (i + 1)))), (6, .int 1), (0, .ref p0), (1, .int (nI rr)), (2, .int (hbt n K F bar w ρ sh sr tb q rr v)), (3, .int (nI v)), (5, .int (nI i))]) hx hb dX8_muchOf_92 hl (by decide) rfl (fun ls hl => ?_)
                    refine lv_iinc (v := nI (i + 1)) (lv' := [(5, .int (nI (i + 1))), (4, .int (bI (hag (hfl (htk n K F bar (upd w rr (nI v)) ρ) g1 12) sh sr tb (i + 1)))), (6, .int 1), (0, .ref p0), (1, .int (nI rr)), (2, .int (hbt n K F bar w ρ sh sr tb q rr v)), (3, .int (nI v))]) hx hb dX8_muchOf_94 hl (k := 6) rfl (nI_1 i) (by decide) rfl (fun ls hl => ?_)
                    refine lv_goto (tgt := 22) hx hb dX8_muchOf_97 (by decide) ?_
                    exact ih22  (i + 1) (by omega) (by first | assumption | omega) _ _ _ h (lv_sub hl [3, 4, 5, 6, 1, 0] rfl)
                  · skip
                    refine lv_iconst (v := 1) hx hb dX8_muchOf_87 (by decide) ?_
                    refine lv_goto (tgt := 92) hx hb dX8_muchOf_88 (by decide) ?_
                    refine r_top (y := bI (hag (hfl (htk n K F bar (upd w rr (nI v)) ρ) g1 12) sh sr tb (i + 1))) (by first | exact hag_e0 (bI_0.mp c_68) | exact hag_e1 (bI_n0.mp c_68) (by first | (rw [if_pos c_56]; exact c_84) | (rw [if_neg c_56]; exact c_84)) | exact hag_e2 (by first | (rw [if_pos c_56]; exact c_84) | (rw [if_neg c_56]; exact c_84))) ?_
                    refine lv_istore (lv' := [(4, .int (bI (hag (hfl (htk n K F bar (upd w rr (nI v)) ρ) g1 12) sh sr tb (i + 1)))), (6, .int 1), (0, .ref p0), (1, .int (nI rr)), (2, .int (hbt n K F bar w ρ sh sr tb q rr v)), (3, .int (nI v)), (5, .int (nI i))]) hx hb dX8_muchOf_92 hl (by decide) rfl (fun ls hl => ?_)
                    refine lv_iinc (v := nI (i + 1)) (lv' := [(5, .int (nI (i + 1))), (4, .int (bI (hag (hfl (htk n K F bar (upd w rr (nI v)) ρ) g1 12) sh sr tb (i + 1)))), (6, .int 1), (0, .ref p0), (1, .int (nI rr)), (2, .int (hbt n K F bar w ρ sh sr tb q rr v)), (3, .int (nI v))]) hx hb dX8_muchOf_94 hl (k := 6) rfl (nI_1 i) (by decide) rfl (fun ls hl => ?_)
                    refine lv_goto (tgt := 22) hx hb dX8_muchOf_97 (by decide) ?_
                    exact ih22  (i + 1) (by omega) (by first | assumption | omega) _ _ _ h (lv_sub hl [3, 4, 5, 6, 1, 0] rfl)
        exact L22 ((q - 0) + 1) 0 (by omega) (by first | assumption | omega) _ _ _ h (lv_sub hl [2, 3, 4, 5, 1, 0] rfl)
  exact L4 ((10 - 0) + 1) 0 tof tmu sw ss g (by omega) (by first | assumption | omega) _ _ _ h (lv_sub hl [2, 3, 1, 0] rfl)

set_option maxHeartbeats 4000000 in
set_option maxRecDepth 100000 in
theorem c_X8_lookOf (l : Launch) (D : va_G) (cI cZ : ClassId) (kS vS : Nat) (p0 : Nat) (p1 : Nat) (p2 : Nat) (p3 : Nat) (p4 : Nat) (p5 : Nat) (p6 : Nat) (p7 : Nat) (p8 : Nat) (p9 : Nat) (p10 : Nat) (p11 : Nat) (p12 : Nat) (p13 : Nat) (p14 : Nat) (p15 : Nat) (p16 : Nat) (p17 : Nat) (n : Nat) (pgm : Int32) (rdm : Int32) (rdb : Int32) (stt : Int32) (bar : Int32) (hrs : Int32) (crd : Int32) (tof : Int32) (tmu : Int32) (bdn : Int32) (sdn : Int32) (kcs : Int32) (khr : Int32) (ksn : Int32) (hlg : Int64) (w : Nat → Int32) (ρ : Nat → Nat) (K : Nat → Int32) (F : Nat → Int32) (sw : Nat → Int32) (ss : Nat → Int32) (q : Nat) (sh : Nat → Nat) (sr : Nat → Nat) (tb : Nat → Int32) (g : Nat → Int32) (y0 : Nat → Int32) (rr : Nat) (hn2 : 2 ≤ n) (hn5 : n ≤ 5) (hpm : PM n ρ) (hK : ∀ j, j < n → K j = 0 ∨ K j = 1 ∨ K j = 2 ∨ K j = 3 ∨ K j = 4) (hq6 : q ≤ 6) (hsh : ∀ i, i < q → 1 ≤ sh i ∧ sh i ≤ 12) (hrn : rr < n) : CI l yX8_lookOf cX8_lookOf 8 .int D cI cZ kS vS 4 97 0 0 [.ref p0, .int (nI rr)] [(p0, .inr (8, [.ref p1, .int pgm, .ref p2, .int rdm, .int rdb, .int stt, .int (nI n), .int bar, .int hrs, .int crd, .ref p3, .ref p4, .ref p5, .ref p6, .ref p7, .int tof, .int tmu, .ref p8, .ref p9, .int bdn, .ref p10, .int (nI q), .ref p11, .ref p12, .ref p13, .int sdn, .int kcs, .int khr, .int ksn, .ref p14, .ref p15, .ref p16, .ref p17, .long hlg])), (p3, .inl (cI, 5, .inl K)), (p4, .inl (cI, 5, .inl F)), (p5, .inl (cI, 5, .inl w)), (p6, .inl (cI, 5, .inl (ro ρ))), (p8, .inl (cI, 5, .inl sw)), (p9, .inl (cI, 5, .inl ss)), (p11, .inl (cI, 18, .inl (sgt sh sr tb))), (p12, .inl (cI, 13, .inl g)), (p13, .inl (cI, 13, .inl y0))] (fun (r : Int32) (u : Int32 × Int32 × (Nat → Int32) × (Nat → Int32) × (Nat → Int32) × (Nat → Int32)) => r = if hct n K F bar w ρ sh sr tb q rr 10 = 0 then -1 else (hbs (hct n K F bar w ρ sh sr tb q rr 10) (hys n K F bar w ρ sh sr tb q rr 10) (hct n K F bar w ρ sh sr tb q rr 10 + 1) 12).1) (fun (u : Int32 × Int32 × (Nat → Int32) × (Nat → Int32) × (Nat → Int32) × (Nat → Int32)) => [(p0, .inr (8, [.ref p1, .int pgm, .ref p2, .int rdm, .int rdb, .int stt, .int (nI n), .int bar, .int hrs, .int crd, .ref p3, .ref p4, .ref p5, .ref p6, .ref p7, .int u.1, .int u.2.1, .ref p8, .ref p9, .int bdn, .ref p10, .int (nI q), .ref p11, .ref p12, .ref p13, .int sdn, .int kcs, .int khr, .int ksn, .ref p14, .ref p15, .ref p16, .ref p17, .long hlg])), (p3, .inl (cI, 5, .inl K)), (p4, .inl (cI, 5, .inl F)), (p5, .inl (cI, 5, .inl w)), (p6, .inl (cI, 5, .inl (ro ρ))), (p8, .inl (cI, 5, .inl u.2.2.1)), (p9, .inl (cI, 5, .inl u.2.2.2.1)), (p11, .inl (cI, 18, .inl (sgt sh sr tb))), (p12, .inl (cI, 13, .inl u.2.2.2.2.1)), (p13, .inl (cI, 13, .inl u.2.2.2.2.2))]) := by
  refine CI_intro (by decide) (Nat.le_of_ble_eq_true rfl) ?_
  intro p e s m args below meth c A Q ls C h hret hl
  have C : CX p s m args c cX8_lookOf 8 RX8 D cI cZ kS vS A := C
  have hx := C.1.1
  have hb := C.1.2.1
  have hl : lv_has ls 8 [(0, .ref p0), (1, .int (nI rr))] := hl
  refine lv_aload_n hx hb dX8_lookOf_0 rfl (lv_at hl 0 rfl) ?_
  refine lv_iload_n hx hb dX8_lookOf_1 rfl (lv_at hl 1 rfl) ?_
  refine k_Vi (rest := []) (as := [.int (nI rr)]) (wc := [(p0, .inr (8, [.ref p1, .int pgm, .ref p2, .int rdm, .int rdb, .int stt, .int (nI n), .int bar, .int hrs, .int crd, .ref p3, .ref p4, .ref p5, .ref p6, .ref p7, .int tof, .int tmu, .ref p8, .ref p9, .int bdn, .ref p10, .int (nI q), .ref p11, .ref p12, .ref p13, .int sdn, .int kcs, .int khr, .int ksn, .ref p14, .ref p15, .ref p16, .ref p17, .long hlg])), (p3, .inl (cI, 5, .inl K)), (p4, .inl (cI, 5, .inl F)), (p5, .inl (cI, 5, .inl w)), (p6, .inl (cI, 5, .inl (ro ρ))), (p8, .inl (cI, 5, .inl sw)), (p9, .inl (cI, 5, .inl ss)), (p11, .inl (cI, 18, .inl (sgt sh sr tb))), (p12, .inl (cI, 13, .inl g))]) (wr := [(p13, .inl (cI, 13, .inl y0))]) (isC := [0, 1, 2, 3, 4, 5, 6, 7, 8]) (isR := [9]) (w2 := fun (u : Int32 × Int32 × (Nat → Int32) × (Nat → Int32) × (Nat → Int32)) => [(p0, .inr (8, [.ref p1, .int pgm, .ref p2, .int rdm, .int rdb, .int stt, .int (nI n), .int bar, .int hrs, .int crd, .ref p3, .ref p4, .ref p5, .ref p6, .ref p7, .int u.1, .int u.2.1, .ref p8, .ref p9, .int bdn, .ref p10, .int (nI q), .ref p11, .ref p12, .ref p13, .int sdn, .int kcs, .int khr, .int ksn, .ref p14, .ref p15, .ref p16, .ref p17, .long hlg])), (p3, .inl (cI, 5, .inl K)), (p4, .inl (cI, 5, .inl F)), (p5, .inl (cI, 5, .inl w)), (p6, .inl (cI, 5, .inl (ro ρ))), (p8, .inl (cI, 5, .inl u.2.2.1)), (p9, .inl (cI, 5, .inl u.2.2.2.1)), (p11, .inl (cI, 18, .inl (sgt sh sr tb))), (p12, .inl (cI, 13, .inl u.2.2.2.2)), (p13, .inl (cI, 13, .inl y0))]) C h (c_X8_muchOf l D cI cZ kS vS p0 p1 p2 p3 p4 p5 p6 p7 p8 p9 p10 p11 p12 p13 p14 p15 p16 p17 n pgm rdm rdb stt bar hrs crd tof tmu bdn sdn kcs khr ksn hlg w ρ K F sw ss q sh sr tb g rr hn2 hn5 hpm hK hq6 hsh hrn) wv_X8_muchOf rfl ⟨rfl, rfl, rfl, rfl, by decide⟩ fk8 0 rfl ml_RX8_147 [1, 2, 3, 4, 5, 6, 7, 8, 9, 0] rfl (fun _ => rfl) ⟨Nat.le_of_ble_eq_true rfl, Nat.le_of_ble_eq_true rfl⟩ ⟨Nat.le_of_ble_eq_true rfl, Nat.le_of_ble_eq_true rfl⟩ (Nat.le_of_ble_eq_true rfl) hl rfl dX8_lookOf_2 (fun r u H locs hq h => ?_)
  obtain ⟨uo2, um2, usw2, uss2, ug2⟩ := u
  have h : HS D A s H locs [(p0, .inr (8, [.ref p1, .int pgm, .ref p2, .int rdm, .int rdb, .int stt, .int (nI n), .int bar, .int hrs, .int crd, .ref p3, .ref p4, .ref p5, .ref p6, .ref p7, .int uo2, .int um2, .ref p8, .ref p9, .int bdn, .ref p10, .int (nI q), .ref p11, .ref p12, .ref p13, .int sdn, .int kcs, .int khr, .int ksn, .ref p14, .ref p15, .ref p16, .ref p17, .long hlg])), (p3, .inl (cI, 5, .inl K)), (p4, .inl (cI, 5, .inl F)), (p5, .inl (cI, 5, .inl w)), (p6, .inl (cI, 5, .inl (ro ρ))), (p8, .inl (cI, 5, .inl usw2)), (p9, .inl (cI, 5, .inl uss2)), (p11, .inl (cI, 18, .inl (sgt sh sr tb))), (p12, .inl (cI, 13, .inl ug2)), (p13, .inl (cI, 13, .inl y0))] := h
  have hq : r = hbt n K F bar w ρ sh sr tb q rr 10 := hq
  have hq := hq.symm
  subst hq
  refine lv_istore_n (lv' := [(2, .int (hbt n K F bar w ρ sh sr tb q rr 10)), (0, .ref p0), (1, .int (nI rr))]) hx hb dX8_lookOf_5 rfl hl (by decide) rfl (fun ls hl => ?_)
  refine lv_iconst (v := 0) hx hb dX8_lookOf_6 (by decide) ?_
  refine lv_istore_n (lv' := [(3, .int 0), (2, .int (hbt n K F bar w ρ sh sr tb q rr 10)), (0, .ref p0), (1, .int (nI rr))]) hx hb dX8_lookOf_7 rfl hl (by decide) rfl (fun ls hl => ?_)
  refine lv_iconst (v := 0) hx hb dX8_lookOf_8 (by decide) ?_
  refine lv_istore (lv' := [(4, .int 0), (3, .int 0), (2, .int (hbt n K F bar w ρ sh sr tb q rr 10)), (0, .ref p0), (1, .int (nI rr))]) hx hb dX8_lookOf_9 hl (by decide) rfl (fun ls hl => ?_)
  have L11 : ∀ (fu : Nat) (i : Nat), (13 - i) < fu → (hi : i ≤ 13) → ∀ (H : Heap) (locs : List Loc) (ls : Array Slot), HS D A s H locs [(p0, .inr (8, [.ref p1, .int pgm, .ref p2, .int rdm, .int rdb, .int stt, .int (nI n), .int bar, .int hrs, .int crd, .ref p3, .ref p4, .ref p5, .ref p6, .ref p7, .int uo2, .int um2, .ref p8, .ref p9, .int bdn, .ref p10, .int (nI q), .ref p11, .ref p12, .ref p13, .int sdn, .int kcs, .int khr, .int ksn, .ref p14, .ref p15, .ref p16, .ref p17, .long hlg])), (p3, .inl (cI, 5, .inl K)), (p4, .inl (cI, 5, .inl F)), (p5, .inl (cI, 5, .inl w)), (p6, .inl (cI, 5, .inl (ro ρ))), (p8, .inl (cI, 5, .inl usw2)), (p9, .inl (cI, 5, .inl uss2)), (p11, .inl (cI, 18, .inl (sgt sh sr tb))), (p12, .inl (cI, 13, .inl ug2)), (p13, .inl (cI, 13, .inl (ffl (fun _ => 0) y0 i)))] → lv_has ls 8 [(0, .ref p0), (1, .int (nI rr)), (2, .int (hbt n K F bar w ρ sh sr tb q rr 10)), (3, .int 0), (4, .int (nI i))] → W p l e (rmO 4 97 0 0) s m args below meth c H locs 0 0 Q (F0 m 11 ls []) := by
    intro fu
    induction fu with
    | zero => intro i hfu; exact absurd hfu (Nat.not_lt_zero _)
    | succ fu ih11 =>
      intro i hfu hi H locs ls h hl
      refine lv_iload hx hb dX8_lookOf_11 (lv_at hl 4 rfl) ?_
      refine lv_bipush (v := 13) hx hb dX8_lookOf_13 (by decide) ?_
      refine lv_icmp_ge (tgt := 32) hx hb dX8_lookOf_15 (by decide) (fun c_15 => ?_) (fun c_15 => ?_)
      · skip
        have c_15 := (jle (a := 13) (b := i) (by omega) (by omega)).mp c_15
        obtain rfl : 13 = i := by omega
        refine lv_iconst (v := 0) hx hb dX8_lookOf_32 (by decide) ?_
        refine lv_istore (lv' := [(4, .int 0), (0, .ref p0), (1, .int (nI rr)), (2, .int (hbt n K F bar w ρ sh sr tb q rr 10)), (3, .int 0)]) hx hb dX8_lookOf_33 hl (by decide) rfl (fun ls hl => ?_)
        have L35 : ∀ (fu : Nat) (v : Nat) (to1 : Int32) (tm1 : Int32) (sw1 : Nat → Int32) (ss1 : Nat → Int32) (g1 : Nat → Int32), (10 - v) < fu → (hv10 : v ≤ 10) → ∀ (H : Heap) (locs : List Loc) (ls : Array Slot), HS D A s H locs [(p0, .inr (8, [.ref p1, .int pgm, .ref p2, .int rdm, .int rdb, .int stt, .int (nI n), .int bar, .int hrs, .int crd, .ref p3, .ref p4, .ref p5, .ref p6, .ref p7, .int to1, .int tm1, .ref p8, .ref p9, .int bdn, .ref p10, .int (nI q), .ref p11, .ref p12, .ref p13, .int sdn, .int kcs, .int khr, .int ksn, .ref p14, .ref p15, .ref p16, .ref p17, .long hlg])), (p3, .inl (cI, 5, .inl K)), (p4, .inl (cI, 5, .inl F)), (p5, .inl (cI, 5, .inl w)), (p6, .inl (cI, 5, .inl (ro ρ))), (p8, .inl (cI, 5, .inl sw1)), (p9, .inl (cI, 5, .inl ss1)), (p11, .inl (cI, 18, .inl (sgt sh sr tb))), (p12, .inl (cI, 13, .inl g1)), (p13, .inl (cI, 13, .inl (ro (hys n K F bar w ρ sh sr tb q rr v))))] → lv_has ls 8 [(0, .ref p0), (1, .int (nI rr)), (2, .int (hbt n K F bar w ρ sh sr tb q rr 10)), (3, .int (nI (hct n K F bar w ρ sh sr tb q rr v))), (4, .int (nI v))] → W p l e (rmO 4 97 0 0) s m args below meth c H locs 0 0 Q (F0 m 35 ls []) := by
          intro fu
          induction fu with
          | zero => intro v to1 tm1 sw1 ss1 g1 hfu; exact absurd hfu (Nat.not_lt_zero _)
          | succ fu ih35 =>
            intro v to1 tm1 sw1 ss1 g1 hfu hv10 H locs ls h hl
            refine lv_iload hx hb dX8_lookOf_35 (lv_at hl 4 rfl) ?_
            refine lv_bipush (v := 10) hx hb dX8_lookOf_37 (by decide) ?_
            refine lv_icmp_ge (tgt := 110) hx hb dX8_lookOf_39 (by decide) (fun c_39 => ?_) (fun c_39 => ?_)
            · skip
              have c_39 := (jle (a := 10) (b := v) (by omega) (by omega)).mp c_39
              obtain rfl : 10 = v := by omega
              have hct10 := hct_le (n := n) (K := K) (F := F) (bar := bar) (w := w) (ρ := ρ) (sh := sh) (sr := sr) (tb := tb) (q := q) (rr := rr) 10
              have hys10 := hys_le (n := n) (K := K) (F := F) (bar := bar) (w := w) (ρ := ρ) (sh := sh) (sr := sr) (tb := tb) (q := q) (rr := rr) 10
              refine lv_iconst (v := (-1)) hx hb dX8_lookOf_110 (by decide) ?_
              refine lv_istore (lv' := [(4, .int (-1)), (0, .ref p0), (1, .int (nI rr)), (2, .int (hbt n K F bar w ρ sh sr tb q rr 10)), (3, .int (nI (hct n K F bar w ρ sh sr tb q rr 10)))]) hx hb dX8_lookOf_111 hl (by decide) rfl (fun ls hl => ?_)
              refine lv_bipush (v := 11) hx hb dX8_lookOf_113 (by decide) ?_
              refine lv_istore (lv' := [(5, .int 11), (4, .int (-1)), (0, .ref p0), (1, .int (nI rr)), (2, .int (hbt n K F bar w ρ sh sr tb q rr 10)), (3, .int (nI (hct n K F bar w ρ sh sr tb q rr 10)))]) hx hb dX8_lookOf_115 hl (by decide) rfl (fun ls hl => ?_)
              refine lv_iconst (v := 1) hx hb dX8_lookOf_117 (by decide) ?_
              refine lv_istore (lv' := [(6, .int 1), (5, .int 11), (4, .int (-1)), (0, .ref p0), (1, .int (nI rr)), (2, .int (hbt n K F bar w ρ sh sr tb q rr 10)), (3, .int (nI (hct n K F bar w ρ sh sr tb q rr 10)))]) hx hb dX8_lookOf_118 hl (by decide) rfl (fun ls hl => ?_)
              have L120 : ∀ (fu : Nat) (k : Nat), (12 - k) < fu → (hk : k ≤ 12) → (hz : hct n K F bar w ρ sh sr tb q rr 10 = 0 → k = 0) → ∀ (H : Heap) (locs : List Loc) (ls : Array Slot), HS D A s H locs [(p0, .inr (8, [.ref p1, .int pgm, .ref p2, .int rdm, .int rdb, .int stt, .int (nI n), .int bar, .int hrs, .int crd, .ref p3, .ref p4, .ref p5, .ref p6, .ref p7, .int to1, .int tm1, .ref p8, .ref p9, .int bdn, .ref p10, .int (nI q), .ref p11, .ref p12, .ref p13, .int sdn, .int kcs, .int khr, .int ksn, .ref p14, .ref p15, .ref p16, .ref p17, .long hlg])), (p3, .inl (cI, 5, .inl K)), (p4, .inl (cI, 5, .inl F)), (p5, .inl (cI, 5, .inl w)), (p6, .inl (cI, 5, .inl (ro ρ))), (p8, .inl (cI, 5, .inl sw1)), (p9, .inl (cI, 5, .inl ss1)), (p11, .inl (cI, 18, .inl (sgt sh sr tb))), (p12, .inl (cI, 13, .inl g1)), (p13, .inl (cI, 13, .inl (ro (hys n K F bar w ρ sh sr tb q rr 10))))] → lv_has ls 8 [(0, .ref p0), (3, .int (nI (hct n K F bar w ρ sh sr tb q rr 10))), (4, .int (hbs (hct n K F bar w ρ sh sr tb q rr 10) (hys n K F bar w ρ sh sr tb q rr 10) 11 k).1), (5, .int (nI (hbs (hct n K F bar w ρ sh sr tb q rr 10) (hys n K F bar w ρ sh sr tb q rr 10) 11 k).2)), (6, .int (nI (k + 1)))] → W p l e (rmO 4 97 0 0) s m args below meth c H locs 0 0 Q (F0 m 120 ls []) := by
                intro fu
                induction fu with
                | zero => intro k hfu; exact absurd hfu (Nat.not_lt_zero _)
                | succ fu ih120 =>
                  intro k hfu hk hz H locs ls h hl
                  refine lv_iload hx hb dX8_lookOf_120 (lv_at hl 4 rfl) ?_
                  refine lv_bipush (v := 13) hx hb dX8_lookOf_122 (by decide) ?_
                  refine lv_icmp_ge (tgt := 209) hx hb dX8_lookOf_124 (by decide) (fun c_124 => ?_) (fun c_124 => ?_)
                  · skip
                    have c_124 := (jle (a := 13) (b := (k + 1)) (by omega) (by omega)).mp c_124
                    obtain rfl : 12 = k := by omega
                    refine lv_iload hx hb dX8_lookOf_209 (lv_at hl 2 rfl) ?_
                    exact hret (r := (hbs (hct n K F bar w ρ sh sr tb q rr 10) (hys n K F bar w ρ sh sr tb q rr 10) 11 12).1) (⟨to1, tm1, sw1, ss1, g1, ro (hys n K F bar w ρ sh sr tb q rr 10)⟩) dX8_lookOf_211 h (rfl) (dite (hct n K F bar w ρ sh sr tb q rr 10 = 0) (fun z => absurd (hz z) (by decide)) (fun z => (congrArg Prod.fst (hbs_st hys10 (by omega) (by omega) 11)).trans (if_neg z).symm))
                  · skip
                    have c_124 : ¬ 13 ≤ (k + 1) := fun z => c_124 ((jle (a := 13) (b := (k + 1)) (by omega) (by omega)).mpr z)
                    have hlt : k < 12 := by omega
                    have hgk := hys10 (k + 1)
                    have hb1 := hbs_le (st := 11) hys10 k
                    have hb2 := hlf_le hgk
                    refine lv_iload_n hx hb dX8_lookOf_127 rfl (lv_at hl 1 rfl) ?_
                    refine lv_if_le (tgt := 209) hx hb dX8_lookOf_128 (by decide) (fun c_128 => ?_) (fun c_128 => ?_)
                    · skip
                      have c_128 := (jle (a := (hct n K F bar w ρ sh sr tb q rr 10)) (b := 0) (by omega) (by omega)).mp c_128
                      have ez : hct n K F bar w ρ sh sr tb q rr 10 = 0 := by omega
                      refine lv_iload hx hb dX8_lookOf_209 (lv_at hl 2 rfl) ?_
                      exact hret (r := (hbs (hct n K F bar w ρ sh sr tb q rr 10) (hys n K F bar w ρ sh sr tb q rr 10) 11 k).1) (⟨to1, tm1, sw1, ss1, g1, ro (hys n K F bar w ρ sh sr tb q rr 10)⟩) dX8_lookOf_211 h (rfl) ((congrArg (fun kk => (hbs (hct n K F bar w ρ sh sr tb q rr 10) (hys n K F bar w ρ sh sr tb q rr 10) 11 kk).1) (hz ez)).trans (if_pos ez).symm)
                    · skip
                      have c_128 : ¬ (hct n K F bar w ρ sh sr tb q rr 10) ≤ 0 := fun z => c_128 ((jle (a := (hct n K F bar w ρ sh sr tb q rr 10)) (b := 0) (by omega) (by omega)).mpr z)
                      refine lv_aload_n hx hb dX8_lookOf_131 rfl (lv_at hl 0 rfl) ?_
                      refine r_get C h fk8 0 24 rfl (by decide) mf_RX8_46 rfl dX8_lookOf_132 ?_
                      refine lv_iload hx hb dX8_lookOf_135 (lv_at hl 4 rfl) ?_
                      refine r_ld C h 9 rfl (k + 1) (rfl) (by omega) (by decide) (x := nI ((hys n K F bar w ρ sh sr tb q rr 10) (k + 1))) (rfl) dX8_lookOf_137 ?_
                      refine lv_iload_n hx hb dX8_lookOf_138 rfl (lv_at hl 1 rfl) ?_
                      refine lv_aload_n hx hb dX8_lookOf_139 rfl (lv_at hl 0 rfl) ?_
                      refine r_get C h fk8 0 24 rfl (by decide) mf_RX8_46 rfl dX8_lookOf_140 ?_
                      refine lv_iload hx hb dX8_lookOf_143 (lv_at hl 4 rfl) ?_
                      refine r_ld C h 9 rfl (k + 1) (rfl) (by omega) (by decide) (x := nI ((hys n K F bar w ρ sh sr tb q rr 10) (k + 1))) (rfl) dX8_lookOf_145 ?_
                      refine lv_isub hx hb dX8_lookOf_146 ?_
                      refine r_top (y := nI ((hct n K F bar w ρ sh sr tb q rr 10) - ((hys n K F bar w ρ sh sr tb q rr 10) (k + 1)))) (pk_sub (a := (hct n K F bar w ρ sh sr tb q rr 10)) (b := ((hys n K F bar w ρ sh sr tb q rr 10) (k + 1))) (by omega)) ?_
                      refine lv_icmp_le (tgt := 160) hx hb dX8_lookOf_147 (by decide) (fun c_147 => ?_) (fun c_147 => ?_)
                      · skip
                        have c_147 := (jle (a := ((hys n K F bar w ρ sh sr tb q rr 10) (k + 1))) (b := ((hct n K F bar w ρ sh sr tb q rr 10) - ((hys n K F bar w ρ sh sr tb q rr 10) (k + 1)))) (by omega) (by omega)).mp c_147
                        refine lv_iload_n hx hb dX8_lookOf_160 rfl (lv_at hl 1 rfl) ?_
                        refine lv_aload_n hx hb dX8_lookOf_161 rfl (lv_at hl 0 rfl) ?_
                        refine r_get C h fk8 0 24 rfl (by decide) mf_RX8_46 rfl dX8_lookOf_162 ?_
                        refine lv_iload hx hb dX8_lookOf_165 (lv_at hl 4 rfl) ?_
                        refine r_ld C h 9 rfl (k + 1) (rfl) (by omega) (by decide) (x := nI ((hys n K F bar w ρ sh sr tb q rr 10) (k + 1))) (rfl) dX8_lookOf_167 ?_
                        refine lv_isub hx hb dX8_lookOf_168 ?_
                        refine r_top (y := nI ((hct n K F bar w ρ sh sr tb q rr 10) - ((hys n K F bar w ρ sh sr tb q rr 10) (k + 1)))) (pk_sub (a := (hct n K F bar w ρ sh sr tb q rr 10)) (b := ((hys n K F bar w ρ sh sr tb q rr 10) (k + 1))) (by omega)) ?_
                        refine r_top (y := nI (hlf (hct n K F bar w ρ sh sr tb q rr 10) (hys n K F bar w ρ sh sr tb q rr 10) (k + 1))) (by first | exact hlf_a c_147 | exact hlf_b c_147) ?_
                        refine lv_istore (lv' := [(7, .int (nI (hlf (hct n K F bar w ρ sh sr tb q rr 10) (hys n K F bar w ρ sh sr tb q rr 10) (k + 1)))), (0, .ref p0), (3, .int (nI (hct n K F bar w ρ sh sr tb q rr 10))), (4, .int (hbs (hct n K F bar w ρ sh sr tb q rr 10) (hys n K F bar w ρ sh sr tb q rr 10) 11 k).1), (5, .int (nI (hbs (hct n K F bar w ρ sh sr tb q rr 10) (hys n K F bar w ρ sh sr tb q rr 10) 11 k).2)), (6, .int (nI (k + 1)))]) hx hb dX8_lookOf_169 hl (by decide) rfl (fun ls hl => ?_)
                        refine lv_iload hx hb dX8_lookOf_171 (lv_at hl 0 rfl) ?_
                        refine lv_iload hx hb dX8_lookOf_173 (lv_at hl 4 rfl) ?_
                        refine lv_icmp_ge (tgt := 183) hx hb dX8_lookOf_175 (by decide) (fun c_175 => ?_) (fun c_175 => ?_)
                        · skip
                          have c_175 := (jle (a := (hbs (hct n K F bar w ρ sh sr tb q rr 10) (hys n K F bar w ρ sh sr tb q rr 10) 11 k).2) (b := (hlf (hct n K F bar w ρ sh sr tb q rr 10) (hys n K F bar w ρ sh sr tb q rr 10) (k + 1))) (by omega) (by omega)).mp c_175
                          have eh : hbs (hct n K F bar w ρ sh sr tb q rr 10) (hys n K F bar w ρ sh sr tb q rr 10) 11 (k + 1) = hbs (hct n K F bar w ρ sh sr tb q rr 10) (hys n K F bar w ρ sh sr tb q rr 10) 11 k := if_neg (by omega)
                          refine lv_iload hx hb dX8_lookOf_183 (lv_at hl 3 rfl) ?_
                          refine lv_istore (lv' := [(4, .int (hbs (hct n K F bar w ρ sh sr tb q rr 10) (hys n K F bar w ρ sh sr tb q rr 10) 11 k).1), (7, .int (nI (hlf (hct n K F bar w ρ sh sr tb q rr 10) (hys n K F bar w ρ sh sr tb q rr 10) (k + 1)))), (0, .ref p0), (3, .int (nI (hct n K F bar w ρ sh sr tb q rr 10))), (5, .int (nI (hbs (hct n K F bar w ρ sh sr tb q rr 10) (hys n K F bar w ρ sh sr tb q rr 10) 11 k).2)), (6, .int (nI (k + 1)))]) hx hb dX8_lookOf_185 hl (by decide) rfl (fun ls hl => ?_)
                          refine lv_iload hx hb dX8_lookOf_187 (lv_at hl 1 rfl) ?_
                          refine lv_iload hx hb dX8_lookOf_189 (lv_at hl 4 rfl) ?_
                          refine lv_icmp_ge (tgt := 199) hx hb dX8_lookOf_191 (by decide) (fun c_191 => ?_) (fun c_191 => ?_)
                          · skip
                            have c_191 := (jle (a := (hbs (hct n K F bar w ρ sh sr tb q rr 10) (hys n K F bar w ρ sh sr tb q rr 10) 11 k).2) (b := (hlf (hct n K F bar w ρ sh sr tb q rr 10) (hys n K F bar w ρ sh sr tb q rr 10) (k + 1))) (by omega) (by omega)).mp c_191
                            refine lv_iload hx hb dX8_lookOf_199 (lv_at hl 4 rfl) ?_
                            refine lv_istore (lv' := [(5, .int (nI (hbs (hct n K F bar w ρ sh sr tb q rr 10) (hys n K F bar w ρ sh sr tb q rr 10) 11 k).2)), (4, .int (hbs (hct n K F bar w ρ sh sr tb q rr 10) (hys n K F bar w ρ sh sr tb q rr 10) 11 k).1), (7, .int (nI (hlf (hct n K F bar w ρ sh sr tb q rr 10) (hys n K F bar w ρ sh sr tb q rr 10) (k + 1)))), (0, .ref p0), (3, .int (nI (hct n K F bar w ρ sh sr tb q rr 10))), (6, .int (nI (k + 1)))]) hx hb dX8_lookOf_201 hl (by decide) rfl (fun ls hl => ?_)
                            refine lv_iinc (v := nI ((k + 1) + 1)) (lv' := [(6, .int (nI ((k + 1) + 1))), (5, .int (nI (hbs (hct n K F bar w ρ sh sr tb q rr 10) (hys n K F bar w ρ sh sr tb q rr 10) 11 k).2)), (4, .int (hbs (hct n K F bar w ρ sh sr tb q rr 10) (hys n K F bar w ρ sh sr tb q rr 10) 11 k).1), (7, .int (nI (hlf (hct n K F bar w ρ sh sr tb q rr 10) (hys n K F bar w ρ sh sr tb q rr 10) (k + 1)))), (0, .ref p0), (3, .int (nI (hct n K F bar w ρ sh sr tb q rr 10)))]) hx hb dX8_lookOf_203 hl (k := 5) rfl (nI_1 (k + 1)) (by decide) rfl (fun ls hl => ?_)
                            refine lv_goto (tgt := 120) hx hb dX8_lookOf_206 (by decide) ?_
                            have hl : lv_has ls 8 [(6, .int (nI ((k + 1) + 1))), (5, .int (nI (hbs (hct n K F bar w ρ sh sr tb q rr 10) (hys n K F bar w ρ sh sr tb q rr 10) 11 (k + 1)).2)), (4, .int (hbs (hct n K F bar w ρ sh sr tb q rr 10) (hys n K F bar w ρ sh sr tb q rr 10) 11 (k + 1)).1), (7, .int (nI (hlf (hct n K F bar w ρ sh sr tb q rr 10) (hys n K F bar w ρ sh sr tb q rr 10) (k + 1)))), (0, .ref p0), (3, .int (nI (hct n K F bar w ρ sh sr tb q rr 10)))] := by rw [eh]; exact hl
                            exact ih120  (k + 1) (by omega) (by first | assumption | omega) (fun z => absurd z (by omega)) _ _ _ h (lv_sub hl [4, 5, 2, 1, 0] rfl)
                          · skip
                            have c_191 : ¬ (hbs (hct n K F bar w ρ sh sr tb q rr 10) (hys n K F bar w ρ sh sr tb q rr 10) 11 k).2 ≤ (hlf (hct n K F bar w ρ sh sr tb q rr 10) (hys n K F bar w ρ sh sr tb q rr 10) (k + 1)) := fun z => c_191 ((jle (a := (hbs (hct n K F bar w ρ sh sr tb q rr 10) (hys n K F bar w ρ sh sr tb q rr 10) 11 k).2) (b := (hlf (hct n K F bar w ρ sh sr tb q rr 10) (hys n K F bar w ρ sh sr tb q rr 10) (k + 1))) (by omega) (by omega)).mpr z)
                            exact absurd c_175 c_191
                        · skip
                          have c_175 : ¬ (hbs (hct n K F bar w ρ sh sr tb q rr 10) (hys n K F bar w ρ sh sr tb q rr 10) 11 k).2 ≤ (hlf (hct n K F bar w ρ sh sr tb q rr 10) (hys n K F bar w ρ sh sr tb q rr 10) (k + 1)) := fun z => c_175 ((jle (a := (hbs (hct n K F bar w ρ sh sr tb q rr 10) (hys n K F bar w ρ sh sr tb q rr 10) 11 k).2) (b := (hlf (hct n K F bar w ρ sh sr tb q rr 10) (hys n K F bar w ρ sh sr tb q rr 10) (k + 1))) (by omega) (by omega)).mpr z)
                          have eh : hbs (hct n K F bar w ρ sh sr tb q rr 10) (hys n K F bar w ρ sh sr tb q rr 10) 11 (k + 1) = (nI (k + 1), hlf (hct n K F bar w ρ sh sr tb q rr 10) (hys n K F bar w ρ sh sr tb q rr 10) (k + 1)) := if_pos (by omega)
                          refine lv_iload hx hb dX8_lookOf_178 (lv_at hl 5 rfl) ?_
                          refine lv_goto (tgt := 185) hx hb dX8_lookOf_180 (by decide) ?_
                          refine lv_istore (lv' := [(4, .int (nI (k + 1))), (7, .int (nI (hlf (hct n K F bar w ρ sh sr tb q rr 10) (hys n K F bar w ρ sh sr tb q rr 10) (k + 1)))), (0, .ref p0), (3, .int (nI (hct n K F bar w ρ sh sr tb q rr 10))), (5, .int (nI (hbs (hct n K F bar w ρ sh sr tb q rr 10) (hys n K F bar w ρ sh sr tb q rr 10) 11 k).2)), (6, .int (nI (k + 1)))]) hx hb dX8_lookOf_185 hl (by decide) rfl (fun ls hl => ?_)
                          refine lv_iload hx hb dX8_lookOf_187 (lv_at hl 1 rfl) ?_
                          refine lv_iload hx hb dX8_lookOf_189 (lv_at hl 4 rfl) ?_
                          refine lv_icmp_ge (tgt := 199) hx hb dX8_lookOf_191 (by decide) (fun c_191 => ?_) (fun c_191 => ?_)
                          · skip
                            have c_191 := (jle (a := (hbs (hct n K F bar w ρ sh sr tb q rr 10) (hys n K F bar w ρ sh sr tb q rr 10) 11 k).2) (b := (hlf (hct n K F bar w ρ sh sr tb q rr 10) (hys n K F bar w ρ sh sr tb q rr 10) (k + 1))) (by omega) (by omega)).mp c_191
                            exact absurd c_191 c_175
                          · skip
                            have c_191 : ¬ (hbs (hct n K F bar w ρ sh sr tb q rr 10) (hys n K F bar w ρ sh sr tb q rr 10) 11 k).2 ≤ (hlf (hct n K F bar w ρ sh sr tb q rr 10) (hys n K F bar w ρ sh sr tb q rr 10) (k + 1)) := fun z => c_191 ((jle (a := (hbs (hct n K F bar w ρ sh sr tb q rr 10) (hys n K F bar w ρ sh sr tb q rr 10) 11 k).2) (b := (hlf (hct n K F bar w ρ sh sr tb q rr 10) (hys n K F bar w ρ sh sr tb q rr 10) (k + 1))) (by omega) (by omega)).mpr z)
                            refine lv_iload hx hb dX8_lookOf_194 (lv_at hl 1 rfl) ?_
                            refine lv_goto (tgt := 201) hx hb dX8_lookOf_196 (by decide) ?_
                            refine lv_istore (lv' := [(5, .int (nI (hlf (hct n K F bar w ρ sh sr tb q rr 10) (hys n K F bar w ρ sh sr tb q rr 10) (k + 1)))), (4, .int (nI (k + 1))), (7, .int (nI (hlf (hct n K F bar w ρ sh sr tb q rr 10) (hys n K F bar w ρ sh sr tb q rr 10) (k + 1)))), (0, .ref p0), (3, .int (nI (hct n K F bar w ρ sh sr tb q rr 10))), (6, .int (nI (k + 1)))]) hx hb dX8_lookOf_201 hl (by decide) rfl (fun ls hl => ?_)
                            refine lv_iinc (v := nI ((k + 1) + 1)) (lv' := [(6, .int (nI ((k + 1) + 1))), (5, .int (nI (hlf (hct n K F bar w ρ sh sr tb q rr 10) (hys n K F bar w ρ sh sr tb q rr 10) (k + 1)))), (4, .int (nI (k + 1))), (7, .int (nI (hlf (hct n K F bar w ρ sh sr tb q rr 10) (hys n K F bar w ρ sh sr tb q rr 10) (k + 1)))), (0, .ref p0), (3, .int (nI (hct n K F bar w ρ sh sr tb q rr 10)))]) hx hb dX8_lookOf_203 hl (k := 5) rfl (nI_1 (k + 1)) (by decide) rfl (fun ls hl => ?_)
                            refine lv_goto (tgt := 120) hx hb dX8_lookOf_206 (by decide) ?_
                            have hl : lv_has ls 8 [(6, .int (nI ((k + 1) + 1))), (5, .int (nI (hbs (hct n K F bar w ρ sh sr tb q rr 10) (hys n K F bar w ρ sh sr tb q rr 10) 11 (k + 1)).2)), (4, .int (hbs (hct n K F bar w ρ sh sr tb q rr 10) (hys n K F bar w ρ sh sr tb q rr 10) 11 (k + 1)).1), (7, .int (nI (hlf (hct n K F bar w ρ sh sr tb q rr 10) (hys n K F bar w ρ sh sr tb q rr 10) (k + 1)))), (0, .ref p0), (3, .int (nI (hct n K F bar w ρ sh sr tb q rr 10)))] := by rw [eh]; exact hl
                            exact ih120  (k + 1) (by omega) (by first | assumption | omega) (fun z => absurd z (by omega)) _ _ _ h (lv_sub hl [4, 5, 2, 1, 0] rfl)
                      · skip
                        have c_147 : ¬ ((hys n K F bar w ρ sh sr tb q rr 10) (k + 1)) ≤ ((hct n K F bar w ρ sh sr tb q rr 10) - ((hys n K F bar w ρ sh sr tb q rr 10) (k + 1))) := fun z => c_147 ((jle (a := ((hys n K F bar w ρ sh sr tb q rr 10) (k + 1))) (b := ((hct n K F bar w ρ sh sr tb q rr 10) - ((hys n K F bar w ρ sh sr tb q rr 10) (k + 1)))) (by omega) (by omega)).mpr z)
                        refine lv_aload_n hx hb dX8_lookOf_150 rfl (lv_at hl 0 rfl) ?_
                        refine r_get C h fk8 0 24 rfl (by decide) mf_RX8_46 rfl dX8_lookOf_151 ?_
                        refine lv_iload hx hb dX8_lookOf_154 (lv_at hl 4 rfl) ?_
                        refine r_ld C h 9 rfl (k + 1) (rfl) (by omega) (by decide) (x := nI ((hys n K F bar w ρ sh sr tb q rr 10) (k + 1))) (rfl) dX8_lookOf_156 ?_
                        refine lv_goto (tgt := 169) hx hb dX8_lookOf_157 (by decide) ?_
                        refine r_top (y := nI (hlf (hct n K F bar w ρ sh sr tb q rr 10) (hys n K F bar w ρ sh sr tb q rr 10) (k + 1))) (by first | exact hlf_a c_147 | exact hlf_b c_147) ?_
                        refine lv_istore (lv' := [(7, .int (nI (hlf (hct n K F bar w ρ sh sr tb q rr 10) (hys n K F bar w ρ sh sr tb q rr 10) (k + 1)))), (0, .ref p0), (3, .int (nI (hct n K F bar w ρ sh sr tb q rr 10))), (4, .int (hbs (hct n K F bar w ρ sh sr tb q rr 10) (hys n K F bar w ρ sh sr tb q rr 10) 11 k).1), (5, .int (nI (hbs (hct n K F bar w ρ sh sr tb q rr 10) (hys n K F bar w ρ sh sr tb q rr 10) 11 k).2)), (6, .int (nI (k + 1)))]) hx hb dX8_lookOf_169 hl (by decide) rfl (fun ls hl => ?_)
                        refine lv_iload hx hb dX8_lookOf_171 (lv_at hl 0 rfl) ?_
                        refine lv_iload hx hb dX8_lookOf_173 (lv_at hl 4 rfl) ?_
                        refine lv_icmp_ge (tgt := 183) hx hb dX8_lookOf_175 (by decide) (fun c_175 => ?_) (fun c_175 => ?_)
                        · skip
                          have c_175 := (jle (a := (hbs (hct n K F bar w ρ sh sr tb q rr 10) (hys n K F bar w ρ sh sr tb q rr 10) 11 k).2) (b := (hlf (hct n K F bar w ρ sh sr tb q rr 10) (hys n K F bar w ρ sh sr tb q rr 10) (k + 1))) (by omega) (by omega)).mp c_175
                          have eh : hbs (hct n K F bar w ρ sh sr tb q rr 10) (hys n K F bar w ρ sh sr tb q rr 10) 11 (k + 1) = hbs (hct n K F bar w ρ sh sr tb q rr 10) (hys n K F bar w ρ sh sr tb q rr 10) 11 k := if_neg (by omega)
                          refine lv_iload hx hb dX8_lookOf_183 (lv_at hl 3 rfl) ?_
                          refine lv_istore (lv' := [(4, .int (hbs (hct n K F bar w ρ sh sr tb q rr 10) (hys n K F bar w ρ sh sr tb q rr 10) 11 k).1), (7, .int (nI (hlf (hct n K F bar w ρ sh sr tb q rr 10) (hys n K F bar w ρ sh sr tb q rr 10) (k + 1)))), (0, .ref p0), (3, .int (nI (hct n K F bar w ρ sh sr tb q rr 10))), (5, .int (nI (hbs (hct n K F bar w ρ sh sr tb q rr 10) (hys n K F bar w ρ sh sr tb q rr 10) 11 k).2)), (6, .int (nI (k + 1)))]) hx hb dX8_lookOf_185 hl (by decide) rfl (fun ls hl => ?_)
                          refine lv_iload hx hb dX8_lookOf_187 (lv_at hl 1 rfl) ?_
                          refine lv_iload hx hb dX8_lookOf_189 (lv_at hl 4 rfl) ?_
                          refine lv_icmp_ge (tgt := 199) hx hb dX8_lookOf_191 (by decide) (fun c_191 => ?_) (fun c_191 => ?_)
                          · skip
                            have c_191 := (jle (a := (hbs (hct n K F bar w ρ sh sr tb q rr 10) (hys n K F bar w ρ sh sr tb q rr 10) 11 k).2) (b := (hlf (hct n K F bar w ρ sh sr tb q rr 10) (hys n K F bar w ρ sh sr tb q rr 10) (k + 1))) (by omega) (by omega)).mp c_191
                            refine lv_iload hx hb dX8_lookOf_199 (lv_at hl 4 rfl) ?_
                            refine lv_istore (lv' := [(5, .int (nI (hbs (hct n K F bar w ρ sh sr tb q rr 10) (hys n K F bar w ρ sh sr tb q rr 10) 11 k).2)), (4, .int (hbs (hct n K F bar w ρ sh sr tb q rr 10) (hys n K F bar w ρ sh sr tb q rr 10) 11 k).1), (7, .int (nI (hlf (hct n K F bar w ρ sh sr tb q rr 10) (hys n K F bar w ρ sh sr tb q rr 10) (k + 1)))), (0, .ref p0), (3, .int (nI (hct n K F bar w ρ sh sr tb q rr 10))), (6, .int (nI (k + 1)))]) hx hb dX8_lookOf_201 hl (by decide) rfl (fun ls hl => ?_)
                            refine lv_iinc (v := nI ((k + 1) + 1)) (lv' := [(6, .int (nI ((k + 1) + 1))), (5, .int (nI (hbs (hct n K F bar w ρ sh sr tb q rr 10) (hys n K F bar w ρ sh sr tb q rr 10) 11 k).2)), (4, .int (hbs (hct n K F bar w ρ sh sr tb q rr 10) (hys n K F bar w ρ sh sr tb q rr 10) 11 k).1), (7, .int (nI (hlf (hct n K F bar w ρ sh sr tb q rr 10) (hys n K F bar w ρ sh sr tb q rr 10) (k + 1)))), (0, .ref p0), (3, .int (nI (hct n K F bar w ρ sh sr tb q rr 10)))]) hx hb dX8_lookOf_203 hl (k := 5) rfl (nI_1 (k + 1)) (by decide) rfl (fun ls hl => ?_)
                            refine lv_goto (tgt := 120) hx hb dX8_lookOf_206 (by decide) ?_
                            have hl : lv_has ls 8 [(6, .int (nI ((k + 1) + 1))), (5, .int (nI (hbs (hct n K F bar w ρ sh sr tb q rr 10) (hys n K F bar w ρ sh sr tb q rr 10) 11 (k + 1)).2)), (4, .int (hbs (hct n K F bar w ρ sh sr tb q rr 10) (hys n K F bar w ρ sh sr tb q rr 10) 11 (k + 1)).1), (7, .int (nI (hlf (hct n K F bar w ρ sh sr tb q rr 10) (hys n K F bar w ρ sh sr tb q rr 10) (k + 1)))), (0, .ref p0), (3, .int (nI (hct n K F bar w ρ sh sr tb q rr 10)))] := by rw [eh]; exact hl
                            exact ih120  (k + 1) (by omega) (by first | assumption | omega) (fun z => absurd z (by omega)) _ _ _ h (lv_sub hl [4, 5, 2, 1, 0] rfl)
                          · skip
                            have c_191 : ¬ (hbs (hct n K F bar w ρ sh sr tb q rr 10) (hys n K F bar w ρ sh sr tb q rr 10) 11 k).2 ≤ (hlf (hct n K F bar w ρ sh sr tb q rr 10) (hys n K F bar w ρ sh sr tb q rr 10) (k + 1)) := fun z => c_191 ((jle (a := (hbs (hct n K F bar w ρ sh sr tb q rr 10) (hys n K F bar w ρ sh sr tb q rr 10) 11 k).2) (b := (hlf (hct n K F bar w ρ sh sr tb q rr 10) (hys n K F bar w ρ sh sr tb q rr 10) (k + 1))) (by omega) (by omega)).mpr z)
                            exact absurd c_175 c_191
                        · skip
                          have c_175 : ¬ (hbs (hct n K F bar w ρ sh sr tb q rr 10) (hys n K F bar w ρ sh sr tb q rr 10) 11 k).2 ≤ (hlf (hct n K F bar w ρ sh sr tb q rr 10) (hys n K F bar w ρ sh sr tb q rr 10) (k + 1)) := fun z => c_175 ((jle (a := (hbs (hct n K F bar w ρ sh sr tb q rr 10) (hys n K F bar w ρ sh sr tb q rr 10) 11 k).2) (b := (hlf (hct n K F bar w ρ sh sr tb q rr 10) (hys n K F bar w ρ sh sr tb q rr 10) (k + 1))) (by omega) (by omega)).mpr z)
                          have eh : hbs (hct n K F bar w ρ sh sr tb q rr 10) (hys n K F bar w ρ sh sr tb q rr 10) 11 (k + 1) = (nI (k + 1), hlf (hct n K F bar w ρ sh sr tb q rr 10) (hys n K F bar w ρ sh sr tb q rr 10) (k + 1)) := if_pos (by omega)
                          refine lv_iload hx hb dX8_lookOf_178 (lv_at hl 5 rfl) ?_
                          refine lv_goto (tgt := 185) hx hb dX8_lookOf_180 (by decide) ?_
                          refine lv_istore (lv' := [(4, .int (nI (k + 1))), (7, .int (nI (hlf (hct n K F bar w ρ sh sr tb q rr 10) (hys n K F bar w ρ sh sr tb q rr 10) (k + 1)))), (0, .ref p0), (3, .int (nI (hct n K F bar w ρ sh sr tb q rr 10))), (5, .int (nI (hbs (hct n K F bar w ρ sh sr tb q rr 10) (hys n K F bar w ρ sh sr tb q rr 10) 11 k).2)), (6, .int (nI (k + 1)))]) hx hb dX8_lookOf_185 hl (by decide) rfl (fun ls hl => ?_)
                          refine lv_iload hx hb dX8_lookOf_187 (lv_at hl 1 rfl) ?_
                          refine lv_iload hx hb dX8_lookOf_189 (lv_at hl 4 rfl) ?_
                          refine lv_icmp_ge (tgt := 199) hx hb dX8_lookOf_191 (by decide) (fun c_191 => ?_) (fun c_191 => ?_)
                          · skip
                            have c_191 := (jle (a := (hbs (hct n K F bar w ρ sh sr tb q rr 10) (hys n K F bar w ρ sh sr tb q rr 10) 11 k).2) (b := (hlf (hct n K F bar w ρ sh sr tb q rr 10) (hys n K F bar w ρ sh sr tb q rr 10) (k + 1))) (by omega) (by omega)).mp c_191
                            exact absurd c_191 c_175
                          · skip
                            have c_191 : ¬ (hbs (hct n K F bar w ρ sh sr tb q rr 10) (hys n K F bar w ρ sh sr tb q rr 10) 11 k).2 ≤ (hlf (hct n K F bar w ρ sh sr tb q rr 10) (hys n K F bar w ρ sh sr tb q rr 10) (k + 1)) := fun z => c_191 ((jle (a := (hbs (hct n K F bar w ρ sh sr tb q rr 10) (hys n K F bar w ρ sh sr tb q rr 10) 11 k).2) (b := (hlf (hct n K F bar w ρ sh sr tb q rr 10) (hys n K F bar w ρ sh sr tb q rr 10) (k + 1))) (by omega) (by omega)).mpr z)
                            refine lv_iload hx hb dX8_lookOf_194 (lv_at hl 1 rfl) ?_
                            refine lv_goto (tgt := 201) hx hb dX8_lookOf_196 (by decide) ?_
                            refine lv_istore (lv' := [(5, .int (nI (hlf (hct n K F bar w ρ sh sr tb q rr 10) (hys n K F bar w ρ sh sr tb q rr 10) (k + 1)))), (4, .int (nI (k + 1))), (7, .int (nI (hlf (hct n K F bar w ρ sh sr tb q rr 10) (hys n K F bar w ρ sh sr tb q rr 10) (k + 1)))), (0, .ref p0), (3, .int (nI (hct n K F bar w ρ sh sr tb q rr 10))), (6, .int (nI (k + 1)))]) hx hb dX8_lookOf_201 hl (by decide) rfl (fun ls hl => ?_)
                            refine lv_iinc (v := nI ((k + 1) + 1)) (lv' := [(6, .int (nI ((k + 1) + 1))), (5, .int (nI (hlf (hct n K F bar w ρ sh sr tb q rr 10) (hys n K F bar w ρ sh sr tb q rr 10) (k + 1)))), (4, .int (nI (k + 1))), (7, .int (nI (hlf (hct n K F bar w ρ sh sr tb q rr 10) (hys n K F bar w ρ sh sr tb q rr 10) (k + 1)))), (0, .ref p0), (3, .int (nI (hct n K F bar w ρ sh sr tb q rr 10)))]) hx hb dX8_lookOf_203 hl (k := 5) rfl (nI_1 (k + 1)) (by decide) rfl (fun ls hl => ?_)
                            refine lv_goto (tgt := 120) hx hb dX8_lookOf_206 (by decide) ?_
                            have hl : lv_has ls 8 [(6, .int (nI ((k + 1) + 1))), (5, .int (nI (hbs (hct n K F bar w ρ sh sr tb q rr 10) (hys n K F bar w ρ sh sr tb q rr 10) 11 (k + 1)).2)), (4, .int (hbs (hct n K F bar w ρ sh sr tb q rr 10) (hys n K F bar w ρ sh sr tb q rr 10) 11 (k + 1)).1), (7, .int (nI (hlf (hct n K F bar w ρ sh sr tb q rr 10) (hys n K F bar w ρ sh sr tb q rr 10) (k + 1)))), (0, .ref p0), (3, .int (nI (hct n K F bar w ρ sh sr tb q rr 10)))] := by rw [eh]; exact hl
                            exact ih120  (k + 1) (by omega) (by first | assumption | omega) (fun z => absurd z (by omega)) _ _ _ h (lv_sub hl [4, 5, 2, 1, 0] rfl)
              exact L120 ((12 - 0) + 1) 0 (by omega) (by first | assumption | omega) (fun _ => rfl) _ _ _ h (lv_sub hl [3, 6, 2, 1, 0] rfl)
            · skip
              have c_39 : ¬ 10 ≤ v := fun z => c_39 ((jle (a := 10) (b := v) (by omega) (by omega)).mpr z)
              have hv9 : v < 10 := by omega
              have hctv := hct_le (n := n) (K := K) (F := F) (bar := bar) (w := w) (ρ := ρ) (sh := sh) (sr := sr) (tb := tb) (q := q) (rr := rr) v
              have hysv := hys_le (n := n) (K := K) (F := F) (bar := bar) (w := w) (ρ := ρ) (sh := sh) (sr := sr) (tb := tb) (q := q) (rr := rr) v
              refine lv_iload_n hx hb dX8_lookOf_42 rfl (lv_at hl 2 rfl) ?_
              refine lv_iload hx hb dX8_lookOf_43 (lv_at hl 4 rfl) ?_
              refine lv_ishr hx hb dX8_lookOf_45 ?_
              refine lv_iconst (v := 1) hx hb dX8_lookOf_46 (by decide) ?_
              refine lv_iand hx hb dX8_lookOf_47 ?_
              refine lv_iconst (v := 1) hx hb dX8_lookOf_48 (by decide) ?_
              refine lv_icmp_ne (tgt := 104) hx hb dX8_lookOf_49 (by decide) (fun c_49 => ?_) (fun c_49 => ?_)
              · skip
                have c_49 : ¬ hpo n K F bar w ρ sh sr tb q rr v = true := fun z => c_49 ((hbt_bit hv9).mpr z)
                have eb : hct n K F bar w ρ sh sr tb q rr (v + 1) = hct n K F bar w ρ sh sr tb q rr v := if_neg c_49
                have hst : ∀ j, j < 13 → ro (hys n K F bar w ρ sh sr tb q rr v) j = ro (hys n K F bar w ρ sh sr tb q rr (v + 1)) j := fun j _ => congrArg nI (congrFun (if_neg c_49).symm j)
                have hl : lv_has ls 8 [(0, .ref p0), (1, .int (nI rr)), (2, .int (hbt n K F bar w ρ sh sr tb q rr 10)), (3, .int (nI (hct n K F bar w ρ sh sr tb q rr (v + 1)))), (4, .int (nI v))] := by rw [eb]; exact hl
                refine lv_iinc (v := nI (v + 1)) (lv' := [(4, .int (nI (v + 1))), (0, .ref p0), (1, .int (nI rr)), (2, .int (hbt n K F bar w ρ sh sr tb q rr 10)), (3, .int (nI (hct n K F bar w ρ sh sr tb q rr (v + 1))))]) hx hb dX8_lookOf_104 hl (k := 4) rfl (nI_1 v) (by decide) rfl (fun ls hl => ?_)
                refine lv_goto (tgt := 35) hx hb dX8_lookOf_107 (by decide) ?_
                have h := h.arr 9 (g := ro (hys n K F bar w ρ sh sr tb q rr (v + 1))) rfl (hst) rfl
                exact ih35  (v + 1) to1 tm1 sw1 ss1 g1 (by omega) (by first | assumption | omega) _ _ _ h (lv_sub hl [1, 2, 3, 4, 0] rfl)
              · skip
                have c_49 : hpo n K F bar w ρ sh sr tb q rr v = true := (hbt_bit hv9).mp c_49
                have eb : hct n K F bar w ρ sh sr tb q rr (v + 1) = hct n K F bar w ρ sh sr tb q rr v + 1 := if_pos c_49
                have ey : hys n K F bar w ρ sh sr tb q rr (v + 1) = hyr (htk n K F bar (upd w rr (nI v)) ρ) rr (hys n K F bar w ρ sh sr tb q rr v) 12 := if_pos c_49
                refine lv_iinc (v := nI (hct n K F bar w ρ sh sr tb q rr (v + 1))) (lv' := [(3, .int (nI (hct n K F bar w ρ sh sr tb q rr (v + 1)))), (0, .ref p0), (1, .int (nI rr)), (2, .int (hbt n K F bar w ρ sh sr tb q rr 10)), (4, .int (nI v))]) hx hb dX8_lookOf_52 hl (k := 3) rfl ((nI_1 _).trans (congrArg nI eb.symm)) (by decide) rfl (fun ls hl => ?_)
                refine lv_aload_n hx hb dX8_lookOf_55 rfl (lv_at hl 1 rfl) ?_
                refine lv_iload_n hx hb dX8_lookOf_56 rfl (lv_at hl 2 rfl) ?_
                refine lv_iload hx hb dX8_lookOf_57 (lv_at hl 4 rfl) ?_
                refine k_Vv (rest := []) (as := [.int (nI rr), .int (nI v)]) (wc := [(p0, .inr (8, [.ref p1, .int pgm, .ref p2, .int rdm, .int rdb, .int stt, .int (nI n), .int bar, .int hrs, .int crd, .ref p3, .ref p4, .ref p5, .ref p6, .ref p7, .int to1, .int tm1, .ref p8, .ref p9, .int bdn, .ref p10, .int (nI q), .ref p11, .ref p12, .ref p13, .int sdn, .int kcs, .int khr, .int ksn, .ref p14, .ref p15, .ref p16, .ref p17, .long hlg])), (p3, .inl (cI, 5, .inl K)), (p4, .inl (cI, 5, .inl F)), (p5, .inl (cI, 5, .inl w)), (p6, .inl (cI, 5, .inl (ro ρ))), (p8, .inl (cI, 5, .inl sw1)), (p9, .inl (cI, 5, .inl ss1)), (p12, .inl (cI, 13, .inl g1))]) (wr := [(p11, .inl (cI, 18, .inl (sgt sh sr tb))), (p13, .inl (cI, 13, .inl (ro (hys n K F bar w ρ sh sr tb q rr v))))]) (isC := [0, 1, 2, 3, 4, 5, 6, 8]) (isR := [7, 9]) (w2 := fun (u : Int32 × Int32) => [(p0, .inr (8, [.ref p1, .int pgm, .ref p2, .int rdm, .int rdb, .int stt, .int (nI n), .int bar, .int hrs, .int crd, .ref p3, .ref p4, .ref p5, .ref p6, .ref p7, .int u.1, .int u.2, .ref p8, .ref p9, .int bdn, .ref p10, .int (nI q), .ref p11, .ref p12, .ref p13, .int sdn, .int kcs, .int khr, .int ksn, .ref p14, .ref p15, .ref p16, .ref p17, .long hlg])), (p3, .inl (cI, 5, .inl K)), (p4, .inl (cI, 5, .inl F)), (p5, .inl (cI, 5, .inl w)), (p6, .inl (cI, 5, .inl (ro ρ))), (p8, .inl (cI, 5, .inl w)), (p9, .inl (cI, 5, .inl (ro ρ))), (p11, .inl (cI, 18, .inl (sgt sh sr tb))), (p12, .inl (cI, 13, .inl (hfl (htk n K F bar (upd w rr (nI v)) ρ) g1 12))), (p13, .inl (cI, 13, .inl (ro (hys n K F bar w ρ sh sr tb q rr v))))]) C h (c_X8_layThen l D cI cZ kS vS p0 p1 p2 p3 p4 p5 p6 p7 p8 p9 p10 p11 p12 p13 p14 p15 p16 p17 n pgm rdm rdb stt bar hrs crd to1 tm1 bdn (nI q) sdn kcs khr ksn hlg w ρ K F sw1 ss1 g1 rr v hn2 hn5 hpm hK hrn hv9) wv_X8_layThen rfl ⟨rfl, rfl, rfl, rfl, by decide⟩ fk8 0 rfl ml_RX8_194 [2, 3, 4, 5, 6, 7, 8, 0, 9, 1] rfl (fun _ => rfl) ⟨Nat.le_of_ble_eq_true rfl, Nat.le_of_ble_eq_true rfl⟩ ⟨Nat.le_of_ble_eq_true rfl, Nat.le_of_ble_eq_true rfl⟩ (Nat.le_of_ble_eq_true rfl) hl rfl dX8_lookOf_59 (fun u H locs hq h => ?_)
                obtain ⟨uo59, um59⟩ := u
                have h : HS D A s H locs [(p0, .inr (8, [.ref p1, .int pgm, .ref p2, .int rdm, .int rdb, .int stt, .int (nI n), .int bar, .int hrs, .int crd, .ref p3, .ref p4, .ref p5, .ref p6, .ref p7, .int uo59, .int um59, .ref p8, .ref p9, .int bdn, .ref p10, .int (nI q), .ref p11, .ref p12, .ref p13, .int sdn, .int kcs, .int khr, .int ksn, .ref p14, .ref p15, .ref p16, .ref p17, .long hlg])), (p3, .inl (cI, 5, .inl K)), (p4, .inl (cI, 5, .inl F)), (p5, .inl (cI, 5, .inl w)), (p6, .inl (cI, 5, .inl (ro ρ))), (p8, .inl (cI, 5, .inl w)), (p9, .inl (cI, 5, .inl (ro ρ))), (p11, .inl (cI, 18, .inl (sgt sh sr tb))), (p12, .inl (cI, 13, .inl (hfl (htk n K F bar (upd w rr (nI v)) ρ) g1 12))), (p13, .inl (cI, 13, .inl (ro (hys n K F bar w ρ sh sr tb q rr v))))] := h
                have hq : True := hq
                refine lv_iconst (v := 1) hx hb dX8_lookOf_62 (by decide) ?_
                refine lv_istore (lv' := [(5, .int 1), (3, .int (nI (hct n K F bar w ρ sh sr tb q rr (v + 1)))), (0, .ref p0), (1, .int (nI rr)), (2, .int (hbt n K F bar w ρ sh sr tb q rr 10)), (4, .int (nI v))]) hx hb dX8_lookOf_63 hl (by decide) rfl (fun ls hl => ?_)
                have L65 : ∀ (fu : Nat) (k : Nat), (12 - k) < fu → (hk : k ≤ 12) → ∀ (H : Heap) (locs : List Loc) (ls : Array Slot), HS D A s H locs [(p0, .inr (8, [.ref p1, .int pgm, .ref p2, .int rdm, .int rdb, .int stt, .int (nI n), .int bar, .int hrs, .int crd, .ref p3, .ref p4, .ref p5, .ref p6, .ref p7, .int uo59, .int um59, .ref p8, .ref p9, .int bdn, .ref p10, .int (nI q), .ref p11, .ref p12, .ref p13, .int sdn, .int kcs, .int khr, .int ksn, .ref p14, .ref p15, .ref p16, .ref p17, .long hlg])), (p3, .inl (cI, 5, .inl K)), (p4, .inl (cI, 5, .inl F)), (p5, .inl (cI, 5, .inl w)), (p6, .inl (cI, 5, .inl (ro ρ))), (p8, .inl (cI, 5, .inl w)), (p9, .inl (cI, 5, .inl (ro ρ))), (p11, .inl (cI, 18, .inl (sgt sh sr tb))), (p12, .inl (cI, 13, .inl (hfl (htk n K F bar (upd w rr (nI v)) ρ) g1 12))), (p13, .inl (cI, 13, .inl (ro (hyr (hfl (htk n K F bar (upd w rr (nI v)) ρ) g1 12) rr (hys n K F bar w ρ sh sr tb q rr v) k))))] → lv_has ls 8 [(0, .ref p0), (1, .int (nI rr)), (2, .int (hbt n K F bar w ρ sh sr tb q rr 10)), (3, .int (nI (hct n K F bar w ρ sh sr tb q rr (v + 1)))), (4, .int (nI v)), (5, .int (nI (k + 1)))] → W p l e (rmO 4 97 0 0) s m args below meth c H locs 0 0 Q (F0 m 65 ls []) := by
                  intro fu
                  induction fu with
                  | zero => intro k hfu; exact absurd hfu (Nat.not_lt_zero _)
                  | succ fu ih65 =>
                    intro k hfu hk H locs ls h hl
                    refine lv_iload hx hb dX8_lookOf_65 (lv_at hl 5 rfl) ?_
                    refine lv_bipush (v := 13) hx hb dX8_lookOf_67 (by decide) ?_
                    refine lv_icmp_ge (tgt := 104) hx hb dX8_lookOf_69 (by decide) (fun c_69 => ?_) (fun c_69 => ?_)
                    · skip
                      have c_69 := (jle (a := 13) (b := (k + 1)) (by omega) (by omega)).mp c_69
                      obtain rfl : 12 = k := by omega
                      have hst : ∀ j, j < 13 → ro (hyr (hfl (htk n K F bar (upd w rr (nI v)) ρ) g1 12) rr (hys n K F bar w ρ sh sr tb q rr v) 12) j = ro (hys n K F bar w ρ sh sr tb q rr (v + 1)) j := fun j _ => by rw [ey]; exact congrArg nI (hyr_fl j)
                      refine lv_iinc (v := nI (v + 1)) (lv' := [(4, .int (nI (v + 1))), (0, .ref p0), (1, .int (nI rr)), (2, .int (hbt n K F bar w ρ sh sr tb q rr 10)), (3, .int (nI (hct n K F bar w ρ sh sr tb q rr (v + 1)))), (5, .int (nI (12 + 1)))]) hx hb dX8_lookOf_104 hl (k := 4) rfl (nI_1 v) (by decide) rfl (fun ls hl => ?_)
                      refine lv_goto (tgt := 35) hx hb dX8_lookOf_107 (by decide) ?_
                      have h := h.arr 6 (g := (ro ρ)) rfl (fun j hj => rfl) rfl
                      have h := h.arr 8 (g := (hfl (htk n K F bar (upd w rr (nI v)) ρ) g1 12)) rfl (fun j hj => rfl) rfl
                      have h := h.arr 9 (g := ro (hys n K F bar w ρ sh sr tb q rr (v + 1))) rfl (hst) rfl
                      exact ih35  (v + 1) uo59 um59 w (ro ρ) (hfl (htk n K F bar (upd w rr (nI v)) ρ) g1 12) (by omega) (by first | assumption | omega) _ _ _ h (lv_sub hl [1, 2, 3, 4, 0] rfl)
                    · skip
                      have c_69 : ¬ 13 ≤ (k + 1) := fun z => c_69 ((jle (a := 13) (b := (k + 1)) (by omega) (by omega)).mpr z)
                      have hlt : k < 12 := by omega
                      have hgk := hysv (k + 1)
                      refine lv_aload_n hx hb dX8_lookOf_72 rfl (lv_at hl 0 rfl) ?_
                      refine r_get C h fk8 0 24 rfl (by decide) mf_RX8_46 rfl dX8_lookOf_73 ?_
                      refine lv_iload hx hb dX8_lookOf_76 (lv_at hl 5 rfl) ?_
                      refine lv_dup2_11 hx hb dX8_lookOf_78 rfl rfl ?_
                      refine r_ld C h 9 rfl (k + 1) (rfl) (by omega) (by decide) (x := nI ((hyr (hfl (htk n K F bar (upd w rr (nI v)) ρ) g1 12) rr (hys n K F bar w ρ sh sr tb q rr v) k) (k + 1))) (rfl) dX8_lookOf_79 ?_
                      refine r_top (y := nI (hys n K F bar w ρ sh sr tb q rr v (k + 1))) (congrArg nI (hyr_at _ _ k)) ?_
                      refine lv_aload_n hx hb dX8_lookOf_80 rfl (lv_at hl 0 rfl) ?_
                      refine r_get C h fk8 0 23 rfl (by decide) mf_RX8_43 rfl dX8_lookOf_81 ?_
                      refine lv_iload hx hb dX8_lookOf_84 (lv_at hl 5 rfl) ?_
                      refine r_ld C h 8 rfl (k + 1) (rfl) (by omega) (by decide) (x := (hfl (htk n K F bar (upd w rr (nI v)) ρ) g1 12) (k + 1)) (rfl) dX8_lookOf_86 ?_
                      refine lv_iload_n hx hb dX8_lookOf_87 rfl (lv_at hl 1 rfl) ?_
                      refine lv_icmp_ne (tgt := 95) hx hb dX8_lookOf_88 (by decide) (fun c_88 => ?_) (fun c_88 => ?_)
                      · skip
                        have hsk : ∀ j, j < 13 → ro (un (hyr (hfl (htk n K F bar (upd w rr (nI v)) ρ) g1 12) rr (hys n K F bar w ρ sh sr tb q rr v) k) (k + 1) (hys n K F bar w ρ sh sr tb q rr v (k + 1) + 0)) j = ro (hyr (hfl (htk n K F bar (upd w rr (nI v)) ρ) g1 12) rr (hys n K F bar w ρ sh sr tb q rr v) (k + 1)) j := fun j _ => congrArg nI ((un_idv (hyr_at _ _ k).symm j).trans (hyr_f c_88 j))
                        refine lv_iconst (v := 0) hx hb dX8_lookOf_95 (by decide) ?_
                        refine lv_iadd hx hb dX8_lookOf_96 ?_
                        refine r_top (y := nI ((hys n K F bar w ρ sh sr tb q rr v (k + 1)) + 0)) (nI_add (hys n K F bar w ρ sh sr tb q rr v (k + 1)) 0) ?_
                        refine r_st C h 9 rfl (k + 1) (rfl) (by omega) (by decide) (g := ro (un (hyr (hfl (htk n K F bar (upd w rr (nI v)) ρ) g1 12) rr (hys n K F bar w ρ sh sr tb q rr v) k) (k + 1) ((hys n K F bar w ρ sh sr tb q rr v (k + 1)) + 0))) (fun j _ => ro_un j) (ws' := [(p0, .inr (8, [.ref p1, .int pgm, .ref p2, .int rdm, .int rdb, .int stt, .int (nI n), .int bar, .int hrs, .int crd, .ref p3, .ref p4, .ref p5, .ref p6, .ref p7, .int uo59, .int um59, .ref p8, .ref p9, .int bdn, .ref p10, .int (nI q), .ref p11, .ref p12, .ref p13, .int sdn, .int kcs, .int khr, .int ksn, .ref p14, .ref p15, .ref p16, .ref p17, .long hlg])), (p3, .inl (cI, 5, .inl K)), (p4, .inl (cI, 5, .inl F)), (p5, .inl (cI, 5, .inl w)), (p6, .inl (cI, 5, .inl (ro ρ))), (p8, .inl (cI, 5, .inl w)), (p9, .inl (cI, 5, .inl (ro ρ))), (p11, .inl (cI, 18, .inl (sgt sh sr tb))), (p12, .inl (cI, 13, .inl (hfl (htk n K F bar (upd w rr (nI v)) ρ) g1 12))), (p13, .inl (cI, 13, .inl (ro (un (hyr (hfl (htk n K F bar (upd w rr (nI v)) ρ) g1 12) rr (hys n K F bar w ρ sh sr tb q rr v) k) (k + 1) ((hys n K F bar w ρ sh sr tb q rr v (k + 1)) + 0)))))]) rfl dX8_lookOf_97 (fun H locs h => ?_)
                        refine lv_iinc (v := nI ((k + 1) + 1)) (lv' := [(5, .int (nI ((k + 1) + 1))), (0, .ref p0), (1, .int (nI rr)), (2, .int (hbt n K F bar w ρ sh sr tb q rr 10)), (3, .int (nI (hct n K F bar w ρ sh sr tb q rr (v + 1)))), (4, .int (nI v))]) hx hb dX8_lookOf_98 hl (k := 5) rfl (nI_1 (k + 1)) (by decide) rfl (fun ls hl => ?_)
                        refine lv_goto (tgt := 65) hx hb dX8_lookOf_101 (by decide) ?_
                        have h := h.arr 9 (g := ro (hyr (hfl (htk n K F bar (upd w rr (nI v)) ρ) g1 12) rr (hys n K F bar w ρ sh sr tb q rr v) (k + 1))) rfl (hsk) rfl
                        exact ih65  (k + 1) (by omega) (by first | assumption | omega) _ _ _ h (lv_sub hl [1, 2, 3, 4, 5, 0] rfl)
                      · skip
                        have hsk : ∀ j, j < 13 → ro (un (hyr (hfl (htk n K F bar (upd w rr (nI v)) ρ) g1 12) rr (hys n K F bar w ρ sh sr tb q rr v) k) (k + 1) (hys n K F bar w ρ sh sr tb q rr v (k + 1) + 1)) j = ro (hyr (hfl (htk n K F bar (upd w rr (nI v)) ρ) g1 12) rr (hys n K F bar w ρ sh sr tb q rr v) (k + 1)) j := fun j _ => congrArg nI (hyr_t c_88 j)
                        refine lv_iconst (v := 1) hx hb dX8_lookOf_91 (by decide) ?_
                        refine lv_goto (tgt := 96) hx hb dX8_lookOf_92 (by decide) ?_
                        refine lv_iadd hx hb dX8_lookOf_96 ?_
                        refine r_top (y := nI ((hys n K F bar w ρ sh sr tb q rr v (k + 1)) + 1)) (nI_add (hys n K F bar w ρ sh sr tb q rr v (k + 1)) 1) ?_
                        refine r_st C h 9 rfl (k + 1) (rfl) (by omega) (by decide) (g := ro (un (hyr (hfl (htk n K F bar (upd w rr (nI v)) ρ) g1 12) rr (hys n K F bar w ρ sh sr tb q rr v) k) (k + 1) ((hys n K F bar w ρ sh sr tb q rr v (k + 1)) + 1))) (fun j _ => ro_un j) (ws' := [(p0, .inr (8, [.ref p1, .int pgm, .ref p2, .int rdm, .int rdb, .int stt, .int (nI n), .int bar, .int hrs, .int crd, .ref p3, .ref p4, .ref p5, .ref p6, .ref p7, .int uo59, .int um59, .ref p8, .ref p9, .int bdn, .ref p10, .int (nI q), .ref p11, .ref p12, .ref p13, .int sdn, .int kcs, .int khr, .int ksn, .ref p14, .ref p15, .ref p16, .ref p17, .long hlg])), (p3, .inl (cI, 5, .inl K)), (p4, .inl (cI, 5, .inl F)), (p5, .inl (cI, 5, .inl w)), (p6, .inl (cI, 5, .inl (ro ρ))), (p8, .inl (cI, 5, .inl w)), (p9, .inl (cI, 5, .inl (ro ρ))), (p11, .inl (cI, 18, .inl (sgt sh sr tb))), (p12, .inl (cI, 13, .inl (hfl (htk n K F bar (upd w rr (nI v)) ρ) g1 12))), (p13, .inl (cI, 13, .inl (ro (un (hyr (hfl (htk n K F bar (upd w rr (nI v)) ρ) g1 12) rr (hys n K F bar w ρ sh sr tb q rr v) k) (k + 1) ((hys n K F bar w ρ sh sr tb q rr v (k + 1)) + 1)))))]) rfl dX8_lookOf_97 (fun H locs h => ?_)
                        refine lv_iinc (v := nI ((k + 1) + 1)) (lv' := [(5, .int (nI ((k + 1) + 1))), (0, .ref p0), (1, .int (nI rr)), (2, .int (hbt n K F bar w ρ sh sr tb q rr 10)), (3, .int (nI (hct n K F bar w ρ sh sr tb q rr (v + 1)))), (4, .int (nI v))]) hx hb dX8_lookOf_98 hl (k := 5) rfl (nI_1 (k + 1)) (by decide) rfl (fun ls hl => ?_)
                        refine lv_goto (tgt := 65) hx hb dX8_lookOf_101 (by decide) ?_
                        have h := h.arr 9 (g := ro (hyr (hfl (htk n K F bar (upd w rr (nI v)) ρ) g1 12) rr (hys n K F bar w ρ sh sr tb q rr v) (k + 1))) rfl (hsk) rfl
                        exact ih65  (k + 1) (by omega) (by first | assumption | omega) _ _ _ h (lv_sub hl [1, 2, 3, 4, 5, 0] rfl)
                have h := h.arr 9 (g := ro (hyr (hfl (htk n K F bar (upd w rr (nI v)) ρ) g1 12) rr (hys n K F bar w ρ sh sr tb q rr v) 0)) rfl (fun j _ => congrArg nI (hyr_0 (hfl (htk n K F bar (upd w rr (nI v)) ρ) g1 12) rr _ j)) rfl
                exact L65 ((12 - 0) + 1) 0 (by omega) (by first | assumption | omega) _ _ _ h (lv_sub hl [2, 3, 4, 1, 5, 0] rfl)
        have h := h.arr 9 (g := ro (hys n K F bar w ρ sh sr tb q rr 0)) rfl (fun j hj => (ffl_in hj).trans rfl) rfl
        exact L35 ((10 - 0) + 1) 0 uo2 um2 usw2 uss2 ug2 (by omega) (by first | assumption | omega) _ _ _ h (lv_sub hl [1, 2, 3, 4, 0] rfl)
      · skip
        have c_15 : ¬ 13 ≤ i := fun z => c_15 ((jle (a := 13) (b := i) (by omega) (by omega)).mpr z)
        have hlt : i < 13 := by omega
        refine lv_aload_n hx hb dX8_lookOf_18 rfl (lv_at hl 0 rfl) ?_
        refine r_get C h fk8 0 24 rfl (by decide) mf_RX8_46 rfl dX8_lookOf_19 ?_
        refine lv_iload hx hb dX8_lookOf_22 (lv_at hl 4 rfl) ?_
        refine lv_iconst (v := 0) hx hb dX8_lookOf_24 (by decide) ?_
        refine r_st C h 9 rfl i (rfl) (by omega) (by decide) (g := upd (ffl (fun _ => 0) y0 i) i 0) (fun _ _ => rfl) (ws' := [(p0, .inr (8, [.ref p1, .int pgm, .ref p2, .int rdm, .int rdb, .int stt, .int (nI n), .int bar, .int hrs, .int crd, .ref p3, .ref p4, .ref p5, .ref p6, .ref p7, .int uo2, .int um2, .ref p8, .ref p9, .int bdn, .ref p10, .int (nI q), .ref p11, .ref p12, .ref p13, .int sdn, .int kcs, .int khr, .int ksn, .ref p14, .ref p15, .ref p16, .ref p17, .long hlg])), (p3, .inl (cI, 5, .inl K)), (p4, .inl (cI, 5, .inl F)), (p5, .inl (cI, 5, .inl w)), (p6, .inl (cI, 5, .inl (ro ρ))), (p8, .inl (cI, 5, .inl usw2)), (p9, .inl (cI, 5, .inl uss2)), (p11, .inl (cI, 18, .inl (sgt sh sr tb))), (p12, .inl (cI, 13, .inl ug2)), (p13, .inl (cI, 13, .inl (upd (ffl (fun _ => 0) y0 i) i 0)))]) rfl dX8_lookOf_25 (fun H locs h => ?_)
        refine lv_iinc (v := nI (i + 1)) (lv' := [(4, .int (nI (i + 1))), (0, .ref p0), (1, .int (nI rr)), (2, .int (hbt n K F bar w ρ sh sr tb q rr 10)), (3, .int 0)]) hx hb dX8_lookOf_26 hl (k := 4) rfl (nI_1 i) (by decide) rfl (fun ls hl => ?_)
        refine lv_goto (tgt := 11) hx hb dX8_lookOf_29 (by decide) ?_
        have h := h.arr 9 (g := ffl (fun _ => 0) y0 (i + 1)) rfl (fun j _ => ffl_s (fun _ => 0) y0 i j) rfl
        exact ih11  (i + 1) (by omega) (by first | assumption | omega) _ _ _ h (lv_sub hl [1, 2, 3, 4, 0] rfl)
  have h := h.arr 9 (g := ffl (fun _ => 0) y0 0) rfl (fun j _ => ffl_0 _ y0 j) rfl
  exact L11 ((13 - 0) + 1) 0 (by omega) (by first | assumption | omega) _ _ _ h (lv_sub hl [3, 4, 2, 1, 0] rfl)

set_option maxHeartbeats 4000000 in
set_option maxRecDepth 100000 in
theorem c_X8_draw (l : Launch) (D : va_G) (cI cZ : ClassId) (kS vS : Nat) (p0 : Nat) (p1 : Nat) (p2 : Nat) (p3 : Nat) (p4 : Nat) (p5 : Nat) (p6 : Nat) (p7 : Nat) (p8 : Nat) (p9 : Nat) (p10 : Nat) (p11 : Nat) (p12 : Nat) (p13 : Nat) (p14 : Nat) (p15 : Nat) (p16 : Nat) (p17 : Nat) (n : Nat) (pgm : Int32) (rdm : Int32) (rdb : Int32) (stt : Int32) (bar : Int32) (hrs : Int32) (crd : Int32) (tof : Int32) (tmu : Int32) (bdn : Int32) (snm : Int32) (kcs : Int32) (khr : Int32) (ksn : Int32) (hlg : Int64) (sd : Int32) (d : Nat) (hd : 0 < d ∧ d < 100) : CI l yX8_draw cX8_draw 2 .int D cI cZ kS vS 0 0 0 0 [.ref p0, .int (nI d)] [(p0, .inr (8, [.ref p1, .int pgm, .ref p2, .int rdm, .int rdb, .int stt, .int (nI n), .int bar, .int hrs, .int crd, .ref p3, .ref p4, .ref p5, .ref p6, .ref p7, .int tof, .int tmu, .ref p8, .ref p9, .int bdn, .ref p10, .int snm, .ref p11, .ref p12, .ref p13, .int sd, .int kcs, .int khr, .int ksn, .ref p14, .ref p15, .ref p16, .ref p17, .long hlg]))] (fun (r : Int32) (_ : Unit) => r = nI (hdv sd d)) (fun (_ : Unit) => [(p0, .inr (8, [.ref p1, .int pgm, .ref p2, .int rdm, .int rdb, .int stt, .int (nI n), .int bar, .int hrs, .int crd, .ref p3, .ref p4, .ref p5, .ref p6, .ref p7, .int tof, .int tmu, .ref p8, .ref p9, .int bdn, .ref p10, .int snm, .ref p11, .ref p12, .ref p13, .int (hsd sd), .int kcs, .int khr, .int ksn, .ref p14, .ref p15, .ref p16, .ref p17, .long hlg]))]) := by
  refine CI_intro (by decide) (Nat.le_of_ble_eq_true rfl) ?_
  intro p e s m args below meth c A Q ls C h hret hl
  have C : CX p s m args c cX8_draw 2 RX8 D cI cZ kS vS A := C
  have hx := C.1.1
  have hb := C.1.2.1
  have hl : lv_has ls 2 [(0, .ref p0), (1, .int (nI d))] := hl
  refine lv_aload_n hx hb dX8_draw_0 rfl (lv_at hl 0 rfl) ?_
  refine lv_ldc2 (v := 1103515245) hx hb C.1.2.2.2.1 (C.1.2.2.2.2 _ mq_RX8_198) dX8_draw_1 ?_
  refine lv_aload_n hx hb dX8_draw_4 rfl (lv_at hl 0 rfl) ?_
  refine r_get C h fk8 0 25 rfl (by decide) mf_RX8_200 rfl dX8_draw_5 ?_
  refine lv_i2l hx hb dX8_draw_8 rfl ?_
  refine lv_lmul hx hb dX8_draw_9 ?_
  refine lv_ldc2 (v := 12345) hx hb C.1.2.2.2.1 (C.1.2.2.2.2 _ mq_RX8_203) dX8_draw_10 ?_
  refine lv_ladd hx hb dX8_draw_13 ?_
  refine lv_ldc2 (v := 2147483647) hx hb C.1.2.2.2.1 (C.1.2.2.2.2 _ mq_RX8_205) dX8_draw_14 ?_
  refine lv_land hx hb dX8_draw_17 ?_
  refine lv_l2i hx hb dX8_draw_18 rfl ?_
  refine r_top (y := hsd sd) (rfl) ?_
  refine r_put C h fk8 0 25 rfl (by decide) mf_RX8_200 rfl (rfl) rfl (Nat.le_of_ble_eq_true rfl) (ws' := [(p0, .inr (8, [.ref p1, .int pgm, .ref p2, .int rdm, .int rdb, .int stt, .int (nI n), .int bar, .int hrs, .int crd, .ref p3, .ref p4, .ref p5, .ref p6, .ref p7, .int tof, .int tmu, .ref p8, .ref p9, .int bdn, .ref p10, .int snm, .ref p11, .ref p12, .ref p13, .int (hsd sd), .int kcs, .int khr, .int ksn, .ref p14, .ref p15, .ref p16, .ref p17, .long hlg]))]) rfl dX8_draw_19 (fun H locs h => ?_)
  refine lv_aload_n hx hb dX8_draw_22 rfl (lv_at hl 0 rfl) ?_
  refine r_get C h fk8 0 25 rfl (by decide) mf_RX8_200 rfl dX8_draw_23 ?_
  refine r_top (y := nI (hdt sd)) (hsd_nI sd) ?_
  refine lv_ldc (v := 65536) hx hb C.1.2.2.2.1 (C.1.2.2.2.2 _ mo_RX8_207) dX8_draw_26 ?_
  refine lv_idiv hx hb dX8_draw_28 (by decide) ?_
  refine r_top (y := nI (hdt sd / 65536)) (pk_div (d := 65536) (hdt_lt sd) (by decide) (by decide)) ?_
  refine lv_iload_n hx hb dX8_draw_29 rfl (lv_at hl 1 rfl) ?_
  refine lv_irem hx hb dX8_draw_30 (nI_ne0 hd.1 (by omega)) ?_
  refine r_top (y := nI (hdv sd d)) (pk_rem (hdq_lt sd) hd.1 (by omega)) ?_
  exact hret (r := nI (hdv sd d)) () dX8_draw_31 h (rfl) (rfl)

set_option maxHeartbeats 4000000 in
set_option maxRecDepth 100000 in
theorem c_X8_rains (l : Launch) (D : va_G) (cI cZ : ClassId) (kS vS : Nat) (p0 : Nat) (p1 : Nat) (p2 : Nat) (p3 : Nat) (p4 : Nat) (p5 : Nat) (p6 : Nat) (p7 : Nat) (p8 : Nat) (p9 : Nat) (p10 : Nat) (p11 : Nat) (p12 : Nat) (p13 : Nat) (p14 : Nat) (p15 : Nat) (p16 : Nat) (p17 : Nat) (n : Nat) (pgm : Int32) (rdm : Int32) (rdb : Int32) (stt : Int32) (bar : Int32) (hrs : Int32) (crd : Int32) (tof : Int32) (tmu : Int32) (bdn : Int32) (snm : Int32) (sdn : Int32) (kcs : Int32) (khr : Int32) (ksn : Int32) (hlg : Int64) (w : Nat → Int32) (k : Nat) (x : Int32) (hk : k < 5) : CI l yX8_rains cX8_rains 3 .int D cI cZ kS vS 0 0 0 0 [.ref p0, .int (nI k), .int x] [(p0, .inr (8, [.ref p1, .int pgm, .ref p2, .int rdm, .int rdb, .int stt, .int (nI n), .int bar, .int hrs, .int crd, .ref p3, .ref p4, .ref p5, .ref p6, .ref p7, .int tof, .int tmu, .ref p8, .ref p9, .int bdn, .ref p10, .int snm, .ref p11, .ref p12, .ref p13, .int sdn, .int kcs, .int khr, .int ksn, .ref p14, .ref p15, .ref p16, .ref p17, .long hlg])), (p5, .inl (cI, 5, .inl w))] (fun (r : Int32) (_ : Unit) => r = hcap (w k + x)) (fun (_ : Unit) => [(p0, .inr (8, [.ref p1, .int pgm, .ref p2, .int rdm, .int rdb, .int stt, .int (nI n), .int bar, .int hrs, .int crd, .ref p3, .ref p4, .ref p5, .ref p6, .ref p7, .int tof, .int tmu, .ref p8, .ref p9, .int bdn, .ref p10, .int snm, .ref p11, .ref p12, .ref p13, .int sdn, .int kcs, .int khr, .int ksn, .ref p14, .ref p15, .ref p16, .ref p17, .long hlg])), (p5, .inl (cI, 5, .inl (upd w k (hcap (w k + x)))))]) := by
  refine CI_intro (by decide) (Nat.le_of_ble_eq_true rfl) ?_
  intro p e s m args below meth c A Q ls C h hret hl
  have C : CX p s m args c cX8_rains 3 RX8 D cI cZ kS vS A := C
  have hx := C.1.1
  have hb := C.1.2.1
  have hl : lv_has ls 3 [(0, .ref p0), (1, .int (nI k)), (2, .int x)] := hl
  refine lv_aload_n hx hb dX8_rains_0 rfl (lv_at hl 0 rfl) ?_
  refine r_get C h fk8 0 12 rfl (by decide) mf_RX8_22 rfl dX8_rains_1 ?_
  refine lv_iload_n hx hb dX8_rains_4 rfl (lv_at hl 1 rfl) ?_
  refine lv_aload_n hx hb dX8_rains_5 rfl (lv_at hl 0 rfl) ?_
  refine r_get C h fk8 0 12 rfl (by decide) mf_RX8_22 rfl dX8_rains_6 ?_
  refine lv_iload_n hx hb dX8_rains_9 rfl (lv_at hl 1 rfl) ?_
  refine r_ld C h 1 rfl k (rfl) (by omega) (by decide) (x := w k) (rfl) dX8_rains_10 ?_
  refine lv_iload_n hx hb dX8_rains_11 rfl (lv_at hl 2 rfl) ?_
  refine lv_iadd hx hb dX8_rains_12 ?_
  refine lv_bipush (v := 99) hx hb dX8_rains_13 (by decide) ?_
  refine lv_icmp_le (tgt := 23) hx hb dX8_rains_15 (by decide) (fun c_15 => ?_) (fun c_15 => ?_)
  · skip
    refine lv_aload_n hx hb dX8_rains_23 rfl (lv_at hl 0 rfl) ?_
    refine r_get C h fk8 0 12 rfl (by decide) mf_RX8_22 rfl dX8_rains_24 ?_
    refine lv_iload_n hx hb dX8_rains_27 rfl (lv_at hl 1 rfl) ?_
    refine r_ld C h 1 rfl k (rfl) (by omega) (by decide) (x := w k) (rfl) dX8_rains_28 ?_
    refine lv_iload_n hx hb dX8_rains_29 rfl (lv_at hl 2 rfl) ?_
    refine lv_iadd hx hb dX8_rains_30 ?_
    refine r_top (y := hcap (w k + x)) (by first | exact (hcap_t c_15).symm | exact (hcap_f c_15).symm) ?_
    refine r_st C h 1 rfl k (rfl) (by omega) (by decide) (g := upd w k (hcap (w k + x))) (fun _ _ => rfl) (ws' := [(p0, .inr (8, [.ref p1, .int pgm, .ref p2, .int rdm, .int rdb, .int stt, .int (nI n), .int bar, .int hrs, .int crd, .ref p3, .ref p4, .ref p5, .ref p6, .ref p7, .int tof, .int tmu, .ref p8, .ref p9, .int bdn, .ref p10, .int snm, .ref p11, .ref p12, .ref p13, .int sdn, .int kcs, .int khr, .int ksn, .ref p14, .ref p15, .ref p16, .ref p17, .long hlg])), (p5, .inl (cI, 5, .inl (upd w k (hcap (w k + x)))))]) rfl dX8_rains_31 (fun H locs h => ?_)
    refine lv_aload_n hx hb dX8_rains_32 rfl (lv_at hl 0 rfl) ?_
    refine r_get C h fk8 0 12 rfl (by decide) mf_RX8_22 rfl dX8_rains_33 ?_
    refine lv_iload_n hx hb dX8_rains_36 rfl (lv_at hl 1 rfl) ?_
    refine r_ld C h 1 rfl k (rfl) (by omega) (by decide) (x := hcap (w k + x)) (upd_s _ _ _) dX8_rains_37 ?_
    exact hret (r := hcap (w k + x)) () dX8_rains_38 h (rfl) (rfl)
  · skip
    refine lv_bipush (v := 99) hx hb dX8_rains_18 (by decide) ?_
    refine lv_goto (tgt := 31) hx hb dX8_rains_20 (by decide) ?_
    refine r_top (y := hcap (w k + x)) (by first | exact (hcap_t c_15).symm | exact (hcap_f c_15).symm) ?_
    refine r_st C h 1 rfl k (rfl) (by omega) (by decide) (g := upd w k (hcap (w k + x))) (fun _ _ => rfl) (ws' := [(p0, .inr (8, [.ref p1, .int pgm, .ref p2, .int rdm, .int rdb, .int stt, .int (nI n), .int bar, .int hrs, .int crd, .ref p3, .ref p4, .ref p5, .ref p6, .ref p7, .int tof, .int tmu, .ref p8, .ref p9, .int bdn, .ref p10, .int snm, .ref p11, .ref p12, .ref p13, .int sdn, .int kcs, .int khr, .int ksn, .ref p14, .ref p15, .ref p16, .ref p17, .long hlg])), (p5, .inl (cI, 5, .inl (upd w k (hcap (w k + x)))))]) rfl dX8_rains_31 (fun H locs h => ?_)
    refine lv_aload_n hx hb dX8_rains_32 rfl (lv_at hl 0 rfl) ?_
    refine r_get C h fk8 0 12 rfl (by decide) mf_RX8_22 rfl dX8_rains_33 ?_
    refine lv_iload_n hx hb dX8_rains_36 rfl (lv_at hl 1 rfl) ?_
    refine r_ld C h 1 rfl k (rfl) (by omega) (by decide) (x := hcap (w k + x)) (upd_s _ _ _) dX8_rains_37 ?_
    exact hret (r := hcap (w k + x)) () dX8_rains_38 h (rfl) (rfl)

