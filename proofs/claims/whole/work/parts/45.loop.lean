/-! ===== the law, from its entry ===== -/
theorem sgt_z : ∀ j, j < 18 → (0 : Int32) = sgt (fun _ => 0) (fun _ => 0) (fun _ => 0) j := fun j _ => by
  unfold sgt
  split
  · rfl
  · split <;> rfl
theorem INV.up {n q ps bd qk i : Nat} {K F w tb wk tbk : Nat → Int32} {ρ sh pg ρk shk : Nat → Nat} {bar ik crd kcs : Int32} (h : INV n q ps bd qk i K F w tb wk tbk ρ sh pg ρk shk bar ik crd kcs) (hi : i + 4 ≤ 256) : INV n q ps bd qk (i + 4) K F w tb wk tbk ρ sh pg ρk shk bar ik crd kcs := ⟨hi, h.2.1, h.2.2.1, h.2.2.2.1, h.2.2.2.2.1, h.2.2.2.2.2.1, h.2.2.2.2.2.2.up⟩
theorem WB.zero (m : Nat) (w : Nat → Int32) : WB m 0 w := fun j hj => absurd hj (Nat.not_lt_zero j)
theorem INV.zero : INV 0 0 0 0 0 0 (fun _ => 0) (fun _ => 0) (fun _ => 0) (fun _ => 0) (fun _ => 0) (fun _ => 0) (fun _ => 0) (fun _ => 0) (fun _ => 0) (fun _ => 0) (fun _ => 0) 0 0 0 (-1) :=
  ⟨by decide, ⟨Or.inl rfl, PM.zero _, fun j hj => absurd hj (Nat.not_lt_zero j), WB.zero _ _, ⟨0, by decide, rfl⟩, WB.zero _ _⟩, ⟨by decide, fun j hj => absurd hj (Nat.not_lt_zero j)⟩, fun _ _ => Or.inl rfl, ⟨by decide, fun j hj => absurd hj (Nat.not_lt_zero j)⟩, by decide, ⟨0, Nat.le_refl _, rfl, Or.inr ⟨rfl, Or.inl rfl⟩⟩, fun _ _ => Or.inl rfl, fun z => absurd z (by decide)⟩
set_option maxHeartbeats 4000000 in
set_option maxRecDepth 100000 in
/-- the calls, one behind the other -/
theorem law_loop {p : Program} {l : Launch} {e : Env} {s : State} {m : MethodId} {args : Array Value} {below : List Frame} {meth : Method} {c : Code} {D : va_G} {cI cZ : ClassId} {kS vS : Nat} {A : Nat → Prop} {Q : State → Prop} (C : CX p s m args c code 4 RL D cI cZ kS vS A) {b L : Nat} {xs : Nat → Int32} (hX : va_X b L xs s s.heap) (hbl : b < s.heap.size) (hbA : ¬ A b) (hL : L ≤ 256) (hret : ∀ {H : Heap} {locs : List Loc} {ls : Array Slot}, va_S A s.heap H locs → W p l e room_1 s m args below meth c H locs 55 419 Q (F0 m 585 ls [.int 1])) {x0 g0 g1 oc c5 c6 on n2 n3 n4 os s1 s2 s3 ok k2 k3 k4 ov v1 v2 v3 fo od oo oy ot t2 t3 t4 bo b3 b4 bt e2 e3 e4 p0 p1 p2 p3 p4 p5 p6 p7 p8 p9 p10 p11 p12 p13 p14 p15 p16 p17 : Nat} : ∀ (fu i : Nat), L - i < fu → i ≤ L → NX p l e s m args below meth c D cI cZ A Q b x0 g0 g1 oc c5 c6 on n2 n3 n4 os s1 s2 s3 ok k2 k3 k4 ov v1 v2 v3 fo od oo oy ot t2 t3 t4 bo b3 b4 bt e2 e3 e4 p0 p1 p2 p3 p4 p5 p6 p7 p8 p9 p10 p11 p12 p13 p14 p15 p16 p17 18 i i := by
  have hx := C.1.1
  have hb := C.1.2.1
  intro fu
  induction fu with
  | zero => intro i hfu; exact absurd hfu (Nat.not_lt_zero _)
  | succ fu ih =>
      intro i hfu hiL n q ps bd qk K F w tb wk tbk ρ sh pg ρk shk bar ik crd kcs hr to tk sr hrk tok tkk srk hv tv tw tk2 tr sd0 g y0 le hv2 tv2 ew ek er o0 f0 rdm rdb stt tof tmu sdn hlg rd sw ss bs mg my hI H locs ls h hl
      refine lv_iload_n hx hb dL_law_18 rfl (lv_at hl 3 rfl) ?_
      refine lv_aload_n hx hb dL_law_19 rfl (lv_at hl 0 rfl) ?_
      refine r_scl C h hX hbl hbA dL_law_20 ?_
      refine lv_iconst (v := 4) hx hb dL_law_21 (by decide) ?_
      refine lv_isub hx hb dL_law_22 ?_
      refine lv_icmp_gt (tgt := 584) hx hb dL_law_23 (by decide) (fun c_23 => ?_) (fun c_23 => ?_)
      · skip
        refine lv_iconst (v := 1) hx hb dL_law_584 (by decide) ?_
        exact hret h.2.2
      · skip
        have hi4 := lp_f hL hI.1 c_23
        have next : NX p l e s m args below meth c D cI cZ A Q b x0 g0 g1 oc c5 c6 on n2 n3 n4 os s1 s2 s3 ok k2 k3 k4 ov v1 v2 v3 fo od oo oy ot t2 t3 t4 bo b3 b4 bt e2 e3 e4 p0 p1 p2 p3 p4 p5 p6 p7 p8 p9 p10 p11 p12 p13 p14 p15 p16 p17 578 i (i + 4) := by
          intro n q ps bd qk K F w tb wk tbk ρ sh pg ρk shk bar ik crd kcs hr to tk sr hrk tok tkk srk hv tv tw tk2 tr sd0 g y0 le hv2 tv2 ew ek er o0 f0 rdm rdb stt tof tmu sdn hlg rd sw ss bs mg my hI H locs ls h hl
          refine lv_iinc (v := nI (i + 4)) (lv' := [(3, .int (nI (i + 4))), (0, .ref b), (1, .ref x0), (2, .ref p0)]) hx hb dL_law_578 hl (k := 3) rfl (nI_add i 4) (by decide) rfl (fun ls hl => ?_)
          refine lv_goto (tgt := 18) hx hb dL_law_581 (by decide) ?_
          exact ih (i + 4) (by omega) hi4 n q ps bd qk K F w tb wk tbk ρ sh pg ρk shk bar ik crd kcs hr to tk sr hrk tok tkk srk hv tv tw tk2 tr sd0 g y0 le hv2 tv2 ew ek er o0 f0 rdm rdb stt tof tmu sdn hlg rd sw ss bs mg my hI _ _ _ h (lv_sub hl [1, 2, 3, 0] rfl)
        refine lv_aload_n hx hb dL_law_26 rfl (lv_at hl 0 rfl) ?_
        refine lv_iload_n hx hb dL_law_27 rfl (lv_at hl 3 rfl) ?_
        refine r_scr C h hX hbl hbA hL i rfl (by omega) dL_law_28 ?_
        refine lv_bipush (v := 31) hx hb dL_law_29 (by decide) ?_
        refine lv_iand hx hb dL_law_31 ?_
        by_cases k_32_0 : (xs i) &&& 31 = 0
        · skip
          refine r_top (y := 0) k_32_0 ?_
          refine lv_tableIn (tgt := 124) hx hb dL_law_32 (by decide) (by decide) rfl (by decide) ?_
          exact law_c0 C hX hbl hbA hL i hi4 n q ps bd qk K F w tb wk tbk ρ sh pg ρk shk bar ik crd kcs hr to tk sr hrk tok tkk srk hv tv tw tk2 tr sd0 g y0 le hv2 tv2 ew ek er o0 f0 rdm rdb stt tof tmu sdn hlg rd sw ss bs mg my hI next h hl
        · skip
          by_cases k_32_1 : (xs i) &&& 31 = 1
          · skip
            refine r_top (y := 1) k_32_1 ?_
            refine lv_tableIn (tgt := 147) hx hb dL_law_32 (by decide) (by decide) rfl (by decide) ?_
            exact law_c1 C hX hbl hbA hL i hi4 n q ps bd qk K F w tb wk tbk ρ sh pg ρk shk bar ik crd kcs hr to tk sr hrk tok tkk srk hv tv tw tk2 tr sd0 g y0 le hv2 tv2 ew ek er o0 f0 rdm rdb stt tof tmu sdn hlg rd sw ss bs mg my hI next h hl
          · skip
            by_cases k_32_2 : (xs i) &&& 31 = 2
            · skip
              refine r_top (y := 2) k_32_2 ?_
              refine lv_tableIn (tgt := 160) hx hb dL_law_32 (by decide) (by decide) rfl (by decide) ?_
              exact law_c2 C hX hbl hbA hL i hi4 n q ps bd qk K F w tb wk tbk ρ sh pg ρk shk bar ik crd kcs hr to tk sr hrk tok tkk srk hv tv tw tk2 tr sd0 g y0 le hv2 tv2 ew ek er o0 f0 rdm rdb stt tof tmu sdn hlg rd sw ss bs mg my hI next h hl
            · skip
              by_cases k_32_3 : (xs i) &&& 31 = 3
              · skip
                refine r_top (y := 3) k_32_3 ?_
                refine lv_tableIn (tgt := 173) hx hb dL_law_32 (by decide) (by decide) rfl (by decide) ?_
                exact law_c3 C hX hbl hbA hL i hi4 n q ps bd qk K F w tb wk tbk ρ sh pg ρk shk bar ik crd kcs hr to tk sr hrk tok tkk srk hv tv tw tk2 tr sd0 g y0 le hv2 tv2 ew ek er o0 f0 rdm rdb stt tof tmu sdn hlg rd sw ss bs mg my hI next h hl
              · skip
                by_cases k_32_4 : (xs i) &&& 31 = 4
                · skip
                  refine r_top (y := 4) k_32_4 ?_
                  refine lv_tableIn (tgt := 186) hx hb dL_law_32 (by decide) (by decide) rfl (by decide) ?_
                  exact law_c4 C hX hbl hbA hL i hi4 n q ps bd qk K F w tb wk tbk ρ sh pg ρk shk bar ik crd kcs hr to tk sr hrk tok tkk srk hv tv tw tk2 tr sd0 g y0 le hv2 tv2 ew ek er o0 f0 rdm rdb stt tof tmu sdn hlg rd sw ss bs mg my hI next h hl
                · skip
                  by_cases k_32_5 : (xs i) &&& 31 = 5
                  · skip
                    refine r_top (y := 5) k_32_5 ?_
                    refine lv_tableIn (tgt := 219) hx hb dL_law_32 (by decide) (by decide) rfl (by decide) ?_
                    exact law_c5 C hX hbl hbA hL i hi4 n q ps bd qk K F w tb wk tbk ρ sh pg ρk shk bar ik crd kcs hr to tk sr hrk tok tkk srk hv tv tw tk2 tr sd0 g y0 le hv2 tv2 ew ek er o0 f0 rdm rdb stt tof tmu sdn hlg rd sw ss bs mg my hI next h hl
                  · skip
                    by_cases k_32_6 : (xs i) &&& 31 = 6
                    · skip
                      refine r_top (y := 6) k_32_6 ?_
                      refine lv_tableIn (tgt := 252) hx hb dL_law_32 (by decide) (by decide) rfl (by decide) ?_
                      exact law_c6 C hX hbl hbA hL i hi4 n q ps bd qk K F w tb wk tbk ρ sh pg ρk shk bar ik crd kcs hr to tk sr hrk tok tkk srk hv tv tw tk2 tr sd0 g y0 le hv2 tv2 ew ek er o0 f0 rdm rdb stt tof tmu sdn hlg rd sw ss bs mg my hI next h hl
                    · skip
                      by_cases k_32_7 : (xs i) &&& 31 = 7
                      · skip
                        refine r_top (y := 7) k_32_7 ?_
                        refine lv_tableIn (tgt := 275) hx hb dL_law_32 (by decide) (by decide) rfl (by decide) ?_
                        exact law_c7 C hX hbl hbA hL i hi4 n q ps bd qk K F w tb wk tbk ρ sh pg ρk shk bar ik crd kcs hr to tk sr hrk tok tkk srk hv tv tw tk2 tr sd0 g y0 le hv2 tv2 ew ek er o0 f0 rdm rdb stt tof tmu sdn hlg rd sw ss bs mg my hI next h hl
                      · skip
                        by_cases k_32_8 : (xs i) &&& 31 = 8
                        · skip
                          refine r_top (y := 8) k_32_8 ?_
                          refine lv_tableIn (tgt := 288) hx hb dL_law_32 (by decide) (by decide) rfl (by decide) ?_
                          exact law_c8 C hX hbl hbA hL i hi4 n q ps bd qk K F w tb wk tbk ρ sh pg ρk shk bar ik crd kcs hr to tk sr hrk tok tkk srk hv tv tw tk2 tr sd0 g y0 le hv2 tv2 ew ek er o0 f0 rdm rdb stt tof tmu sdn hlg rd sw ss bs mg my hI next h hl
                        · skip
                          by_cases k_32_9 : (xs i) &&& 31 = 9
                          · skip
                            refine r_top (y := 9) k_32_9 ?_
                            refine lv_tableIn (tgt := 321) hx hb dL_law_32 (by decide) (by decide) rfl (by decide) ?_
                            exact law_c9 C hX hbl hbA hL i hi4 n q ps bd qk K F w tb wk tbk ρ sh pg ρk shk bar ik crd kcs hr to tk sr hrk tok tkk srk hv tv tw tk2 tr sd0 g y0 le hv2 tv2 ew ek er o0 f0 rdm rdb stt tof tmu sdn hlg rd sw ss bs mg my hI next h hl
                          · skip
                            by_cases k_32_10 : (xs i) &&& 31 = 10
                            · skip
                              refine r_top (y := 10) k_32_10 ?_
                              refine lv_tableIn (tgt := 344) hx hb dL_law_32 (by decide) (by decide) rfl (by decide) ?_
                              exact law_c10 C hX hbl hbA hL i hi4 n q ps bd qk K F w tb wk tbk ρ sh pg ρk shk bar ik crd kcs hr to tk sr hrk tok tkk srk hv tv tw tk2 tr sd0 g y0 le hv2 tv2 ew ek er o0 f0 rdm rdb stt tof tmu sdn hlg rd sw ss bs mg my hI next h hl
                            · skip
                              by_cases k_32_11 : (xs i) &&& 31 = 11
                              · skip
                                refine r_top (y := 11) k_32_11 ?_
                                refine lv_tableIn (tgt := 377) hx hb dL_law_32 (by decide) (by decide) rfl (by decide) ?_
                                exact law_c11 C hX hbl hbA hL i hi4 n q ps bd qk K F w tb wk tbk ρ sh pg ρk shk bar ik crd kcs hr to tk sr hrk tok tkk srk hv tv tw tk2 tr sd0 g y0 le hv2 tv2 ew ek er o0 f0 rdm rdb stt tof tmu sdn hlg rd sw ss bs mg my hI next h hl
                              · skip
                                by_cases k_32_12 : (xs i) &&& 31 = 12
                                · skip
                                  refine r_top (y := 12) k_32_12 ?_
                                  refine lv_tableIn (tgt := 400) hx hb dL_law_32 (by decide) (by decide) rfl (by decide) ?_
                                  exact law_c12 C hX hbl hbA hL i hi4 n q ps bd qk K F w tb wk tbk ρ sh pg ρk shk bar ik crd kcs hr to tk sr hrk tok tkk srk hv tv tw tk2 tr sd0 g y0 le hv2 tv2 ew ek er o0 f0 rdm rdb stt tof tmu sdn hlg rd sw ss bs mg my hI next h hl
                                · skip
                                  by_cases k_32_13 : (xs i) &&& 31 = 13
                                  · skip
                                    refine r_top (y := 13) k_32_13 ?_
                                    refine lv_tableIn (tgt := 459) hx hb dL_law_32 (by decide) (by decide) rfl (by decide) ?_
                                    exact law_c13 C hX hbl hbA hL i hi4 n q ps bd qk K F w tb wk tbk ρ sh pg ρk shk bar ik crd kcs hr to tk sr hrk tok tkk srk hv tv tw tk2 tr sd0 g y0 le hv2 tv2 ew ek er o0 f0 rdm rdb stt tof tmu sdn hlg rd sw ss bs mg my hI next h hl
                                  · skip
                                    by_cases k_32_14 : (xs i) &&& 31 = 14
                                    · skip
                                      refine r_top (y := 14) k_32_14 ?_
                                      refine lv_tableIn (tgt := 472) hx hb dL_law_32 (by decide) (by decide) rfl (by decide) ?_
                                      exact law_c14 C hX hbl hbA hL i hi4 n q ps bd qk K F w tb wk tbk ρ sh pg ρk shk bar ik crd kcs hr to tk sr hrk tok tkk srk hv tv tw tk2 tr sd0 g y0 le hv2 tv2 ew ek er o0 f0 rdm rdb stt tof tmu sdn hlg rd sw ss bs mg my hI next h hl
                                    · skip
                                      by_cases k_32_15 : (xs i) &&& 31 = 15
                                      · skip
                                        refine r_top (y := 15) k_32_15 ?_
                                        refine lv_tableIn (tgt := 515) hx hb dL_law_32 (by decide) (by decide) rfl (by decide) ?_
                                        exact law_c15 C hX hbl hbA hL i hi4 n q ps bd qk K F w tb wk tbk ρ sh pg ρk shk bar ik crd kcs hr to tk sr hrk tok tkk srk hv tv tw tk2 tr sd0 g y0 le hv2 tv2 ew ek er o0 f0 rdm rdb stt tof tmu sdn hlg rd sw ss bs mg my hI next h hl
                                      · skip
                                        by_cases k_32_16 : (xs i) &&& 31 = 16
                                        · skip
                                          refine r_top (y := 16) k_32_16 ?_
                                          refine lv_tableIn (tgt := 528) hx hb dL_law_32 (by decide) (by decide) rfl (by decide) ?_
                                          exact law_c16 C hX hbl hbA hL i hi4 n q ps bd qk K F w tb wk tbk ρ sh pg ρk shk bar ik crd kcs hr to tk sr hrk tok tkk srk hv tv tw tk2 tr sd0 g y0 le hv2 tv2 ew ek er o0 f0 rdm rdb stt tof tmu sdn hlg rd sw ss bs mg my hI next h hl
                                        · skip
                                          by_cases k_32_17 : (xs i) &&& 31 = 17
                                          · skip
                                            refine r_top (y := 17) k_32_17 ?_
                                            refine lv_tableIn (tgt := 541) hx hb dL_law_32 (by decide) (by decide) rfl (by decide) ?_
                                            exact law_c17 C hX hbl hbA hL i hi4 n q ps bd qk K F w tb wk tbk ρ sh pg ρk shk bar ik crd kcs hr to tk sr hrk tok tkk srk hv tv tw tk2 tr sd0 g y0 le hv2 tv2 ew ek er o0 f0 rdm rdb stt tof tmu sdn hlg rd sw ss bs mg my hI next h hl
                                          · skip
                                            by_cases k_32_18 : (xs i) &&& 31 = 18
                                            · skip
                                              refine r_top (y := 18) k_32_18 ?_
                                              refine lv_tableIn (tgt := 564) hx hb dL_law_32 (by decide) (by decide) rfl (by decide) ?_
                                              exact law_c18 C hX hbl hbA hL i hi4 n q ps bd qk K F w tb wk tbk ρ sh pg ρk shk bar ik crd kcs hr to tk sr hrk tok tkk srk hv tv tw tk2 tr sd0 g y0 le hv2 tv2 ew ek er o0 f0 rdm rdb stt tof tmu sdn hlg rd sw ss bs mg my hI next h hl
                                            · skip
                                              have hO : ((xs i) &&& 31).toInt < 0 ∨ 18 < ((xs i) &&& 31).toInt := by
                                                have zk_32_0 := lv_neT (a := 0) k_32_0 (by decide)
                                                have zk_32_1 := lv_neT (a := 1) k_32_1 (by decide)
                                                have zk_32_2 := lv_neT (a := 2) k_32_2 (by decide)
                                                have zk_32_3 := lv_neT (a := 3) k_32_3 (by decide)
                                                have zk_32_4 := lv_neT (a := 4) k_32_4 (by decide)
                                                have zk_32_5 := lv_neT (a := 5) k_32_5 (by decide)
                                                have zk_32_6 := lv_neT (a := 6) k_32_6 (by decide)
                                                have zk_32_7 := lv_neT (a := 7) k_32_7 (by decide)
                                                have zk_32_8 := lv_neT (a := 8) k_32_8 (by decide)
                                                have zk_32_9 := lv_neT (a := 9) k_32_9 (by decide)
                                                have zk_32_10 := lv_neT (a := 10) k_32_10 (by decide)
                                                have zk_32_11 := lv_neT (a := 11) k_32_11 (by decide)
                                                have zk_32_12 := lv_neT (a := 12) k_32_12 (by decide)
                                                have zk_32_13 := lv_neT (a := 13) k_32_13 (by decide)
                                                have zk_32_14 := lv_neT (a := 14) k_32_14 (by decide)
                                                have zk_32_15 := lv_neT (a := 15) k_32_15 (by decide)
                                                have zk_32_16 := lv_neT (a := 16) k_32_16 (by decide)
                                                have zk_32_17 := lv_neT (a := 17) k_32_17 (by decide)
                                                have zk_32_18 := lv_neT (a := 18) k_32_18 (by decide)
                                                omega
                                              refine lv_tableOut (tgt := 578) hx hb dL_law_32 hO (by decide) ?_
                                              exact next n q ps bd qk K F w tb wk tbk ρ sh pg ρk shk bar ik crd kcs hr to tk sr hrk tok tkk srk hv tv tw tk2 tr sd0 g y0 le hv2 tv2 ew ek er o0 f0 rdm rdb stt tof tmu sdn hlg rd sw ss bs mg my (hI.up (by omega)) _ _ _ h (lv_sub hl [0, 1, 2, 3] rfl)
set_option maxHeartbeats 4000000 in
set_option maxRecDepth 100000 in
/-- from the entry -/
theorem law_from {p : Program} {l : Launch} {e : Env} {s : State} {m : MethodId} {args : Array Value} {below : List Frame} {meth : Method} {c : Code} {D : va_G} {cI cZ : ClassId} {kS vS : Nat} {A : Nat → Prop} {Q : State → Prop} (C : CX p s m args c code 4 RL D cI cZ kS vS A) {b L : Nat} {xs : Nat → Int32} (hX : va_X b L xs s s.heap) (hbl : b < s.heap.size) (hbA : ¬ A b) (hL : L ≤ 256) (hret : ∀ {H : Heap} {locs : List Loc} {ls : Array Slot}, va_S A s.heap H locs → W p l e room_1 s m args below meth c H locs 55 419 Q (F0 m 585 ls [.int 1])) {H : Heap} {locs : List Loc} {ls : Array Slot} (h : HS D A s H locs []) (hl : lv_has ls 4 [(0, .ref b)]) : W p l e room_1 s m args below meth c H locs 0 0 Q (F0 m 0 ls []) := by
  have hx := C.1.1
  have hb := C.1.2.1
  refine r_new C h fk7 mk_RL_7 ma_RX7 mn_RX7 (fs := [.null, .null, .null, .null, .null, .null, .null, .null, .int 0, .int 0, .int 0]) (by decide) ⟨Nat.le_of_ble_eq_true rfl, Nat.le_of_ble_eq_true rfl⟩ dL_law_0 (fun q0 H h => ?_)
  have h : HS D A s H locs [(q0, .inr (7, [.null, .null, .null, .null, .null, .null, .null, .null, .int 0, .int 0, .int 0]))] := h
  refine lv_dup hx hb dL_law_3 rfl ?_
  refine k_Iv (rest := [.ref q0]) (as := []) (wc := [(q0, .inr (7, [.null, .null, .null, .null, .null, .null, .null, .null, .int 0, .int 0, .int 0]))]) (wr := []) (isC := [0]) (isR := []) (w2 := fun (u : Nat × Nat × Nat × Nat × Nat × Nat × Nat × Nat × Nat × Nat × Nat × Nat × Nat × Nat × Nat × Nat × Nat × Nat × Nat × Nat × Nat × Nat × Nat × Nat × Nat × Nat × Nat × Nat × Nat × Nat × Nat × Nat × Nat × Nat × Nat × Nat) => [(q0, .inr (7, [.ref u.1, .ref u.2.2.1, .ref u.2.2.2.2.2.1, .ref u.2.2.2.2.2.2.2.2.2.1, .ref u.2.2.2.2.2.2.2.2.2.2.2.2.2.1, .ref u.2.2.2.2.2.2.2.2.2.2.2.2.2.2.2.2.2.1, .ref u.2.2.2.2.2.2.2.2.2.2.2.2.2.2.2.2.2.2.2.2.2.1, .ref u.2.2.2.2.2.2.2.2.2.2.2.2.2.2.2.2.2.2.2.2.2.2.2.2.2.2.2.2.2.1, .int 0, .int 0, .int 0])), (u.1, .inr (4, [.ref u.2.1, .int 0])), (u.2.1, .inl (cI, 24, .inl (fun _ => 0))), (u.2.2.1, .inr (1, [.ref u.2.2.2.1, .ref u.2.2.2.2.1, .int 0, .int 0])), (u.2.2.2.1, .inl (cI, 5, .inl (fun _ => 0))), (u.2.2.2.2.1, .inl (cI, 5, .inl (fun _ => 0))), (u.2.2.2.2.2.1, .inr (5, [.ref u.2.2.1, .ref u.2.2.2.2.2.2.1, .ref u.2.2.2.2.2.2.2.1, .ref u.2.2.2.2.2.2.2.2.1, .int 0, .int (-1)])), (u.2.2.2.2.2.2.1, .inl (cI, 5, .inl (fun _ => 0))), (u.2.2.2.2.2.2.2.1, .inl (cI, 5, .inl (fun _ => 0))), (u.2.2.2.2.2.2.2.2.1, .inl (cI, 5, .inl (fun _ => 0))), (u.2.2.2.2.2.2.2.2.2.1, .inr (6, [.ref u.2.2.2.2.2.2.2.2.2.2.1, .ref u.2.2.2.2.2.2.2.2.2.2.2.1, .ref u.2.2.2.2.2.2.2.2.2.2.2.2.1, .int 0])), (u.2.2.2.2.2.2.2.2.2.2.1, .inl (cI, 6, .inl (fun _ => 0))), (u.2.2.2.2.2.2.2.2.2.2.2.1, .inl (cI, 6, .inl (fun _ => 0))), (u.2.2.2.2.2.2.2.2.2.2.2.2.1, .inl (cZ, 6, .inl (fun _ => 0))), (u.2.2.2.2.2.2.2.2.2.2.2.2.2.1, .inr (5, [.ref u.2.2.1, .ref u.2.2.2.2.2.2.2.2.2.2.2.2.2.2.1, .ref u.2.2.2.2.2.2.2.2.2.2.2.2.2.2.2.1, .ref u.2.2.2.2.2.2.2.2.2.2.2.2.2.2.2.2.1, .int 0, .int (-1)])), (u.2.2.2.2.2.2.2.2.2.2.2.2.2.2.1, .inl (cI, 5, .inl (fun _ => 0))), (u.2.2.2.2.2.2.2.2.2.2.2.2.2.2.2.1, .inl (cI, 5, .inl (fun _ => 0))), (u.2.2.2.2.2.2.2.2.2.2.2.2.2.2.2.2.1, .inl (cI, 5, .inl (fun _ => 0))), (u.2.2.2.2.2.2.2.2.2.2.2.2.2.2.2.2.2.1, .inr (6, [.ref u.2.2.2.2.2.2.2.2.2.2.2.2.2.2.2.2.2.2.1, .ref u.2.2.2.2.2.2.2.2.2.2.2.2.2.2.2.2.2.2.2.1, .ref u.2.2.2.2.2.2.2.2.2.2.2.2.2.2.2.2.2.2.2.2.1, .int 0])), (u.2.2.2.2.2.2.2.2.2.2.2.2.2.2.2.2.2.2.1, .inl (cI, 6, .inl (fun _ => 0))), (u.2.2.2.2.2.2.2.2.2.2.2.2.2.2.2.2.2.2.2.1, .inl (cI, 6, .inl (fun _ => 0))), (u.2.2.2.2.2.2.2.2.2.2.2.2.2.2.2.2.2.2.2.2.1, .inl (cZ, 6, .inl (fun _ => 0))), (u.2.2.2.2.2.2.2.2.2.2.2.2.2.2.2.2.2.2.2.2.2.1, .inr (3, [.ref u.2.2.1, .ref u.2.2.2.2.2.1, .ref u.2.2.2.2.2.2.2.2.2.1, .ref u.2.2.2.2.2.2.2.2.2.2.2.2.2.2.2.2.2.2.2.2.2.2.2.2.2.1, .ref u.2.2.2.2.2.2.2.2.2.2.2.2.2.2.2.2.2.2.2.2.2.2.1, .ref u.2.2.2.2.2.2.2.2.2.2.2.2.2.2.2.2.2.2.2.2.2.2.2.1, .ref u.2.2.2.2.2.2.2.2.2.2.2.2.2.2.2.2.2.2.2.2.2.2.2.2.1])), (u.2.2.2.2.2.2.2.2.2.2.2.2.2.2.2.2.2.2.2.2.2.2.1, .inr (2, [.int 0])), (u.2.2.2.2.2.2.2.2.2.2.2.2.2.2.2.2.2.2.2.2.2.2.2.1, .inl (cI, 13, .inl (fun _ => 0))), (u.2.2.2.2.2.2.2.2.2.2.2.2.2.2.2.2.2.2.2.2.2.2.2.2.1, .inl (cI, 13, .inl (fun _ => 0))), (u.2.2.2.2.2.2.2.2.2.2.2.2.2.2.2.2.2.2.2.2.2.2.2.2.2.1, .inr (5, [.ref u.2.2.1, .ref u.2.2.2.2.2.2.2.2.2.2.2.2.2.2.2.2.2.2.2.2.2.2.2.2.2.2.1, .ref u.2.2.2.2.2.2.2.2.2.2.2.2.2.2.2.2.2.2.2.2.2.2.2.2.2.2.2.1, .ref u.2.2.2.2.2.2.2.2.2.2.2.2.2.2.2.2.2.2.2.2.2.2.2.2.2.2.2.2.1, .int 0, .int (-1)])), (u.2.2.2.2.2.2.2.2.2.2.2.2.2.2.2.2.2.2.2.2.2.2.2.2.2.2.1, .inl (cI, 5, .inl (fun _ => 0))), (u.2.2.2.2.2.2.2.2.2.2.2.2.2.2.2.2.2.2.2.2.2.2.2.2.2.2.2.1, .inl (cI, 5, .inl (fun _ => 0))), (u.2.2.2.2.2.2.2.2.2.2.2.2.2.2.2.2.2.2.2.2.2.2.2.2.2.2.2.2.1, .inl (cI, 5, .inl (fun _ => 0))), (u.2.2.2.2.2.2.2.2.2.2.2.2.2.2.2.2.2.2.2.2.2.2.2.2.2.2.2.2.2.1, .inr (0, [.ref u.2.2.1, .ref u.2.2.2.2.2.1, .ref u.2.2.2.2.2.2.2.2.2.2.2.2.2.2.2.2.2.2.2.2.2.2.2.2.2.2.2.2.2.2.2.2.1, .ref u.2.2.2.2.2.2.2.2.2.2.2.2.2.2.2.2.2.2.2.2.2.2.2.2.2.2.2.2.2.2.1, .ref u.2.2.2.2.2.2.2.2.2.2.2.2.2.2.2.2.2.2.2.2.2.2.2.2.2.2.2.2.2.2.2.1, .int 0])), (u.2.2.2.2.2.2.2.2.2.2.2.2.2.2.2.2.2.2.2.2.2.2.2.2.2.2.2.2.2.2.1, .inl (cI, 5, .inl (fun _ => 0))), (u.2.2.2.2.2.2.2.2.2.2.2.2.2.2.2.2.2.2.2.2.2.2.2.2.2.2.2.2.2.2.2.1, .inl (cI, 5, .inl (fun _ => 0))), (u.2.2.2.2.2.2.2.2.2.2.2.2.2.2.2.2.2.2.2.2.2.2.2.2.2.2.2.2.2.2.2.2.1, .inr (5, [.ref u.2.2.1, .ref u.2.2.2.2.2.2.2.2.2.2.2.2.2.2.2.2.2.2.2.2.2.2.2.2.2.2.2.2.2.2.2.2.2.1, .ref u.2.2.2.2.2.2.2.2.2.2.2.2.2.2.2.2.2.2.2.2.2.2.2.2.2.2.2.2.2.2.2.2.2.2.1, .ref u.2.2.2.2.2.2.2.2.2.2.2.2.2.2.2.2.2.2.2.2.2.2.2.2.2.2.2.2.2.2.2.2.2.2.2, .int 0, .int (-1)])), (u.2.2.2.2.2.2.2.2.2.2.2.2.2.2.2.2.2.2.2.2.2.2.2.2.2.2.2.2.2.2.2.2.2.1, .inl (cI, 5, .inl (fun _ => 0))), (u.2.2.2.2.2.2.2.2.2.2.2.2.2.2.2.2.2.2.2.2.2.2.2.2.2.2.2.2.2.2.2.2.2.2.1, .inl (cI, 5, .inl (fun _ => 0))), (u.2.2.2.2.2.2.2.2.2.2.2.2.2.2.2.2.2.2.2.2.2.2.2.2.2.2.2.2.2.2.2.2.2.2.2, .inl (cI, 5, .inl (fun _ => 0)))]) C h (c_X7_init l D cI cZ kS vS q0 ) wv_X7_init rfl ⟨rfl, rfl, rfl, rfl, by decide⟩ ml_RL_9 [0, 1, 2, 3, 4, 5, 6, 7, 8, 9, 10, 11, 12, 13, 14, 15, 16, 17, 18, 19, 20, 21, 22, 23, 24, 25, 26, 27, 28, 29, 30, 31, 32, 33, 34, 35, 36] rfl (fun _ => rfl) ⟨Nat.le_of_ble_eq_true rfl, Nat.le_of_ble_eq_true rfl⟩ ⟨Nat.le_of_ble_eq_true rfl, Nat.le_of_ble_eq_true rfl⟩ (Nat.le_of_ble_eq_true rfl) hl rfl dL_law_4 (fun u H locs hq h => ?_)
  obtain ⟨g04, g14, oc4, c54, c64, on4, n24, n34, n44, os4, s14, s24, s34, ok4, k24, k34, k44, ov4, v14, v24, v34, fo4, od4, oo4, oy4, ot4, t24, t34, t44, bo4, b34, b44, bt4, e24, e34, e44⟩ := u
  have h : HS D A s H locs [(q0, .inr (7, [.ref g04, .ref oc4, .ref on4, .ref os4, .ref ok4, .ref ov4, .ref fo4, .ref bo4, .int 0, .int 0, .int 0])), (g04, .inr (4, [.ref g14, .int 0])), (g14, .inl (cI, 24, .inl (fun _ => 0))), (oc4, .inr (1, [.ref c54, .ref c64, .int 0, .int 0])), (c54, .inl (cI, 5, .inl (fun _ => 0))), (c64, .inl (cI, 5, .inl (fun _ => 0))), (on4, .inr (5, [.ref oc4, .ref n24, .ref n34, .ref n44, .int 0, .int (-1)])), (n24, .inl (cI, 5, .inl (fun _ => 0))), (n34, .inl (cI, 5, .inl (fun _ => 0))), (n44, .inl (cI, 5, .inl (fun _ => 0))), (os4, .inr (6, [.ref s14, .ref s24, .ref s34, .int 0])), (s14, .inl (cI, 6, .inl (fun _ => 0))), (s24, .inl (cI, 6, .inl (fun _ => 0))), (s34, .inl (cZ, 6, .inl (fun _ => 0))), (ok4, .inr (5, [.ref oc4, .ref k24, .ref k34, .ref k44, .int 0, .int (-1)])), (k24, .inl (cI, 5, .inl (fun _ => 0))), (k34, .inl (cI, 5, .inl (fun _ => 0))), (k44, .inl (cI, 5, .inl (fun _ => 0))), (ov4, .inr (6, [.ref v14, .ref v24, .ref v34, .int 0])), (v14, .inl (cI, 6, .inl (fun _ => 0))), (v24, .inl (cI, 6, .inl (fun _ => 0))), (v34, .inl (cZ, 6, .inl (fun _ => 0))), (fo4, .inr (3, [.ref oc4, .ref on4, .ref os4, .ref ot4, .ref od4, .ref oo4, .ref oy4])), (od4, .inr (2, [.int 0])), (oo4, .inl (cI, 13, .inl (fun _ => 0))), (oy4, .inl (cI, 13, .inl (fun _ => 0))), (ot4, .inr (5, [.ref oc4, .ref t24, .ref t34, .ref t44, .int 0, .int (-1)])), (t24, .inl (cI, 5, .inl (fun _ => 0))), (t34, .inl (cI, 5, .inl (fun _ => 0))), (t44, .inl (cI, 5, .inl (fun _ => 0))), (bo4, .inr (0, [.ref oc4, .ref on4, .ref bt4, .ref b34, .ref b44, .int 0])), (b34, .inl (cI, 5, .inl (fun _ => 0))), (b44, .inl (cI, 5, .inl (fun _ => 0))), (bt4, .inr (5, [.ref oc4, .ref e24, .ref e34, .ref e44, .int 0, .int (-1)])), (e24, .inl (cI, 5, .inl (fun _ => 0))), (e34, .inl (cI, 5, .inl (fun _ => 0))), (e44, .inl (cI, 5, .inl (fun _ => 0)))] := h
  have hq : True := hq
  refine lv_astore_n (lv' := [(1, .ref q0), (0, .ref b)]) hx hb dL_law_7 rfl hl (by decide) rfl (fun ls hl => ?_)
  refine r_new C h fk8 mk_RL_10 ma_RX8 mn_RX8 (fs := [.null, .int 0, .null, .int 0, .int 0, .int 0, .int 0, .int 0, .int 0, .int 0, .null, .null, .null, .null, .null, .int 0, .int 0, .null, .null, .int 0, .null, .int 0, .null, .null, .null, .int 0, .int 0, .int 0, .int 0, .null, .null, .null, .null, .long 0]) (by decide) ⟨Nat.le_of_ble_eq_true rfl, Nat.le_of_ble_eq_true rfl⟩ dL_law_8 (fun q8 H h => ?_)
  have h : HS D A s H locs [(q0, .inr (7, [.ref g04, .ref oc4, .ref on4, .ref os4, .ref ok4, .ref ov4, .ref fo4, .ref bo4, .int 0, .int 0, .int 0])), (g04, .inr (4, [.ref g14, .int 0])), (g14, .inl (cI, 24, .inl (fun _ => 0))), (oc4, .inr (1, [.ref c54, .ref c64, .int 0, .int 0])), (c54, .inl (cI, 5, .inl (fun _ => 0))), (c64, .inl (cI, 5, .inl (fun _ => 0))), (on4, .inr (5, [.ref oc4, .ref n24, .ref n34, .ref n44, .int 0, .int (-1)])), (n24, .inl (cI, 5, .inl (fun _ => 0))), (n34, .inl (cI, 5, .inl (fun _ => 0))), (n44, .inl (cI, 5, .inl (fun _ => 0))), (os4, .inr (6, [.ref s14, .ref s24, .ref s34, .int 0])), (s14, .inl (cI, 6, .inl (fun _ => 0))), (s24, .inl (cI, 6, .inl (fun _ => 0))), (s34, .inl (cZ, 6, .inl (fun _ => 0))), (ok4, .inr (5, [.ref oc4, .ref k24, .ref k34, .ref k44, .int 0, .int (-1)])), (k24, .inl (cI, 5, .inl (fun _ => 0))), (k34, .inl (cI, 5, .inl (fun _ => 0))), (k44, .inl (cI, 5, .inl (fun _ => 0))), (ov4, .inr (6, [.ref v14, .ref v24, .ref v34, .int 0])), (v14, .inl (cI, 6, .inl (fun _ => 0))), (v24, .inl (cI, 6, .inl (fun _ => 0))), (v34, .inl (cZ, 6, .inl (fun _ => 0))), (fo4, .inr (3, [.ref oc4, .ref on4, .ref os4, .ref ot4, .ref od4, .ref oo4, .ref oy4])), (od4, .inr (2, [.int 0])), (oo4, .inl (cI, 13, .inl (fun _ => 0))), (oy4, .inl (cI, 13, .inl (fun _ => 0))), (ot4, .inr (5, [.ref oc4, .ref t24, .ref t34, .ref t44, .int 0, .int (-1)])), (t24, .inl (cI, 5, .inl (fun _ => 0))), (t34, .inl (cI, 5, .inl (fun _ => 0))), (t44, .inl (cI, 5, .inl (fun _ => 0))), (bo4, .inr (0, [.ref oc4, .ref on4, .ref bt4, .ref b34, .ref b44, .int 0])), (b34, .inl (cI, 5, .inl (fun _ => 0))), (b44, .inl (cI, 5, .inl (fun _ => 0))), (bt4, .inr (5, [.ref oc4, .ref e24, .ref e34, .ref e44, .int 0, .int (-1)])), (e24, .inl (cI, 5, .inl (fun _ => 0))), (e34, .inl (cI, 5, .inl (fun _ => 0))), (e44, .inl (cI, 5, .inl (fun _ => 0))), (q8, .inr (8, [.null, .int 0, .null, .int 0, .int 0, .int 0, .int 0, .int 0, .int 0, .int 0, .null, .null, .null, .null, .null, .int 0, .int 0, .null, .null, .int 0, .null, .int 0, .null, .null, .null, .int 0, .int 0, .int 0, .int 0, .null, .null, .null, .null, .long 0]))] := h
  refine lv_dup hx hb dL_law_11 rfl ?_
  refine k_Iv (rest := [.ref q8]) (as := []) (wc := [(q8, .inr (8, [.null, .int 0, .null, .int 0, .int 0, .int 0, .int 0, .int 0, .int 0, .int 0, .null, .null, .null, .null, .null, .int 0, .int 0, .null, .null, .int 0, .null, .int 0, .null, .null, .null, .int 0, .int 0, .int 0, .int 0, .null, .null, .null, .null, .long 0]))]) (wr := [(q0, .inr (7, [.ref g04, .ref oc4, .ref on4, .ref os4, .ref ok4, .ref ov4, .ref fo4, .ref bo4, .int 0, .int 0, .int 0])), (g04, .inr (4, [.ref g14, .int 0])), (g14, .inl (cI, 24, .inl (fun _ => 0))), (oc4, .inr (1, [.ref c54, .ref c64, .int 0, .int 0])), (c54, .inl (cI, 5, .inl (fun _ => 0))), (c64, .inl (cI, 5, .inl (fun _ => 0))), (on4, .inr (5, [.ref oc4, .ref n24, .ref n34, .ref n44, .int 0, .int (-1)])), (n24, .inl (cI, 5, .inl (fun _ => 0))), (n34, .inl (cI, 5, .inl (fun _ => 0))), (n44, .inl (cI, 5, .inl (fun _ => 0))), (os4, .inr (6, [.ref s14, .ref s24, .ref s34, .int 0])), (s14, .inl (cI, 6, .inl (fun _ => 0))), (s24, .inl (cI, 6, .inl (fun _ => 0))), (s34, .inl (cZ, 6, .inl (fun _ => 0))), (ok4, .inr (5, [.ref oc4, .ref k24, .ref k34, .ref k44, .int 0, .int (-1)])), (k24, .inl (cI, 5, .inl (fun _ => 0))), (k34, .inl (cI, 5, .inl (fun _ => 0))), (k44, .inl (cI, 5, .inl (fun _ => 0))), (ov4, .inr (6, [.ref v14, .ref v24, .ref v34, .int 0])), (v14, .inl (cI, 6, .inl (fun _ => 0))), (v24, .inl (cI, 6, .inl (fun _ => 0))), (v34, .inl (cZ, 6, .inl (fun _ => 0))), (fo4, .inr (3, [.ref oc4, .ref on4, .ref os4, .ref ot4, .ref od4, .ref oo4, .ref oy4])), (od4, .inr (2, [.int 0])), (oo4, .inl (cI, 13, .inl (fun _ => 0))), (oy4, .inl (cI, 13, .inl (fun _ => 0))), (ot4, .inr (5, [.ref oc4, .ref t24, .ref t34, .ref t44, .int 0, .int (-1)])), (t24, .inl (cI, 5, .inl (fun _ => 0))), (t34, .inl (cI, 5, .inl (fun _ => 0))), (t44, .inl (cI, 5, .inl (fun _ => 0))), (bo4, .inr (0, [.ref oc4, .ref on4, .ref bt4, .ref b34, .ref b44, .int 0])), (b34, .inl (cI, 5, .inl (fun _ => 0))), (b44, .inl (cI, 5, .inl (fun _ => 0))), (bt4, .inr (5, [.ref oc4, .ref e24, .ref e34, .ref e44, .int 0, .int (-1)])), (e24, .inl (cI, 5, .inl (fun _ => 0))), (e34, .inl (cI, 5, .inl (fun _ => 0))), (e44, .inl (cI, 5, .inl (fun _ => 0)))]) (isC := [37]) (isR := [0, 1, 2, 3, 4, 5, 6, 7, 8, 9, 10, 11, 12, 13, 14, 15, 16, 17, 18, 19, 20, 21, 22, 23, 24, 25, 26, 27, 28, 29, 30, 31, 32, 33, 34, 35, 36]) (w2 := fun (u : Nat × Nat × Nat × Nat × Nat × Nat × Nat × Nat × Nat × Nat × Nat × Nat × Nat × Nat × Nat × Nat × Nat) => [(q0, .inr (7, [.ref g04, .ref oc4, .ref on4, .ref os4, .ref ok4, .ref ov4, .ref fo4, .ref bo4, .int 0, .int 0, .int 0])), (g04, .inr (4, [.ref g14, .int 0])), (g14, .inl (cI, 24, .inl (fun _ => 0))), (oc4, .inr (1, [.ref c54, .ref c64, .int 0, .int 0])), (c54, .inl (cI, 5, .inl (fun _ => 0))), (c64, .inl (cI, 5, .inl (fun _ => 0))), (on4, .inr (5, [.ref oc4, .ref n24, .ref n34, .ref n44, .int 0, .int (-1)])), (n24, .inl (cI, 5, .inl (fun _ => 0))), (n34, .inl (cI, 5, .inl (fun _ => 0))), (n44, .inl (cI, 5, .inl (fun _ => 0))), (os4, .inr (6, [.ref s14, .ref s24, .ref s34, .int 0])), (s14, .inl (cI, 6, .inl (fun _ => 0))), (s24, .inl (cI, 6, .inl (fun _ => 0))), (s34, .inl (cZ, 6, .inl (fun _ => 0))), (ok4, .inr (5, [.ref oc4, .ref k24, .ref k34, .ref k44, .int 0, .int (-1)])), (k24, .inl (cI, 5, .inl (fun _ => 0))), (k34, .inl (cI, 5, .inl (fun _ => 0))), (k44, .inl (cI, 5, .inl (fun _ => 0))), (ov4, .inr (6, [.ref v14, .ref v24, .ref v34, .int 0])), (v14, .inl (cI, 6, .inl (fun _ => 0))), (v24, .inl (cI, 6, .inl (fun _ => 0))), (v34, .inl (cZ, 6, .inl (fun _ => 0))), (fo4, .inr (3, [.ref oc4, .ref on4, .ref os4, .ref ot4, .ref od4, .ref oo4, .ref oy4])), (od4, .inr (2, [.int 0])), (oo4, .inl (cI, 13, .inl (fun _ => 0))), (oy4, .inl (cI, 13, .inl (fun _ => 0))), (ot4, .inr (5, [.ref oc4, .ref t24, .ref t34, .ref t44, .int 0, .int (-1)])), (t24, .inl (cI, 5, .inl (fun _ => 0))), (t34, .inl (cI, 5, .inl (fun _ => 0))), (t44, .inl (cI, 5, .inl (fun _ => 0))), (bo4, .inr (0, [.ref oc4, .ref on4, .ref bt4, .ref b34, .ref b44, .int 0])), (b34, .inl (cI, 5, .inl (fun _ => 0))), (b44, .inl (cI, 5, .inl (fun _ => 0))), (bt4, .inr (5, [.ref oc4, .ref e24, .ref e34, .ref e44, .int 0, .int (-1)])), (e24, .inl (cI, 5, .inl (fun _ => 0))), (e34, .inl (cI, 5, .inl (fun _ => 0))), (e44, .inl (cI, 5, .inl (fun _ => 0))), (q8, .inr (8, [.ref u.1, .int 0, .ref u.2.1, .int 0, .int 0, .int 0, .int 0, .int 0, .int 0, .int 0, .ref u.2.2.1, .ref u.2.2.2.1, .ref u.2.2.2.2.1, .ref u.2.2.2.2.2.1, .ref u.2.2.2.2.2.2.1, .int 0, .int 0, .ref u.2.2.2.2.2.2.2.1, .ref u.2.2.2.2.2.2.2.2.1, .int 0, .ref u.2.2.2.2.2.2.2.2.2.1, .int 0, .ref u.2.2.2.2.2.2.2.2.2.2.1, .ref u.2.2.2.2.2.2.2.2.2.2.2.1, .ref u.2.2.2.2.2.2.2.2.2.2.2.2.1, .int 0, .int (-1), .int 0, .int 0, .ref u.2.2.2.2.2.2.2.2.2.2.2.2.2.1, .ref u.2.2.2.2.2.2.2.2.2.2.2.2.2.2.1, .ref u.2.2.2.2.2.2.2.2.2.2.2.2.2.2.2.1, .ref u.2.2.2.2.2.2.2.2.2.2.2.2.2.2.2.2, .long 0])), (u.1, .inl (cI, 24, .inl (fun _ => 0))), (u.2.1, .inl (cI, 15, .inl (fun _ => 0))), (u.2.2.1, .inl (cI, 5, .inl (fun _ => 0))), (u.2.2.2.1, .inl (cI, 5, .inl (fun _ => 0))), (u.2.2.2.2.1, .inl (cI, 5, .inl (fun _ => 0))), (u.2.2.2.2.2.1, .inl (cI, 5, .inl (fun _ => 0))), (u.2.2.2.2.2.2.1, .inl (cI, 5, .inl (fun _ => 0))), (u.2.2.2.2.2.2.2.1, .inl (cI, 5, .inl (fun _ => 0))), (u.2.2.2.2.2.2.2.2.1, .inl (cI, 5, .inl (fun _ => 0))), (u.2.2.2.2.2.2.2.2.2.1, .inl (cI, 5, .inl (fun _ => 0))), (u.2.2.2.2.2.2.2.2.2.2.1, .inl (cI, 18, .inl (fun _ => 0))), (u.2.2.2.2.2.2.2.2.2.2.2.1, .inl (cI, 13, .inl (fun _ => 0))), (u.2.2.2.2.2.2.2.2.2.2.2.2.1, .inl (cI, 13, .inl (fun _ => 0))), (u.2.2.2.2.2.2.2.2.2.2.2.2.2.1, .inl (cI, 5, .inl (fun _ => 0))), (u.2.2.2.2.2.2.2.2.2.2.2.2.2.2.1, .inl (cI, 5, .inl (fun _ => 0))), (u.2.2.2.2.2.2.2.2.2.2.2.2.2.2.2.1, .inl (cI, 5, .inl (fun _ => 0))), (u.2.2.2.2.2.2.2.2.2.2.2.2.2.2.2.2, .inl (cI, 18, .inl (fun _ => 0)))]) C h (c_X8_init l D cI cZ kS vS q8 ) wv_X8_init rfl ⟨rfl, rfl, rfl, rfl, by decide⟩ ml_RL_12 [0, 1, 2, 3, 4, 5, 6, 7, 8, 9, 10, 11, 12, 13, 14, 15, 16, 17, 18, 19, 20, 21, 22, 23, 24, 25, 26, 27, 28, 29, 30, 31, 32, 33, 34, 35, 36, 37, 38, 39, 40, 41, 42, 43, 44, 45, 46, 47, 48, 49, 50, 51, 52, 53, 54] rfl (fun _ => rfl) ⟨Nat.le_of_ble_eq_true rfl, Nat.le_of_ble_eq_true rfl⟩ ⟨Nat.le_of_ble_eq_true rfl, Nat.le_of_ble_eq_true rfl⟩ (Nat.le_of_ble_eq_true rfl) hl rfl dL_law_12 (fun u H locs hq h => ?_)
  obtain ⟨p112, p212, p312, p412, p512, p612, p712, p812, p912, p1012, p1112, p1212, p1312, p1412, p1512, p1612, p1712⟩ := u
  have h : HS D A s H locs [(q0, .inr (7, [.ref g04, .ref oc4, .ref on4, .ref os4, .ref ok4, .ref ov4, .ref fo4, .ref bo4, .int 0, .int 0, .int 0])), (g04, .inr (4, [.ref g14, .int 0])), (g14, .inl (cI, 24, .inl (fun _ => 0))), (oc4, .inr (1, [.ref c54, .ref c64, .int 0, .int 0])), (c54, .inl (cI, 5, .inl (fun _ => 0))), (c64, .inl (cI, 5, .inl (fun _ => 0))), (on4, .inr (5, [.ref oc4, .ref n24, .ref n34, .ref n44, .int 0, .int (-1)])), (n24, .inl (cI, 5, .inl (fun _ => 0))), (n34, .inl (cI, 5, .inl (fun _ => 0))), (n44, .inl (cI, 5, .inl (fun _ => 0))), (os4, .inr (6, [.ref s14, .ref s24, .ref s34, .int 0])), (s14, .inl (cI, 6, .inl (fun _ => 0))), (s24, .inl (cI, 6, .inl (fun _ => 0))), (s34, .inl (cZ, 6, .inl (fun _ => 0))), (ok4, .inr (5, [.ref oc4, .ref k24, .ref k34, .ref k44, .int 0, .int (-1)])), (k24, .inl (cI, 5, .inl (fun _ => 0))), (k34, .inl (cI, 5, .inl (fun _ => 0))), (k44, .inl (cI, 5, .inl (fun _ => 0))), (ov4, .inr (6, [.ref v14, .ref v24, .ref v34, .int 0])), (v14, .inl (cI, 6, .inl (fun _ => 0))), (v24, .inl (cI, 6, .inl (fun _ => 0))), (v34, .inl (cZ, 6, .inl (fun _ => 0))), (fo4, .inr (3, [.ref oc4, .ref on4, .ref os4, .ref ot4, .ref od4, .ref oo4, .ref oy4])), (od4, .inr (2, [.int 0])), (oo4, .inl (cI, 13, .inl (fun _ => 0))), (oy4, .inl (cI, 13, .inl (fun _ => 0))), (ot4, .inr (5, [.ref oc4, .ref t24, .ref t34, .ref t44, .int 0, .int (-1)])), (t24, .inl (cI, 5, .inl (fun _ => 0))), (t34, .inl (cI, 5, .inl (fun _ => 0))), (t44, .inl (cI, 5, .inl (fun _ => 0))), (bo4, .inr (0, [.ref oc4, .ref on4, .ref bt4, .ref b34, .ref b44, .int 0])), (b34, .inl (cI, 5, .inl (fun _ => 0))), (b44, .inl (cI, 5, .inl (fun _ => 0))), (bt4, .inr (5, [.ref oc4, .ref e24, .ref e34, .ref e44, .int 0, .int (-1)])), (e24, .inl (cI, 5, .inl (fun _ => 0))), (e34, .inl (cI, 5, .inl (fun _ => 0))), (e44, .inl (cI, 5, .inl (fun _ => 0))), (q8, .inr (8, [.ref p112, .int 0, .ref p212, .int 0, .int 0, .int 0, .int 0, .int 0, .int 0, .int 0, .ref p312, .ref p412, .ref p512, .ref p612, .ref p712, .int 0, .int 0, .ref p812, .ref p912, .int 0, .ref p1012, .int 0, .ref p1112, .ref p1212, .ref p1312, .int 0, .int (-1), .int 0, .int 0, .ref p1412, .ref p1512, .ref p1612, .ref p1712, .long 0])), (p112, .inl (cI, 24, .inl (fun _ => 0))), (p212, .inl (cI, 15, .inl (fun _ => 0))), (p312, .inl (cI, 5, .inl (fun _ => 0))), (p412, .inl (cI, 5, .inl (fun _ => 0))), (p512, .inl (cI, 5, .inl (fun _ => 0))), (p612, .inl (cI, 5, .inl (fun _ => 0))), (p712, .inl (cI, 5, .inl (fun _ => 0))), (p812, .inl (cI, 5, .inl (fun _ => 0))), (p912, .inl (cI, 5, .inl (fun _ => 0))), (p1012, .inl (cI, 5, .inl (fun _ => 0))), (p1112, .inl (cI, 18, .inl (fun _ => 0))), (p1212, .inl (cI, 13, .inl (fun _ => 0))), (p1312, .inl (cI, 13, .inl (fun _ => 0))), (p1412, .inl (cI, 5, .inl (fun _ => 0))), (p1512, .inl (cI, 5, .inl (fun _ => 0))), (p1612, .inl (cI, 5, .inl (fun _ => 0))), (p1712, .inl (cI, 18, .inl (fun _ => 0)))] := h
  have hq : True := hq
  refine lv_astore_n (lv' := [(2, .ref q8), (1, .ref q0), (0, .ref b)]) hx hb dL_law_15 rfl hl (by decide) rfl (fun ls hl => ?_)
  refine lv_iconst (v := 0) hx hb dL_law_16 (by decide) ?_
  refine lv_istore_n (lv' := [(3, .int 0), (2, .ref q8), (1, .ref q0), (0, .ref b)]) hx hb dL_law_17 rfl hl (by decide) rfl (fun ls hl => ?_)
  have h := h.arr 2 (g := ro (fun _ => 0)) rfl (fun j _ => rfl) rfl
  have h := h.arr 9 (g := ro (fun _ => 0)) rfl (fun j _ => rfl) rfl
  have h := h.arr 11 (g := ro (fun _ => 0)) rfl (fun j _ => rfl) rfl
  have h := h.arr 12 (g := ro (fun _ => 0)) rfl (fun j _ => rfl) rfl
  have h := h.arr 17 (g := ro (fun _ => 0)) rfl (fun j _ => rfl) rfl
  have h := h.arr 19 (g := ro (fun _ => 0)) rfl (fun j _ => rfl) rfl
  have h := h.arr 20 (g := ro (fun _ => 0)) rfl (fun j _ => rfl) rfl
  have h := h.arr 31 (g := ro (fun _ => 0)) rfl (fun j _ => rfl) rfl
  have h := h.arr 38 (g := ro (fun _ => 0)) rfl (fun j _ => rfl) rfl
  have h := h.arr 43 (g := ro (fun _ => 0)) rfl (fun j _ => rfl) rfl
  have h := h.arr 48 (g := sgt (fun _ => 0) (fun _ => 0) (fun _ => 0)) rfl (sgt_z) rfl
  have h := h.arr 52 (g := ro (fun _ => 0)) rfl (fun j _ => rfl) rfl
  have h := h.arr 54 (g := sgt (fun _ => 0) (fun _ => 0) (fun _ => 0)) rfl (sgt_z) rfl
  exact law_loop C hX hbl hbA hL hret (L + 1) 0 (by omega) (Nat.zero_le L) 0 0 0 0 0 (fun _ => 0) (fun _ => 0) (fun _ => 0) (fun _ => 0) (fun _ => 0) (fun _ => 0) (fun _ => 0) (fun _ => 0) (fun _ => 0) (fun _ => 0) (fun _ => 0) 0 0 0 (-1) 0 (-1) (fun _ => 0) (fun _ => 0) 0 (-1) (fun _ => 0) (fun _ => 0) 0 (-1) (fun _ => 0) (fun _ => 0) (fun _ => 0) 0 (fun _ => 0) (fun _ => 0) 0 0 (-1) (fun _ => 0) (fun _ => 0) (fun _ => 0) (fun _ => 0) (fun _ => 0) 0 0 0 0 0 0 0 (fun _ => 0) (fun _ => 0) (fun _ => 0) (fun _ => 0) (fun _ => 0) (fun _ => 0) INV.zero _ _ _ h (lv_sub hl [3, 2, 1, 0] rfl)
