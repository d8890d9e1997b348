/-! ===== the law: what the Statement gives at its entry ===== -/
section Start
theorem in_tb {w : Cond} (i : Nat) (h : tables_1[i]? = some w) : w ∈ lw_tbl := List.mem_append_right _ (List.mem_of_getElem? h)
theorem nw_f0 : Cond.fieldLinkNest "RiversQueue" 228 "RiversQueue$Page" "letters" "[I" "RiversQueue" ∈ lw_tbl := in_tb 33 (by decide +kernel)
theorem nw_f1 : Cond.fieldLinkNest "RiversQueue" 213 "RiversQueue$Page" "size" "I" "RiversQueue" ∈ lw_tbl := in_tb 35 (by decide +kernel)
theorem nw_f2 : Cond.fieldLinkNest "RiversQueue" 108 "RiversQueue$Coast" "kinds" "[I" "RiversQueue" ∈ lw_tbl := in_tb 49 (by decide +kernel)
theorem nw_f3 : Cond.fieldLinkNest "RiversQueue$Shore" 83 "RiversQueue$Coast" "kinds" "[I" "RiversQueue" ∈ lw_tbl := in_tb 50 (by decide +kernel)
theorem nw_f4 : Cond.fieldLinkNest "RiversQueue" 115 "RiversQueue$Coast" "flows" "[I" "RiversQueue" ∈ lw_tbl := in_tb 52 (by decide +kernel)
theorem nw_f5 : Cond.fieldLinkNest "RiversQueue$Shore" 53 "RiversQueue$Coast" "flows" "[I" "RiversQueue" ∈ lw_tbl := in_tb 53 (by decide +kernel)
theorem nw_f6 : Cond.fieldLinkNest "RiversQueue$Shore" 29 "RiversQueue$Coast" "rivers" "I" "RiversQueue" ∈ lw_tbl := in_tb 54 (by decide +kernel)
theorem nw_f7 : Cond.fieldLinkNest "RiversQueue$BestOrder" 34 "RiversQueue$Coast" "rivers" "I" "RiversQueue" ∈ lw_tbl := in_tb 55 (by decide +kernel)
theorem nw_f8 : Cond.fieldLinkNest "RiversQueue" 101 "RiversQueue$Coast" "rivers" "I" "RiversQueue" ∈ lw_tbl := in_tb 57 (by decide +kernel)
theorem nw_f9 : Cond.fieldLinkNest "RiversQueue$Forecast" 83 "RiversQueue$Coast" "rivers" "I" "RiversQueue" ∈ lw_tbl := in_tb 58 (by decide +kernel)
theorem nw_f10 : Cond.fieldLinkNest "RiversQueue$Shore" 86 "RiversQueue$Coast" "bar" "I" "RiversQueue" ∈ lw_tbl := in_tb 60 (by decide +kernel)
theorem nw_f11 : Cond.fieldLinkNest "RiversQueue" 204 "RiversQueue$Coast" "bar" "I" "RiversQueue" ∈ lw_tbl := in_tb 61 (by decide +kernel)
theorem nw_f12 : Cond.fieldLinkNest "RiversQueue" 112 "RiversQueue$Shore" "water" "[I" "RiversQueue" ∈ lw_tbl := in_tb 79 (by decide +kernel)
theorem nw_f13 : Cond.fieldLinkNest "RiversQueue$Forecast" 97 "RiversQueue$Shore" "water" "[I" "RiversQueue" ∈ lw_tbl := in_tb 80 (by decide +kernel)
theorem nw_f14 : Cond.fieldLinkNest "RiversQueue" 121 "RiversQueue$Shore" "took" "[I" "RiversQueue" ∈ lw_tbl := in_tb 82 (by decide +kernel)
theorem nw_f15 : Cond.fieldLinkNest "RiversQueue$BestOrder" 65 "RiversQueue$Shore" "row" "[I" "RiversQueue" ∈ lw_tbl := in_tb 84 (by decide +kernel)
theorem nw_f16 : Cond.fieldLinkNest "RiversQueue" 137 "RiversQueue$Shore" "row" "[I" "RiversQueue" ∈ lw_tbl := in_tb 85 (by decide +kernel)
theorem nw_f17 : Cond.fieldLinkNest "RiversQueue" 201 "RiversQueue$Shore" "hours" "I" "RiversQueue" ∈ lw_tbl := in_tb 87 (by decide +kernel)
theorem nw_f18 : Cond.fieldLinkNest "RiversQueue$Forecast" 53 "RiversQueue$Shore" "takenOf" "I" "RiversQueue" ∈ lw_tbl := in_tb 89 (by decide +kernel)
theorem nw_f19 : Cond.fieldLinkNest "RiversQueue" 210 "RiversQueue$Sightings" "size" "I" "RiversQueue" ∈ lw_tbl := in_tb 113 (by decide +kernel)
theorem nw_f20 : Cond.fieldLinkNest "RiversQueue$Forecast" 77 "RiversQueue$Draws" "seed" "I" "RiversQueue" ∈ lw_tbl := in_tb 137 (by decide +kernel)
theorem nw_f21 : Cond.fieldLinkNest "RiversQueue" 189 "RiversQueue$Draws" "seed" "I" "RiversQueue" ∈ lw_tbl := in_tb 138 (by decide +kernel)
theorem nw_f22 : Cond.fieldLinkNest "RiversQueue" 179 "RiversQueue$Forecast" "trial" "LRiversQueue$Shore;" "RiversQueue" ∈ lw_tbl := in_tb 148 (by decide +kernel)
theorem nw_f23 : Cond.fieldLinkNest "RiversQueue" 185 "RiversQueue$Forecast" "draws" "LRiversQueue$Draws;" "RiversQueue" ∈ lw_tbl := in_tb 150 (by decide +kernel)
theorem nw_f24 : Cond.fieldLinkNest "RiversQueue" 168 "RiversQueue$BestOrder" "found" "[I" "RiversQueue" ∈ lw_tbl := in_tb 181 (by decide +kernel)
theorem nw_f25 : Cond.fieldLinkNest "RiversQueue" 165 "RiversQueue$BestOrder" "least" "I" "RiversQueue" ∈ lw_tbl := in_tb 183 (by decide +kernel)
theorem nw_m0 : Cond.methodLinkNest "RiversQueue" 9 yX4_init "RiversQueue" ∈ lw_tbl := in_tb 28 (by decide +kernel)
theorem nw_m1 : Cond.methodLinkNest "RiversQueue" 18 yX1_init "RiversQueue" ∈ lw_tbl := in_tb 44 (by decide +kernel)
theorem nw_m2 : Cond.methodLinkNest "RiversQueue" 34 yX6_init "RiversQueue" ∈ lw_tbl := in_tb 105 (by decide +kernel)
theorem nw_m3 : Cond.methodLinkNest "RiversQueue$Forecast" 11 yX2_init "RiversQueue" ∈ lw_tbl := in_tb 132 (by decide +kernel)
theorem nw_m4 : Cond.methodLinkNest "RiversQueue$Page" 45 yX7_within "RiversQueue" ∈ lw_tbl := in_tb 275 (by decide +kernel)
theorem nwF_in : ∀ q ∈ nwF, Cond.fieldLinkNest q.1 q.2.1 q.2.2.1 q.2.2.2.1 q.2.2.2.2.1 q.2.2.2.2.2 ∈ lw_tbl := List.forall_mem_cons.mpr ⟨nw_f0, List.forall_mem_cons.mpr ⟨nw_f1, List.forall_mem_cons.mpr ⟨nw_f2, List.forall_mem_cons.mpr ⟨nw_f3, List.forall_mem_cons.mpr ⟨nw_f4, List.forall_mem_cons.mpr ⟨nw_f5, List.forall_mem_cons.mpr ⟨nw_f6, List.forall_mem_cons.mpr ⟨nw_f7, List.forall_mem_cons.mpr ⟨nw_f8, List.forall_mem_cons.mpr ⟨nw_f9, List.forall_mem_cons.mpr ⟨nw_f10, List.forall_mem_cons.mpr ⟨nw_f11, List.forall_mem_cons.mpr ⟨nw_f12, List.forall_mem_cons.mpr ⟨nw_f13, List.forall_mem_cons.mpr ⟨nw_f14, List.forall_mem_cons.mpr ⟨nw_f15, List.forall_mem_cons.mpr ⟨nw_f16, List.forall_mem_cons.mpr ⟨nw_f17, List.forall_mem_cons.mpr ⟨nw_f18, List.forall_mem_cons.mpr ⟨nw_f19, List.forall_mem_cons.mpr ⟨nw_f20, List.forall_mem_cons.mpr ⟨nw_f21, List.forall_mem_cons.mpr ⟨nw_f22, List.forall_mem_cons.mpr ⟨nw_f23, List.forall_mem_cons.mpr ⟨nw_f24, List.forall_mem_cons.mpr ⟨nw_f25, fun _ h => absurd h List.not_mem_nil⟩⟩⟩⟩⟩⟩⟩⟩⟩⟩⟩⟩⟩⟩⟩⟩⟩⟩⟩⟩⟩⟩⟩⟩⟩⟩
theorem nwM_in : ∀ q ∈ nwM, Cond.methodLinkNest q.1 q.2.1 q.2.2.1 q.2.2.2 ∈ lw_tbl := List.forall_mem_cons.mpr ⟨nw_m0, List.forall_mem_cons.mpr ⟨nw_m1, List.forall_mem_cons.mpr ⟨nw_m2, List.forall_mem_cons.mpr ⟨nw_m3, List.forall_mem_cons.mpr ⟨nw_m4, fun _ h => absurd h List.not_mem_nil⟩⟩⟩⟩⟩
theorem ts_str : Cond.stringRef "RiversQueue$Page" 34 "rfbot" ∈ lw_tbl := in_tb 276 (by decide +kernel)
theorem ts_cmp : Cond.laysStatic "java/lang/String" "COMPACT_STRINGS" "Z" ∈ lw_tbl := in_tb 290 (by decide +kernel)
theorem ts_ini : Cond.initialized "java/lang/String" ∈ lw_tbl := in_tb 10 (by decide +kernel)
theorem law_arr {s : State} {args : Array Value} {ty : FieldType} (h : (Cond.arrayClass ty).before args s = true) (hr : ∀ cA : ClassId, s.vm.findClass ("[" ++ ty.toString) = some cA → va_RA s cA ty) : ∃ cA : ClassId, ArrOfT s cA ty ∧ va_RA s cA ty := by
  obtain ⟨cA, kA, comp, h1, h2, h3⟩ := Cond.arrayClass_spec h
  exact ⟨cA, fun n z => ⟨fun k h => (by cases h), kA, h2, comp, h3⟩, hr cA h1⟩
theorem law_str {args : Array Value} {s : State} (hts : ∀ w ∈ lw_tbl, w.before args s = true) (hgv : (Jvm.Cond.and given_1 narrow_1).before args s = true) : ∃ kS vS : Nat, SX kS vS (fun q => s.heap.size ≤ q) s s.heap := by
  have hs := flat_of_before _ hgv
  have hA : ∀ a : Nat, a < s.heap.size → ¬ (fun q : Nat => s.heap.size ≤ q) a := fun a z => Nat.not_le.mpr z
  obtain ⟨adK, adV, hZ, hE⟩ := vk_Sof (args := args) (s := s) (N := 1) (tm := fun _ => (Term.string "RiversQueue$Page" 34)) (len := [5]) (byt := [[114, 102, 98, 111, 116]]) (A := fun q => s.heap.size ≤ q)
    (fun i hi => by rcases (show i = 0 by omega) with rfl; decide)
    (fun i hi => hs _ (by decide +kernel)) (fun i hi => hs _ (by decide +kernel)) (fun i hi => hs _ (by decide +kernel))
    (fun i hi => by rcases (show i = 0 by omega) with rfl; exact hs _ (by decide +kernel))
    (fun i hi j hj => by
      rcases (show i = 0 by omega) with rfl
      have hj5 : j < 5 := hj
      rcases (show j = 0 ∨ j = 1 ∨ j = 2 ∨ j = 3 ∨ j = 4 by omega) with rfl | rfl | rfl | rfl | rfl <;> exact hs _ (by decide +kernel))
    (fun i j hi hj hij => absurd (show i = j by omega) hij) hA
  refine ⟨adK 0, adV 0, vk_R.of (hts _ ts_str) (hE 0 (by decide)), ⟨fun i hi => ?_, fun i j hi hj _ => by omega⟩, va_Zof (hts _ ts_cmp) (hts _ ts_ini) (va_eqi (hs _ (by decide +kernel))) hA⟩
  rcases (show i = 0 by omega) with rfl
  exact hZ.1 0 (by decide)
theorem law_world {p : Program} {s : State} {m : MethodId} {args : Array Value} {c : Code} (hx : p.tables.exec = Jvm.exec) (hb : c.code = code) (hml : c.maxLocals = 4) (hown : s.vm.findClass RL = some m.cls) (hts : ∀ w ∈ lw_tbl, w.before args s = true) (hgv : (Jvm.Cond.and given_1 narrow_1).before args s = true) : ∃ (D : va_G) (cI cZ : ClassId) (kS vS : Nat), CX p s m args c code 4 RL D cI cZ kS vS (fun q => s.heap.size ≤ q) := by
  have htl : ∀ w ∈ wsL_law, w.before args s = true := fun w h => hts w (wsL_law_in w h)
  obtain ⟨c0, iS0, hKn0⟩ := u_known (C := RX0) (T := TX0) (N := 6) (n := 6) htl inlX0 (htl _ ma_RX0)
  obtain ⟨c1, iS1, hKn1⟩ := u_known (C := RX1) (T := TX1) (N := 4) (n := 4) htl inlX1 (htl _ ma_RX1)
  obtain ⟨c2, iS2, hKn2⟩ := u_known (C := RX2) (T := TX2) (N := 1) (n := 1) htl inlX2 (htl _ ma_RX2)
  obtain ⟨c3, iS3, hKn3⟩ := u_known (C := RX3) (T := TX3) (N := 7) (n := 7) htl inlX3 (htl _ ma_RX3)
  obtain ⟨c4, iS4, hKn4⟩ := u_known (C := RX4) (T := TX4) (N := 2) (n := 2) htl inlX4 (htl _ ma_RX4)
  obtain ⟨c5, iS5, hKn5⟩ := u_known (C := RX5) (T := TX5) (N := 6) (n := 6) htl inlX5 (htl _ ma_RX5)
  obtain ⟨c6, iS6, hKn6⟩ := u_known (C := RX6) (T := TX6) (N := 4) (n := 4) htl inlX6 (htl _ ma_RX6)
  obtain ⟨c7, iS7, hKn7⟩ := u_known (C := RX7) (T := TX7) (N := 11) (n := 11) htl inlX7 (htl _ ma_RX7)
  obtain ⟨c8, iS8, hKn8⟩ := u_known (C := RX8) (T := TX8) (N := 34) (n := 34) htl inlX8 (htl _ ma_RX8)
  obtain ⟨cI, hI1, hI2⟩ := law_arr (htl _ my_int) (fun _ h => h)
  obtain ⟨cZ, hZ1, hZ2⟩ := law_arr (htl _ my_boolean) (fun _ h => h)
  obtain ⟨kS, vS, hS⟩ := law_str hts hgv
  refine ⟨(fun k => if k = 0 then c0 else if k = 1 then c1 else if k = 2 then c2 else if k = 3 then c3 else if k = 4 then c4 else if k = 5 then c5 else if k = 6 then c6 else if k = 7 then c7 else c8, fun k => if k = 0 then iS0 else if k = 1 then iS1 else if k = 2 then iS2 else if k = 3 then iS3 else if k = 4 then iS4 else if k = 5 then iS5 else if k = 6 then iS6 else if k = 7 then iS7 else iS8), cI, cZ, kS, vS, ⟨hx, hb, hml, hown, htl⟩, ⟨?_, ?_⟩, ⟨fun q hq => va_Nw.of rfl (hts _ (nwF_in q hq)), fun q hq => va_Nw.of rfl (hts _ (nwM_in q hq))⟩, hS, fun _ h => h⟩
  · intro k q hq
    match k, hq with
    | 0, hq => cases hq; exact hKn0
    | 1, hq => cases hq; exact hKn1
    | 2, hq => cases hq; exact hKn2
    | 3, hq => cases hq; exact hKn3
    | 4, hq => cases hq; exact hKn4
    | 5, hq => cases hq; exact hKn5
    | 6, hq => cases hq; exact hKn6
    | 7, hq => cases hq; exact hKn7
    | 8, hq => cases hq; exact hKn8
    | k + 9, hq => simp [vwCl] at hq
  · intro k q hq
    match k, hq with
    | 0, hq => cases hq; exact ⟨hI1, hI2⟩
    | 1, hq => cases hq; exact ⟨hZ1, hZ2⟩
    | k + 2, hq => simp [TY] at hq
end Start
