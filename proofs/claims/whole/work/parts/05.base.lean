/-! ===== base: the fixed part of a walk, contracts, calls ===== -/
section Base
def nwF : List (String × Nat × String × String × String × String) := [("RiversQueue", 228, "RiversQueue$Page", "letters", "[I", "RiversQueue"), ("RiversQueue", 213, "RiversQueue$Page", "size", "I", "RiversQueue"), ("RiversQueue", 108, "RiversQueue$Coast", "kinds", "[I", "RiversQueue"), ("RiversQueue$Shore", 83, "RiversQueue$Coast", "kinds", "[I", "RiversQueue"), ("RiversQueue", 115, "RiversQueue$Coast", "flows", "[I", "RiversQueue"), ("RiversQueue$Shore", 53, "RiversQueue$Coast", "flows", "[I", "RiversQueue"), ("RiversQueue$Shore", 29, "RiversQueue$Coast", "rivers", "I", "RiversQueue"), ("RiversQueue$BestOrder", 34, "RiversQueue$Coast", "rivers", "I", "RiversQueue"), ("RiversQueue", 101, "RiversQueue$Coast", "rivers", "I", "RiversQueue"), ("RiversQueue$Forecast", 83, "RiversQueue$Coast", "rivers", "I", "RiversQueue"), ("RiversQueue$Shore", 86, "RiversQueue$Coast", "bar", "I", "RiversQueue"), ("RiversQueue", 204, "RiversQueue$Coast", "bar", "I", "RiversQueue"), ("RiversQueue", 112, "RiversQueue$Shore", "water", "[I", "RiversQueue"), ("RiversQueue$Forecast", 97, "RiversQueue$Shore", "water", "[I", "RiversQueue"), ("RiversQueue", 121, "RiversQueue$Shore", "took", "[I", "RiversQueue"), ("RiversQueue$BestOrder", 65, "RiversQueue$Shore", "row", "[I", "RiversQueue"), ("RiversQueue", 137, "RiversQueue$Shore", "row", "[I", "RiversQueue"), ("RiversQueue", 201, "RiversQueue$Shore", "hours", "I", "RiversQueue"), ("RiversQueue$Forecast", 53, "RiversQueue$Shore", "takenOf", "I", "RiversQueue"), ("RiversQueue", 210, "RiversQueue$Sightings", "size", "I", "RiversQueue"), ("RiversQueue$Forecast", 77, "RiversQueue$Draws", "seed", "I", "RiversQueue"), ("RiversQueue", 189, "RiversQueue$Draws", "seed", "I", "RiversQueue"), ("RiversQueue", 179, "RiversQueue$Forecast", "trial", "LRiversQueue$Shore;", "RiversQueue"), ("RiversQueue", 185, "RiversQueue$Forecast", "draws", "LRiversQueue$Draws;", "RiversQueue"), ("RiversQueue", 168, "RiversQueue$BestOrder", "found", "[I", "RiversQueue"), ("RiversQueue", 165, "RiversQueue$BestOrder", "least", "I", "RiversQueue")]
def nwM : List (String × Nat × MethodName × String) := [("RiversQueue", 9, yX4_init, "RiversQueue"), ("RiversQueue", 18, yX1_init, "RiversQueue"), ("RiversQueue", 34, yX6_init, "RiversQueue"), ("RiversQueue$Forecast", 11, yX2_init, "RiversQueue"), ("RiversQueue$Page", 45, yX7_within, "RiversQueue")]
def NW (U : State) : Prop := (∀ q ∈ nwF, va_Nw (.fieldLinkNest q.1 q.2.1 q.2.2.1 q.2.2.2.1 q.2.2.2.2.1 q.2.2.2.2.2) U) ∧ (∀ q ∈ nwM, va_Nw (.methodLinkNest q.1 q.2.1 q.2.2.1 q.2.2.2) U)
theorem NW.warm {s U : State} (hW : s.WarmedH U.vm) (h : NW s) : NW U := ⟨fun q hq => va_Nw.warmF hW (h.1 q hq), fun q hq => va_Nw.warmM hW (h.2 q hq)⟩
theorem NW.same {u U : State} (hv : u.vm = U.vm) (h : NW u) : NW U := ⟨fun q hq => va_Nw.same rfl hv (h.1 q hq), fun q hq => va_Nw.same rfl hv (h.2 q hq)⟩
/-- the one String constant, and String's own static -/
def SX (kS vS : Nat) (A : Nat → Prop) (U : State) (H : Heap) : Prop := vk_R RX4 34 "rfbot" kS U ∧ vk_S 1 [5] [[114, 102, 98, 111, 116]] (fun _ => kS) (fun _ => vS) A U H ∧ va_Z "java/lang/String" "COMPACT_STRINGS" "Z" (.int 1) A U H
theorem SX.call {kS vS : Nat} {A B : Nat → Prop} {s U : State} {H : Heap} {locs : List Loc} (h : SX kS vS A s s.heap) (hS : va_S A s.heap H locs) (hAB : ∀ q, B q → A q) (hU : U.heap = H) (hW : s.WarmedH U.vm) : SX kS vS B U U.heap := by
  obtain ⟨h1, h2, h3⟩ := h
  have kp : ∀ a : Nat, a < s.heap.size → ¬ A a → U.heap[a]? = s.heap[a]? := fun a g1 g2 => by rw [hU]; exact hS.2.1 a g1 g2
  exact ⟨h1.warm hW, ((h2.moved hW.alike).kept kp).narrow hAB, ((h3.moved hW.alike).kept kp).narrow hAB⟩
theorem SX.calling {kS vS : Nat} {A : Nat → Prop} {U V : State} (hv : V.vm = U.vm) (hh : V.heap = U.heap) (h : SX kS vS A U U.heap) : SX kS vS A V V.heap := by
  obtain ⟨h1, h2, h3⟩ := h
  rw [hh]
  have e : U.vm.Alike V.vm := by rw [hv]; exact Vm.Alike.refl U.vm
  exact ⟨h1.same hv, h2.moved e, h3.moved e⟩
abbrev TY (cI cZ : ClassId) : List (ClassId × FieldType) := [(cI, .int), (cZ, .boolean)]
def HS (D : va_G) (A : Nat → Prop) (s : State) (H : Heap) (locs : List Loc) (ws : va_W) : Prop := va_P D vwCl ws H ∧ va_D A ws ∧ va_S A s.heap H locs
def CX (p : Program) (s : State) (m : MethodId) (args : Array Value) (c : Code) (cc : ByteArray) (nL : Nat) (own : String) (D : va_G) (cI cZ : ClassId) (kS vS : Nat) (A : Nat → Prop) : Prop :=
  CallFix p m c cc nL s args wsL_law own ∧ va_K D vwCl (TY cI cZ) s ∧ NW s ∧ SX kS vS A s s.heap ∧ ∀ q, s.heap.size ≤ q → A q
def Pr (D : va_G) (cI cZ : ClassId) (kS vS : Nat) (ws : va_W) (sz : Nat) (U : State) : Prop := U.heap.size = sz ∧ va_P D vwCl ws U.heap ∧ va_K D vwCl (TY cI cZ) U ∧ va_D (fun _ => True) ws ∧ NW U ∧ SX kS vS (va_A ws sz) U U.heap
def Po (D : va_G) (ws : va_W) (A : Nat → Prop) (t : State) : Prop := va_P D vwCl ws t.heap ∧ va_D A ws
abbrev rmO (fr lo mc ms : Nat) : Room := { frames := fr, cells := mc, slots := ms, locals := lo }
/-- a contract whose answer is an int or a boolean -/
def CI {S : Type} (l : Launch) (y : MethodName) (cc : ByteArray) (nL : Nat) (ty : FieldType) (D : va_G) (cI cZ : ClassId) (kS vS : Nat) (fr lo mc ms : Nat) (as : List Value) (ws : va_W) (post : Int32 → S → Prop) (w1 : S → va_W) : Prop :=
  ∀ sz : Nat, Met l y (.code y cc nL (some ty) :: wsL_law) (rmO fr lo mc ms) (va_Pc as (Pr D cI cZ kS vS ws sz)) (va_Qi post (fun u t => Po D (w1 u) (va_A ws sz) t) (va_A ws sz)) mc ms (va_A ws sz)
def CL {S : Type} (l : Launch) (y : MethodName) (cc : ByteArray) (nL : Nat) (D : va_G) (cI cZ : ClassId) (kS vS : Nat) (fr lo mc ms : Nat) (as : List Value) (ws : va_W) (post : Int64 → S → Prop) (w1 : S → va_W) : Prop :=
  ∀ sz : Nat, Met l y (.code y cc nL (some .long) :: wsL_law) (rmO fr lo mc ms) (va_Pc as (Pr D cI cZ kS vS ws sz)) (va_Ql post (fun u t => Po D (w1 u) (va_A ws sz) t) (va_A ws sz)) mc ms (va_A ws sz)
def CV {S : Type} (l : Launch) (y : MethodName) (cc : ByteArray) (nL : Nat) (D : va_G) (cI cZ : ClassId) (kS vS : Nat) (fr lo mc ms : Nat) (as : List Value) (ws : va_W) (post : S → Prop) (w1 : S → va_W) : Prop :=
  ∀ sz : Nat, Met l y (.code y cc nL none :: wsL_law) (rmO fr lo mc ms) (va_Pc as (Pr D cI cZ kS vS ws sz)) (va_Qv post (fun u t => Po D (w1 u) (va_A ws sz) t) (va_A ws sz)) mc ms (va_A ws sz)
theorem Pr.blind {D : va_G} {cI cZ : ClassId} {kS vS : Nat} {ws : va_W} {sz : Nat} {as : List Value} : FrameBlind (va_Pc as (Pr D cI cZ kS vS ws sz)) := by
  intro a U g mk q
  obtain ⟨q0, q1, qP, qK, qD, qN, qX⟩ := q
  exact ⟨q0, q1, qP, va_K.moved (u := U) (U := U.calling g mk a) (Vm.Alike.refl U.vm) qK, qD, NW.same (u := U) (U := U.calling g mk a) rfl qN, SX.calling (U := U) (V := U.calling g mk a) rfl rfl qX⟩
section Intro
variable {S : Type} {l : Launch} {y : MethodName} {cc : ByteArray} {nL : Nat} {ty : FieldType} {D : va_G} {cI cZ : ClassId} {kS vS : Nat} {fr lo mc ms : Nat} {as : List Value} {ws : va_W}
theorem CI_intro {post : Int32 → S → Prop} {w1 : S → va_W} (hy : plainName y.cls = true) (hla : (lg_sl as).length ≤ nL)
    (body : ∀ (p : Program) (e : Env) (s : State) (m : MethodId) (args : Array Value) (below : List Frame) (meth : Method) (c : Code) (A : Nat → Prop) (Q : State → Prop) (ls : Array Slot), CX p s m args c cc nL y.cls D cI cZ kS vS A → HS D A s s.heap [] ws →
      (∀ {pc : Nat} {ls : Array Slot} {H : Heap} {locs : List Loc} {r : Int32} (u : S), decode cc pc = .ok (.ireturn, 1) → HS D A s H locs (w1 u) → narrow ty (.int r) = .int r → post r u → W p l e (rmO fr lo mc ms) s m args below meth c H locs mc ms Q (F0 m pc ls [.int r])) →
      lv_has ls nL (lv_args 0 as) → W p l e (rmO fr lo mc ms) s m args below meth c s.heap [] 0 0 Q (F0 m 0 ls [])) :
    CI l y cc nL ty D cI cZ kS vS fr lo mc ms as ws post w1 := by
  intro sz
  refine Met.ofW (cc := cc) (maxL := nL) (ret := some ty) hy rfl ?_
  intro p e s m args below meth c s₁ B hml hv
  obtain ⟨rfl, hsz, hP, hK, hD0, hN, hX⟩ := hv
  subst hsz
  have hts := atoms_spec (ws := Cond.code y cc nL (some ty) :: wsL_law) B.pre
  have hlk := B.notSynchronized
  rw [lg_entry_eq]
  exact body p e s m _ below meth c (va_A ws s.heap.size) _ _ ⟨⟨B.exec, B.bytes, hml, findClass_of_methodNamed B.named, fun w h => hts w (List.mem_cons_of_mem _ h)⟩, hK, hN, hX, fun q h => Or.inr h⟩ ⟨hP, hD0.self, va_S.rf⟩
    (fun {pc ls H locs r} u hdg h hn hp => W.zret B.exec B.bytes B.returns hn (fun t ht hW => ⟨⟨r, u, rfl, hp, ⟨by rw [ht]; exact h.1, h.2.1⟩⟩, h.2.2.F ht⟩) h.2.2.2.2 hdg) (lv_entry as hla)
theorem CL_intro {post : Int64 → S → Prop} {w1 : S → va_W} (hy : plainName y.cls = true) (hla : (lg_sl as).length ≤ nL)
    (body : ∀ (p : Program) (e : Env) (s : State) (m : MethodId) (args : Array Value) (below : List Frame) (meth : Method) (c : Code) (A : Nat → Prop) (Q : State → Prop) (ls : Array Slot), CX p s m args c cc nL y.cls D cI cZ kS vS A → HS D A s s.heap [] ws →
      (∀ {pc : Nat} {ls : Array Slot} {H : Heap} {locs : List Loc} {r : Int64} (u : S), decode cc pc = .ok (.lreturn, 1) → HS D A s H locs (w1 u) → post r u → W p l e (rmO fr lo mc ms) s m args below meth c H locs mc ms Q (F0 m pc ls [.long r])) →
      lv_has ls nL (lv_args 0 as) → W p l e (rmO fr lo mc ms) s m args below meth c s.heap [] 0 0 Q (F0 m 0 ls [])) :
    CL l y cc nL D cI cZ kS vS fr lo mc ms as ws post w1 := by
  intro sz
  refine Met.ofW (cc := cc) (maxL := nL) (ret := some .long) hy rfl ?_
  intro p e s m args below meth c s₁ B hml hv
  obtain ⟨rfl, hsz, hP, hK, hD0, hN, hX⟩ := hv
  subst hsz
  have hts := atoms_spec (ws := Cond.code y cc nL (some .long) :: wsL_law) B.pre
  have hlk := B.notSynchronized
  rw [lg_entry_eq]
  exact body p e s m _ below meth c (va_A ws s.heap.size) _ _ ⟨⟨B.exec, B.bytes, hml, findClass_of_methodNamed B.named, fun w h => hts w (List.mem_cons_of_mem _ h)⟩, hK, hN, hX, fun q h => Or.inr h⟩ ⟨hP, hD0.self, va_S.rf⟩
    (fun {pc ls H locs r} u hdg h hp => W.lret B.exec B.bytes B.returns (fun t ht hW => ⟨⟨r, u, rfl, hp, ⟨by rw [ht]; exact h.1, h.2.1⟩⟩, h.2.2.F ht⟩) h.2.2.2.2 hdg) (lv_entry as hla)
theorem CV_intro {post : S → Prop} {w1 : S → va_W} (hy : plainName y.cls = true) (hla : (lg_sl as).length ≤ nL)
    (body : ∀ (p : Program) (e : Env) (s : State) (m : MethodId) (args : Array Value) (below : List Frame) (meth : Method) (c : Code) (A : Nat → Prop) (Q : State → Prop) (ls : Array Slot), CX p s m args c cc nL y.cls D cI cZ kS vS A → (meth.name = y.name) → HS D A s s.heap [] ws →
      (∀ {pc : Nat} {ls : Array Slot} {H : Heap} {locs : List Loc} (u : S), decode cc pc = .ok (.return_, 1) → HS D A s H locs (w1 u) → post u → W p l e (rmO fr lo mc ms) s m args below meth c H locs mc ms Q (F0 m pc ls [])) →
      lv_has ls nL (lv_args 0 as) → W p l e (rmO fr lo mc ms) s m args below meth c s.heap [] 0 0 Q (F0 m 0 ls [])) :
    CV l y cc nL D cI cZ kS vS fr lo mc ms as ws post w1 := by
  intro sz
  refine Met.ofW (cc := cc) (maxL := nL) (ret := none) hy rfl ?_
  intro p e s m args below meth c s₁ B hml hv
  obtain ⟨rfl, hsz, hP, hK, hD0, hN, hX⟩ := hv
  subst hsz
  have hts := atoms_spec (ws := Cond.code y cc nL none :: wsL_law) B.pre
  have hlk := B.notSynchronized
  rw [lg_entry_eq]
  exact body p e s m _ below meth c (va_A ws s.heap.size) _ _ ⟨⟨B.exec, B.bytes, hml, findClass_of_methodNamed B.named, fun w h => hts w (List.mem_cons_of_mem _ h)⟩, hK, hN, hX, fun q h => Or.inr h⟩ (name_of_methodNamed B.named B.method).1 ⟨hP, hD0.self, va_S.rf⟩
    (fun {pc ls H locs} u hdg h hp => W.vret B.exec B.bytes B.returns (fun t ht hW => ⟨⟨u, rfl, hp, ⟨by rw [ht]; exact h.1, h.2.1⟩⟩, h.2.2.F ht⟩) h.2.2.2.2 hdg) (lv_entry as hla)
end Intro
end Base
