/-! ===== rows over the fixed part of a walk ===== -/
section Rows
theorem mapFilter {α β : Type} {is : List α} {f : α → Option β} {l : List β} (h : is.map f = l.map some) : is.filterMap f = l := by
  induction is generalizing l with
  | nil =>
    cases l with
    | nil => rfl
    | cons b l => cases h
  | cons i is ih =>
    cases l with
    | nil => cases h
    | cons b l =>
      rw [List.map_cons, List.map_cons] at h
      injection h with h1 h2
      rw [List.filterMap_cons, h1]
      exact congrArg (fun z => b :: z) (ih h2)
theorem cell_congr {cA : ClassId} {n : Nat} {f g : Nat → Int32} (h : ∀ j, j < n → f j = g j) : vp_cell cA (n, .inl f) = vp_cell cA (n, .inl g) := by
  have e : (Array.ofFn (n := n) fun j => Value.int (f j.val)) = Array.ofFn (n := n) fun j => Value.int (g j.val) := by
    congr 1
    funext j
    rw [h j.val j.isLt]
  rw [vp_cell_i, vp_cell_i]
  show ({ cls := cA, slots := _, vm := .none } : Cell) = { cls := cA, slots := _, vm := .none }
  rw [e]
/-- a class as the tables have it -/
def FK (Cn : String) (T : u_T) (N ci : Nat) (ty : Nat → FieldType) : Prop := vwCl[ci]? = some (Cn, T, N) ∧ (∀ w ∈ u_ws Cn T N, w ∈ wsL_law) ∧ (∀ k, k < N → parseFieldDescriptor (T k).2.2.1 = some (ty k)) ∧ (∀ a, a < N → ∀ b, b < N → a ≠ b → (T a).2.1 ≠ (T b).2.1)
theorem fk0 : FK RX0 TX0 6 0 tyX0 := ⟨rfl, inlX0, tyX0_ok, nmX0⟩
theorem fk1 : FK RX1 TX1 4 1 tyX1 := ⟨rfl, inlX1, tyX1_ok, nmX1⟩
theorem fk2 : FK RX2 TX2 1 2 tyX2 := ⟨rfl, inlX2, tyX2_ok, nmX2⟩
theorem fk3 : FK RX3 TX3 7 3 tyX3 := ⟨rfl, inlX3, tyX3_ok, nmX3⟩
theorem fk4 : FK RX4 TX4 2 4 tyX4 := ⟨rfl, inlX4, tyX4_ok, nmX4⟩
theorem fk5 : FK RX5 TX5 6 5 tyX5 := ⟨rfl, inlX5, tyX5_ok, nmX5⟩
theorem fk6 : FK RX6 TX6 4 6 tyX6 := ⟨rfl, inlX6, tyX6_ok, nmX6⟩
theorem fk7 : FK RX7 TX7 11 7 tyX7 := ⟨rfl, inlX7, tyX7_ok, nmX7⟩
theorem fk8 : FK RX8 TX8 34 8 tyX8 := ⟨rfl, inlX8, tyX8_ok, nmX8⟩
theorem HS.arr {D : va_G} {A : Nat → Prop} {s : State} {H : Heap} {locs : List Loc} {ws ws' : va_W} (h : HS D A s H locs ws) (q0 : Nat) {a : Nat} {cA : ClassId} {n : Nat} {f g : Nat → Int32} (he : ws[q0]? = some (a, .inl (cA, n, .inl f))) (hfg : ∀ j, j < n → f j = g j) (hw : ws.set q0 (a, .inl (cA, n, .inl g)) = ws') : HS D A s H locs ws' := by
  subst hw
  refine ⟨h.1.set h.2.1 he ?_ (fun _ _ => rfl), h.2.1.set he, h.2.2⟩
  show H[a]? = some (vp_cell cA (n, .inl g))
  rw [← cell_congr hfg]
  exact h.1 q0 _ he
/-- the same world, its cells in another order, or fewer -/
theorem HS.sub {D : va_G} {A : Nat → Prop} {s : State} {H : Heap} {locs : List Loc} {ws ws' : va_W} (h : HS D A s H locs ws) (is : List Nat) (hn : va_nd is = true) (hs : is.map (fun i => ws[i]?) = ws'.map some) : HS D A s H locs ws' :=
  ⟨h.1.sub is (mapFilter hs), h.2.1.sub is hn hs, h.2.2⟩
variable {p : Program} {l : Launch} {e : Env} {R : Room} {s : State} {m : MethodId} {args : Array Value} {below : List Frame} {meth : Method} {c : Code} {H : Heap} {locs : List Loc} {cells slots : Nat} {Q : State → Prop}
variable {cc : ByteArray} {nL pc : Nat} {own : String} {D : va_G} {cI cZ : ClassId} {kS vS : Nat} {A : Nat → Prop} {ls : Array Slot} {rest : List Value} {ws ws' : va_W} {a : Nat} {lvs : List (Nat × Value)}
theorem r_get (C : CX p s m args c cc nL own D cI cZ kS vS A) (h : HS D A s H locs ws) {index ci : Nat} {Cn : String} {T : u_T} {N : Nat} {ty : Nat → FieldType} (F : FK Cn T N ci ty) (q0 k : Nat) {fs : List Value} {v : Value} (he : ws[q0]? = some (a, .inr (ci, fs))) (hk : k < N) (hm : Cond.fieldLink own index (T k).1 (T k).2.1 (T k).2.2.1 ∈ wsL_law) (hv : fs[k]? = some v) (hdg : decode cc pc = .ok (.getfield index, 3))
    (kk : W p l e R s m args below meth c H locs cells slots Q (F0 m (pc + 3) ls (v :: rest))) : W p l e R s m args below meth c H locs cells slots Q (F0 m pc ls (.ref a :: rest)) :=
  va_get C.1.1 C.1.2.1 C.1.2.2.2.2 F.2.1 C.1.2.2.2.1 C.2.1 h.1 q0 he F.1 k hk (C.1.2.2.2.2 _ hm) (fun _ z => z) hv hdg kk
theorem r_getN (C : CX p s m args c cc nL own D cI cZ kS vS A) (h : HS D A s H locs ws) {index ci : Nat} {Cn host : String} {T : u_T} {N : Nat} {ty : Nat → FieldType} (F : FK Cn T N ci ty) (q0 k nn : Nat) {fs : List Value} {v : Value} (he : ws[q0]? = some (a, .inr (ci, fs))) (hk : k < N) (hm : nwF[nn]? = some (own, index, (T k).1, (T k).2.1, (T k).2.2.1, host)) (hv : fs[k]? = some v) (hdg : decode cc pc = .ok (.getfield index, 3))
    (kk : W p l e R s m args below meth c H locs cells slots Q (F0 m (pc + 3) ls (v :: rest))) : W p l e R s m args below meth c H locs cells slots Q (F0 m pc ls (.ref a :: rest)) :=
  va_getN C.1.1 C.1.2.1 C.1.2.2.2.2 F.2.1 C.1.2.2.2.1 C.2.1 h.1 q0 he F.1 k hk (va_Nw.use rfl (C.2.2.1.1 _ (List.mem_of_getElem? hm))) (fun _ z => z) hv hdg kk
theorem r_put (C : CX p s m args c cc nL own D cI cZ kS vS A) (h : HS D A s H locs ws) {index ci : Nat} {Cn : String} {T : u_T} {N : Nat} {ty : Nat → FieldType} (F : FK Cn T N ci ty) (q0 k : Nat) {fs : List Value} {v : Value} (he : ws[q0]? = some (a, .inr (ci, fs))) (hk : k < N) (hm : Cond.fieldLink own index (T k).1 (T k).2.1 (T k).2.2.1 ∈ wsL_law) (hfin : (T k).2.2.2 = false) (hn : narrow (ty k) v = v) (hfit : fits (ty k) v = true) (hl : k < fs.length) (hw : ws.set q0 (a, .inr (ci, fs.set k v)) = ws') (hdg : decode cc pc = .ok (.putfield index, 3))
    (kk : ∀ (H : Heap) (locs : List Loc), HS D A s H locs ws' → W p l e R s m args below meth c H locs cells slots Q (F0 m (pc + 3) ls rest)) : W p l e R s m args below meth c H locs cells slots Q (F0 m pc ls (v :: .ref a :: rest)) := by
  subst hw
  exact va_put C.1.1 C.1.2.1 C.1.2.2.2.2 F.2.1 ty F.2.2.1 F.2.2.2 C.1.2.2.2.1 C.2.1 h.1 h.2.1 h.2.2 q0 he F.1 k hk (C.1.2.2.2.2 _ hm) (fun _ z => z) hfin (F.2.2.1 k hk) hn hfit hl hdg (fun H1 l1 g1 g2 g3 => kk H1 l1 ⟨g1, g2, g3⟩)
theorem r_putN (C : CX p s m args c cc nL own D cI cZ kS vS A) (h : HS D A s H locs ws) {index ci : Nat} {Cn host : String} {T : u_T} {N : Nat} {ty : Nat → FieldType} (F : FK Cn T N ci ty) (q0 k nn : Nat) {fs : List Value} {v : Value} (he : ws[q0]? = some (a, .inr (ci, fs))) (hk : k < N) (hm : nwF[nn]? = some (own, index, (T k).1, (T k).2.1, (T k).2.2.1, host)) (hfin : (T k).2.2.2 = false) (hn : narrow (ty k) v = v) (hfit : fits (ty k) v = true) (hl : k < fs.length) (hw : ws.set q0 (a, .inr (ci, fs.set k v)) = ws') (hdg : decode cc pc = .ok (.putfield index, 3))
    (kk : ∀ (H : Heap) (locs : List Loc), HS D A s H locs ws' → W p l e R s m args below meth c H locs cells slots Q (F0 m (pc + 3) ls rest)) : W p l e R s m args below meth c H locs cells slots Q (F0 m pc ls (v :: .ref a :: rest)) := by
  subst hw
  exact va_putN C.1.1 C.1.2.1 C.1.2.2.2.2 F.2.1 ty F.2.2.1 F.2.2.2 C.1.2.2.2.1 C.2.1 h.1 h.2.1 h.2.2 q0 he F.1 k hk (va_Nw.use rfl (C.2.2.1.1 _ (List.mem_of_getElem? hm))) (fun _ z => z) hfin (F.2.2.1 k hk) hn hfit hl hdg (fun H1 l1 g1 g2 g3 => kk H1 l1 ⟨g1, g2, g3⟩)
theorem r_putF (C : CX p s m args c cc nL own D cI cZ kS vS A) (hin : meth.name = "<init>") (h : HS D A s H locs ws) {index ci : Nat} {Cn : String} {T : u_T} {N : Nat} {ty : Nat → FieldType} (F : FK Cn T N ci ty) (q0 k : Nat) {fs : List Value} {v : Value} (he : ws[q0]? = some (a, .inr (ci, fs))) (hk : k < N) (hm : Cond.fieldLink own index (T k).1 (T k).2.1 (T k).2.2.1 ∈ wsL_law) (hfin : (T k).2.2.2 = true) (hdecl : (T k).1 = own) (hn : narrow (ty k) v = v) (hfit : fits (ty k) v = true) (hl : k < fs.length) (hw : ws.set q0 (a, .inr (ci, fs.set k v)) = ws') (hdg : decode cc pc = .ok (.putfield index, 3))
    (kk : ∀ (H : Heap) (locs : List Loc), HS D A s H locs ws' → W p l e R s m args below meth c H locs cells slots Q (F0 m (pc + 3) ls rest)) : W p l e R s m args below meth c H locs cells slots Q (F0 m pc ls (v :: .ref a :: rest)) := by
  subst hw
  exact va_putF C.1.1 C.1.2.1 C.1.2.2.2.2 F.2.1 ty F.2.2.1 F.2.2.2 C.1.2.2.2.1 C.2.1 h.1 h.2.1 h.2.2 q0 he F.1 k hk (C.1.2.2.2.2 _ hm) (fun _ z => z) hfin hin hdecl (F.2.2.1 k hk) hn hfit hl hdg (fun H1 l1 g1 g2 g3 => kk H1 l1 ⟨g1, g2, g3⟩)
theorem r_ld (C : CX p s m args c cc nL own D cI cZ kS vS A) (h : HS D A s H locs ws) (q0 : Nat) {n : Nat} {f : Nat → Int32} (he : ws[q0]? = some (a, .inl (cI, n, .inl f))) {i : Int32} {x : Int32} (k : Nat) (hi : i = nI k) (hk : k < n) (hn : n < 100) (hx : f k = x) (hdg : decode cc pc = .ok (.iaload, 1))
    (kk : W p l e R s m args below meth c H locs cells slots Q (F0 m (pc + 1) ls (.int x :: rest))) : W p l e R s m args below meth c H locs cells slots Q (F0 m pc ls (.int i :: .ref a :: rest)) := by
  subst hi
  subst hx
  refine va_iald C.1.1 C.1.2.1 C.2.1 h.1 q0 0 he rfl (vp_in_nI hk (by omega)) hdg ?_
  rw [nI_clamp (by omega)]
  exact kk
theorem r_zld (C : CX p s m args c cc nL own D cI cZ kS vS A) (h : HS D A s H locs ws) (q0 : Nat) {n : Nat} {f : Nat → Int32} (he : ws[q0]? = some (a, .inl (cZ, n, .inl f))) {i : Int32} {x : Int32} (k : Nat) (hi : i = nI k) (hk : k < n) (hn : n < 100) (hx : f k = x) (hdg : decode cc pc = .ok (.baload, 1))
    (kk : W p l e R s m args below meth c H locs cells slots Q (F0 m (pc + 1) ls (.int x :: rest))) : W p l e R s m args below meth c H locs cells slots Q (F0 m pc ls (.int i :: .ref a :: rest)) := by
  subst hi
  subst hx
  refine va_zald C.1.1 C.1.2.1 C.2.1 h.1 q0 1 he rfl (vp_in_nI hk (by omega)) hdg ?_
  rw [nI_clamp (by omega)]
  exact kk
theorem r_st (C : CX p s m args c cc nL own D cI cZ kS vS A) (h : HS D A s H locs ws) (q0 : Nat) {n : Nat} {f g : Nat → Int32} (he : ws[q0]? = some (a, .inl (cI, n, .inl f))) {i x : Int32} (k : Nat) (hi : i = nI k) (hk : k < n) (hn : n < 100) (hg : ∀ j, j < n → upd f k x j = g j) (hw : ws.set q0 (a, .inl (cI, n, .inl g)) = ws') (hdg : decode cc pc = .ok (.iastore, 1))
    (kk : ∀ (H : Heap) (locs : List Loc), HS D A s H locs ws' → W p l e R s m args below meth c H locs cells slots Q (F0 m (pc + 1) ls rest)) : W p l e R s m args below meth c H locs cells slots Q (F0 m pc ls (.int x :: .int i :: .ref a :: rest)) := by
  subst hi
  refine va_iast C.1.1 C.1.2.1 C.2.1 h.1 h.2.1 h.2.2 q0 0 he rfl (vp_in_nI hk (by omega)) hdg (fun H1 l1 g1 g2 g3 => ?_)
  rw [nI_clamp (by omega)] at g1 g2
  have hl : q0 < ws.length := (List.getElem?_eq_some_iff.mp he).1
  refine kk H1 l1 (HS.arr ⟨g1, g2, g3⟩ q0 (List.getElem?_set_self hl) hg ?_)
  rw [List.set_set]
  exact hw
theorem r_zst (C : CX p s m args c cc nL own D cI cZ kS vS A) (h : HS D A s H locs ws) (q0 : Nat) {n : Nat} {f g : Nat → Int32} (he : ws[q0]? = some (a, .inl (cZ, n, .inl f))) {i x : Int32} (k : Nat) (hi : i = nI k) (hk : k < n) (hn : n < 100) (hx : vp_nar .boolean x = x) (hg : ∀ j, j < n → upd f k x j = g j) (hw : ws.set q0 (a, .inl (cZ, n, .inl g)) = ws') (hdg : decode cc pc = .ok (.bastore, 1))
    (kk : ∀ (H : Heap) (locs : List Loc), HS D A s H locs ws' → W p l e R s m args below meth c H locs cells slots Q (F0 m (pc + 1) ls rest)) : W p l e R s m args below meth c H locs cells slots Q (F0 m pc ls (.int x :: .int i :: .ref a :: rest)) := by
  subst hi
  refine va_zast C.1.1 C.1.2.1 C.2.1 h.1 h.2.1 h.2.2 q0 1 he rfl (vp_in_nI hk (by omega)) hdg (fun H1 l1 g1 g2 g3 => ?_)
  rw [nI_clamp (by omega), hx] at g1 g2
  have hl : q0 < ws.length := (List.getElem?_eq_some_iff.mp he).1
  refine kk H1 l1 (HS.arr ⟨g1, g2, g3⟩ q0 (List.getElem?_set_self hl) hg ?_)
  rw [List.set_set]
  exact hw
theorem r_alen (C : CX p s m args c cc nL own D cI cZ kS vS A) (h : HS D A s H locs ws) (q0 : Nat) {n : Nat} {f : Nat → Int32} (he : ws[q0]? = some (a, .inl (cI, n, .inl f))) (hdg : decode cc pc = .ok (.arraylength, 1))
    (kk : W p l e R s m args below meth c H locs cells slots Q (F0 m (pc + 1) ls (.int (nI n) :: rest))) : W p l e R s m args below meth c H locs cells slots Q (F0 m pc ls (.ref a :: rest)) :=
  va_alen C.1.1 C.1.2.1 C.2.1 h.1 q0 0 he rfl rfl hdg kk
theorem r_copy (C : CX p s m args c cc nL own D cI cZ kS vS A) (h : HS D A s H locs ws) {index : Nat} (hm : Cond.methodLink own index arraycopyName ∈ wsL_law) (q0 q1 : Nat) {a0 n0 n1 : Nat} {f g f' : Nat → Int32} (he0 : ws[q0]? = some (a0, .inl (cI, n0, .inl f))) (he1 : ws[q1]? = some (a, .inl (cI, n1, .inl g))) {sp dp nn : Int32} (k : Nat) (hsp : sp = 0) (hdp : dp = 0) (hnn : nn = nI k) (hk0 : k ≤ n0) (hk1 : k ≤ n1) (hk : k < 100) (hg : ∀ j, j < n1 → va_cpy f g 0 0 k j = f' j) (hw : ws.set q1 (a, .inl (cI, n1, .inl f')) = ws')
    (hls : lv_has ls nL lvs) (hR : 1 ≤ R.frames ∧ (rest.map fun v => v.category).sum + 18 ≤ R.locals) (hdg : decode cc pc = .ok (.invokestatic index, 3))
    (kk : ∀ (H : Heap) (locs : List Loc), HS D A s H locs ws' → W p l e R s m args below meth c H locs cells slots Q (F0 m (pc + 3) ls rest)) : W p l e R s m args below meth c H locs cells slots Q (F0 m pc ls (.int nn :: .int dp :: .ref a :: .int sp :: .ref a0 :: rest)) := by
  subst hsp; subst hdp; subst hnn
  have z0 : (0 : Int32).toNatClampNeg = 0 := rfl
  refine va_copyi C.1.1 C.1.2.1 (C.1.2.2.1.trans hls.1.symm) C.1.2.2.2.1 (C.1.2.2.2.2 _ hm) (C.1.2.2.2.2 _ mv_arraycopyName) (C.1.2.2.2.2 _ mt_arraycopyName) (C.1.2.2.2.2 _ mn__java_lang_System_) C.2.1 h.1 h.2.1 h.2.2 q0 q1 0 0 he0 he1 rfl rfl rfl (by decide) (by decide) (nI_pos (by omega)) (by rw [nI_clamp (by omega)]; simpa using hk0) (by rw [nI_clamp (by omega)]; simpa using hk1) (fun _ _ => rfl) hR.1 (by have := hR.2; simpa [nativeFrameWords] using this) hdg (fun H1 l1 g1 g2 g3 => ?_)
  rw [nI_clamp (by omega)] at g1 g2
  have hl : q1 < ws.length := (List.getElem?_eq_some_iff.mp he1).1
  refine kk H1 l1 (HS.arr ⟨g1, g2, g3⟩ q1 (List.getElem?_set_self hl) hg ?_)
  rw [List.set_set]
  exact hw
theorem r_min (C : CX p s m args c cc nL own D cI cZ kS vS A) {index : Nat} (hm : Cond.methodLink own index Lib.Math.min.name ∈ wsL_law) (hls : lv_has ls nL lvs) (hR : 1 ≤ R.frames ∧ (rest.map fun v => v.category).sum + 13 ≤ R.locals) (hf : cells ≤ R.cells ∧ slots ≤ R.slots) {x y : Int32} (hdg : decode cc pc = .ok (.invokestatic index, 3))
    (kk : W p l e R s m args below meth c H locs cells slots Q (F0 m (pc + 3) ls (.int (if y < x then y else x) :: rest))) : W p l e R s m args below meth c H locs cells slots Q (F0 m pc ls (.int y :: .int x :: rest)) :=
  va_mmin C.1.1 C.1.2.1 (C.1.2.2.1.trans hls.1.symm) C.1.2.2.2.1 (C.1.2.2.2.2 _ hm) (C.1.2.2.2.2 _ mt_Lib_Math_min_name) (C.1.2.2.2.2 _ mn__java_lang_Math_) (C.1.2.2.2.2 _ mc_Lib_Math_min_name) hR.1 hR.2 hf.1 hf.2 hdg kk
theorem r_max (C : CX p s m args c cc nL own D cI cZ kS vS A) {index : Nat} (hm : Cond.methodLink own index Lib.Math.max.name ∈ wsL_law) (hls : lv_has ls nL lvs) (hR : 1 ≤ R.frames ∧ (rest.map fun v => v.category).sum + 13 ≤ R.locals) (hf : cells ≤ R.cells ∧ slots ≤ R.slots) {x y : Int32} (hdg : decode cc pc = .ok (.invokestatic index, 3))
    (kk : W p l e R s m args below meth c H locs cells slots Q (F0 m (pc + 3) ls (.int (if x < y then y else x) :: rest))) : W p l e R s m args below meth c H locs cells slots Q (F0 m pc ls (.int y :: .int x :: rest)) :=
  va_mmax C.1.1 C.1.2.1 (C.1.2.2.1.trans hls.1.symm) C.1.2.2.2.1 (C.1.2.2.2.2 _ hm) (C.1.2.2.2.2 _ mt_Lib_Math_max_name) (C.1.2.2.2.2 _ mn__java_lang_Math_) (C.1.2.2.2.2 _ mc_Lib_Math_max_name) hR.1 hR.2 hf.1 hf.2 hdg kk
theorem r_obj (C : CX p s m args c cc nL own D cI cZ kS vS A) {index : Nat} (hm : Cond.methodLink own index objectInit ∈ wsL_law) (hls : lv_has ls nL lvs) (hR : 1 ≤ R.frames ∧ (rest.map fun v => v.category).sum + 12 ≤ R.locals) (hdg : decode cc pc = .ok (.invokespecial index, 3))
    (kk : W p l e R s m args below meth c H locs cells slots Q (F0 m (pc + 3) ls rest)) : W p l e R s m args below meth c H locs cells slots Q (F0 m pc ls (.ref a :: rest)) :=
  W.objInit C.1.1 C.1.2.1 C.1.2.2.2.1 (C.1.2.2.2.2 _ hm) (C.1.2.2.2.2 _ mi_objectInit) (C.1.2.2.2.2 _ mc_objectInit) rfl (hls.1.trans C.1.2.2.1.symm) rfl hdg hR.1 (by have := hR.2; show 2 * 0 + _ + 12 ≤ _; omega) kk
theorem r_new (C : CX p s m args c cc nL own D cI cZ kS vS A) (h : HS D A s H locs ws) {index ci : Nat} {Cn : String} {T : u_T} {N : Nat} {ty : Nat → FieldType} (F : FK Cn T N ci ty) (hk : Cond.classLink own index Cn ∈ wsL_law) (hi : Cond.instantiable Cn N ∈ wsL_law) (hn : Cond.initialized Cn ∈ wsL_law) {fs : List Value} (hfs : ∀ j, j < N → defaultValue (ty j) = vp_V fs j) (hf : cells + 1 ≤ R.cells ∧ slots + N ≤ R.slots) (hdg : decode cc pc = .ok (.new index, 3))
    (kk : ∀ (q : Nat) (H : Heap), HS D A s H locs (ws ++ [(q, .inr (ci, fs))]) → W p l e R s m args below meth c H locs (cells + 1) (slots + N) Q (F0 m (pc + 3) ls (.ref q :: rest))) : W p l e R s m args below meth c H locs cells slots Q (F0 m pc ls rest) :=
  va_new C.1.1 C.1.2.1 C.1.2.2.2.2 F.2.1 ty F.2.2.1 C.1.2.2.2.1 (C.1.2.2.2.2 _ hk) (C.1.2.2.2.2 _ hi) (C.1.2.2.2.2 _ hn) C.2.1 h.1 h.2.1 h.2.2 C.2.2.2.2 F.1 hfs hf.1 hf.2 hdg (fun q H1 g1 g2 g3 => kk q H1 ⟨g1, g2, g3⟩)
theorem r_newI (C : CX p s m args c cc nL own D cI cZ kS vS A) (h : HS D A s H locs ws) {n : Int32} (k : Nat) (hn : n = nI k) (hk : k < 100) (hf : cells + 1 ≤ R.cells ∧ slots + k ≤ R.slots) (hdg : decode cc pc = .ok (.newarray .int, 2))
    (kk : ∀ (q : Nat) (H : Heap), HS D A s H locs (ws ++ [(q, .inl (cI, k, .inl (fun _ => 0)))]) → W p l e R s m args below meth c H locs (cells + 1) (slots + k) Q (F0 m (pc + 2) ls (.ref q :: rest))) : W p l e R s m args below meth c H locs cells slots Q (F0 m pc ls (.int n :: rest)) := by
  subst hn
  refine va_newa (atype := .int) (a0 := (k, .inl (fun _ => 0))) C.1.1 C.1.2.1 (C.1.2.2.2.2 _ my_int) rfl C.2.1 h.1 h.2.1 h.2.2 C.2.2.2.2 (fun _ => rfl) (nI_pos (by omega)) (nI_clamp (by omega)) (by show k * 4 ≤ _; omega) hf.1 hf.2 hdg (fun q cA H1 gK g1 g2 g3 => ?_)
  have e1 : s.vm.findClass _ = some cA := (gK.2 2 (cA, .int) rfl).2
  have e2 : s.vm.findClass _ = some cI := (C.2.1.2 0 (cI, .int) rfl).2
  cases e1.symm.trans e2
  exact kk q H1 ⟨g1, g2, g3⟩
theorem r_newZ (C : CX p s m args c cc nL own D cI cZ kS vS A) (h : HS D A s H locs ws) {n : Int32} (k : Nat) (hn : n = nI k) (hk : k < 100) (hf : cells + 1 ≤ R.cells ∧ slots + k ≤ R.slots) (hdg : decode cc pc = .ok (.newarray .boolean, 2))
    (kk : ∀ (q : Nat) (H : Heap), HS D A s H locs (ws ++ [(q, .inl (cZ, k, .inl (fun _ => 0)))]) → W p l e R s m args below meth c H locs (cells + 1) (slots + k) Q (F0 m (pc + 2) ls (.ref q :: rest))) : W p l e R s m args below meth c H locs cells slots Q (F0 m pc ls (.int n :: rest)) := by
  subst hn
  refine va_newa (atype := .boolean) (a0 := (k, .inl (fun _ => 0))) C.1.1 C.1.2.1 (C.1.2.2.2.2 _ my_boolean) rfl C.2.1 h.1 h.2.1 h.2.2 C.2.2.2.2 (fun _ => rfl) (nI_pos (by omega)) (nI_clamp (by omega)) (by show k * 1 ≤ _; omega) hf.1 hf.2 hdg (fun q cA H1 gK g1 g2 g3 => ?_)
  have e1 : s.vm.findClass _ = some cA := (gK.2 2 (cA, .boolean) rfl).2
  have e2 : s.vm.findClass _ = some cZ := (C.2.1.2 1 (cZ, .boolean) rfl).2
  cases e1.symm.trans e2
  exact kk q H1 ⟨g1, g2, g3⟩
end Rows
section RowsS
variable {p : Program} {l : Launch} {e : Env} {R : Room} {s : State} {m : MethodId} {args : Array Value} {below : List Frame} {meth : Method} {c : Code} {H : Heap} {locs : List Loc} {cells slots : Nat} {Q : State → Prop}
variable {cc : ByteArray} {nL pc : Nat} {own : String} {D : va_G} {cI cZ : ClassId} {kS vS : Nat} {A : Nat → Prop} {ls : Array Slot} {rest : List Value} {ws : va_W}
theorem CX.txt (C : CX p s m args c cc nL own D cI cZ kS vS A) : va_O "java/lang/String" kS A s s.heap ∧ va_OF "java/lang/String" "coder" "B" (.int 0) kS A s s.heap ∧ va_OF "java/lang/String" "value" "[B" (.ref vS) kS A s s.heap ∧ va_T .byte vS 5 (fun j => .int (([114, 102, 98, 111, 116] : List Int32).getD j 0)) A s s.heap := C.2.2.2.1.2.1.1 0 (by decide)
theorem r_sval (C : CX p s m args c cc nL own D cI cZ kS vS A) (h : HS D A s H locs ws) {index : Nat} (hm : Cond.fieldLink own index "java/lang/String" "value" "[B" ∈ wsL_law) (hdg : decode cc pc = .ok (.getfield index, 3))
    (kk : W p l e R s m args below meth c H locs cells slots Q (F0 m (pc + 3) ls (.ref vS :: rest))) : W p l e R s m args below meth c H locs cells slots Q (F0 m pc ls (.ref kS :: rest)) :=
  vk_getf C.1.1 C.1.2.1 C.txt.2.2.1 h.2.2 C.1.2.2.2.1 (C.1.2.2.2.2 _ hm) (fun _ z => z) hdg kk
theorem r_scod (C : CX p s m args c cc nL own D cI cZ kS vS A) (h : HS D A s H locs ws) {index : Nat} (hm : Cond.fieldLink own index "java/lang/String" "coder" "B" ∈ wsL_law) (hdg : decode cc pc = .ok (.getfield index, 3))
    (kk : W p l e R s m args below meth c H locs cells slots Q (F0 m (pc + 3) ls (.int 0 :: rest))) : W p l e R s m args below meth c H locs cells slots Q (F0 m pc ls (.ref kS :: rest)) :=
  vk_getf C.1.1 C.1.2.1 C.txt.2.1 h.2.2 C.1.2.2.2.1 (C.1.2.2.2.2 _ hm) (fun _ z => z) hdg kk
theorem r_scmp (C : CX p s m args c cc nL own D cI cZ kS vS A) (h : HS D A s H locs ws) {index : Nat} (hm : Cond.fieldLink own index "java/lang/String" "COMPACT_STRINGS" "Z" ∈ wsL_law) (hdg : decode cc pc = .ok (.getstatic index, 3))
    (kk : W p l e R s m args below meth c H locs cells slots Q (F0 m (pc + 3) ls (.int 1 :: rest))) : W p l e R s m args below meth c H locs cells slots Q (F0 m pc ls rest) :=
  va_gets C.1.1 C.1.2.1 C.2.2.2.1.2.2 h.2.2 C.1.2.2.2.1 (C.1.2.2.2.2 _ hm) (fun _ z => z) hdg kk
theorem r_slen (C : CX p s m args c cc nL own D cI cZ kS vS A) (h : HS D A s H locs ws) (hdg : decode cc pc = .ok (.arraylength, 1))
    (kk : W p l e R s m args below meth c H locs cells slots Q (F0 m (pc + 1) ls (.int (nI 5) :: rest))) : W p l e R s m args below meth c H locs cells slots Q (F0 m pc ls (.ref vS :: rest)) := by
  obtain ⟨cell, h1, h2, h3, h4, h5, h6, h7⟩ := C.txt.2.2.2
  exact W.alen (n := nI 5) C.1.1 C.1.2.1 (by rw [h.2.2.2.1 vS (Array.getElem?_eq_some_iff.mp h1).1 h7]; exact h1) h2 h5 rfl rfl hdg kk
theorem r_sld (C : CX p s m args c cc nL own D cI cZ kS vS A) (h : HS D A s H locs ws) {x : Int32} (k : Nat) (hk : k < 5) (hx : ([114, 102, 98, 111, 116] : List Int32).getD k 0 = x) (hdg : decode cc pc = .ok (.baload, 1))
    (kk : W p l e R s m args below meth c H locs cells slots Q (F0 m (pc + 1) ls (.int x :: rest))) : W p l e R s m args below meth c H locs cells slots Q (F0 m pc ls (.int (nI k) :: .ref vS :: rest)) :=
  va_tb C.1.1 C.1.2.1 C.txt.2.2.2 h.2.2 (vp_in_nI hk (by omega)) (by rw [nI_clamp (by omega)]; exact congrArg Value.int hx) hdg kk
theorem r_sldc (C : CX p s m args c cc nL own D cI cZ kS vS A) (ho : own = RX4) (hdg : decode cc pc = .ok (.ldc 34, 2))
    (kk : W p l e R s m args below meth c H locs cells slots Q (F0 m (pc + 2) ls (.ref kS :: rest))) : W p l e R s m args below meth c H locs cells slots Q (F0 m pc ls rest) := by
  subst ho
  exact va_ldcS C.1.1 C.1.2.1 C.1.2.2.2.1 C.2.2.2.1.1 hdg kk
end RowsS
