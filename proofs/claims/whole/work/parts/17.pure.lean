/-! ===== the pure side: what each call answers, and what it changes ===== -/
section Pure8
theorem HS.cg {D : va_G} {A : Nat → Prop} {s : State} {H : Heap} {locs : List Loc} {ws ws' : va_W} (h : HS D A s H locs ws) (e : ws = ws') : HS D A s H locs ws' := e ▸ h
theorem wth_of {x : Int32} {lo hi : Nat} (h : wth x (nI lo) (nI hi) = true) (hl : lo < 1000) (hh : hi < 1000) : ∃ k : Nat, lo ≤ k ∧ k ≤ hi ∧ x = nI k := by
  unfold wth at h
  rw [Bool.and_eq_true, Bool.not_eq_true', Bool.not_eq_true', decide_eq_false_iff_not, decide_eq_false_iff_not] at h
  have hx0 : ¬ x < 0 := fun z => h.1 (by
    rw [Int32.lt_iff_toInt_lt] at z ⊢
    rw [nI_toInt (by omega)]
    have : (0 : Int32).toInt = 0 := rfl
    omega)
  obtain ⟨k, hk, rfl⟩ := nI_of hx0
  refine ⟨k, ?_, ?_, rfl⟩
  · exact Decidable.byContradiction (fun z => h.1 ((jlt (by omega) (by omega)).mpr (by omega)))
  · exact Decidable.byContradiction (fun z => h.2 ((jlt (by omega) (by omega)).mpr (by omega)))
theorem wth_k {k lo hi : Nat} (h1 : lo ≤ k) (h2 : k ≤ hi) (hh : hi < 1000) : wth (nI k) (nI lo) (nI hi) = true := by
  unfold wth
  rw [decide_eq_false (fun z => absurd ((jlt (by omega) (by omega)).mp z) (by omega)), decide_eq_false (fun z => absurd ((jlt (by omega) (by omega)).mp z) (by omega))]
  rfl
theorem lin_wth (x lo hi : Int32) : lin x.toInt64 lo.toInt64 hi.toInt64 = wth x lo hi := by
  rw [lin_i]
  unfold wth
  have e1 : (lo ≤ x) ↔ ¬ (x < lo) := by rw [Int32.not_lt]
  have e2 : (x ≤ hi) ↔ ¬ (hi < x) := by rw [Int32.not_lt]
  by_cases a : x < lo <;> by_cases b : hi < x
  · rw [decide_eq_false (fun z => (e1.mp z) a), decide_eq_true a]; rfl
  · rw [decide_eq_false (fun z => (e1.mp z) a), decide_eq_true a]; rfl
  · rw [decide_eq_true (e1.mpr a), decide_eq_false (fun z => (e2.mp z) b), decide_eq_false a, decide_eq_true b]; rfl
  · rw [decide_eq_true (e1.mpr a), decide_eq_true (e2.mpr b), decide_eq_false a, decide_eq_false b]; rfl
theorem nb_t {b : Bool} (h : ¬ b = true) : b = false := by cases b <;> simp_all
theorem hin_0 (x : Int32) : hin (nI 0) x = false := by
  unfold hin
  by_cases a : x < 0
  · rw [decide_eq_true a]; rfl
  · have b : nI 0 ≤ x := by
      rw [Int32.not_lt] at a; exact a
    rw [decide_eq_true b, Bool.not_true, Bool.and_false]
def suc (kd k : Int32) : Bool := decide (k = 0) || (decide (k = kd) || (decide (k = 1) && decide (kd = 4)))
theorem isr {n : Nat} (h : n ≤ 5) : (!decide (nI n ≤ 0)) = !decide (n = 0) := by
  by_cases e : n = 0
  · subst e; rfl
  · rw [decide_eq_false e, decide_eq_false (fun z => e (by have := (jle (a := n) (b := 0) (by omega) (by omega)).mp z; omega))]
theorem isr_n {n : Nat} (h : (!decide (n = 0)) = true) : ¬ n = 0 := fun z => by rw [decide_eq_true z] at h; exact absurd h (by decide)
theorem isr_0 {n : Nat} (h : (!decide (n = 0)) = false) : n = 0 := Decidable.byContradiction (fun z => by rw [decide_eq_false z] at h; exact absurd h (by decide))
def sek (n q : Nat) (hh x : Int32) : Bool := wth hh 1 12 && (hin (nI n) x && decide (q < 6))
theorem sek_f1 {n q : Nat} {hh x : Int32} (h : wth hh 1 12 = false) : sek n q hh x = false := by unfold sek; rw [h]; rfl
theorem sek_f2 {n q : Nat} {hh x : Int32} (h : hin (nI n) x = false) : sek n q hh x = false := by unfold sek; rw [h, Bool.false_and, Bool.and_false]
theorem sek_f3 {n q : Nat} {hh x : Int32} (h : decide (q < 6) = false) : sek n q hh x = false := by unfold sek; rw [h, Bool.and_false, Bool.and_false]
theorem sek_t {n q : Nat} {hh x : Int32} (h1 : wth hh 1 12 = true) (h2 : hin (nI n) x = true) (h3 : decide (q < 6) = true) : sek n q hh x = true := by unfold sek; rw [h1, h2, h3]; rfl
def ltk (x : Int32) (ps : Nat) : Bool := wth x 1 126 && decide (ps < 24)
theorem ltk_f1 {x : Int32} {ps : Nat} (h : wth x 1 126 = false) : ltk x ps = false := by unfold ltk; rw [h]; rfl
theorem ltk_f2 {x : Int32} {ps : Nat} (h : decide (ps < 24) = false) : ltk x ps = false := by unfold ltk; rw [h, Bool.and_false]
theorem ltk_t {x : Int32} {ps : Nat} (h : wth x 1 126 = true) (h2 : decide (ps < 24) = true) : ltk x ps = true := by unfold ltk; rw [h, h2]; rfl
def rnk (n : Nat) (x k : Int32) : Bool := hin (nI n) x && wth k 1 50
theorem rnk_f1 {n : Nat} {x k : Int32} (h : hin (nI n) x = false) : rnk n x k = false := by unfold rnk; rw [h]; rfl
theorem rnk_f2 {n : Nat} {x k : Int32} (h : wth k 1 50 = false) : rnk n x k = false := by unfold rnk; rw [h, Bool.and_false]
theorem rnk_t {n : Nat} {x k : Int32} (h : hin (nI n) x = true) (h2 : wth k 1 50 = true) : rnk n x k = true := by unfold rnk; rw [h, h2]; rfl
def bf {α : Type} (b : Bool) (x y : α) : α := if b = true then x else y
theorem bf_t {α : Type} {b : Bool} {x y : α} (h : b = true) : bf b x y = x := if_pos h
theorem bf_f {α : Type} {b : Bool} {x y : α} (h : b = false) : bf b x y = y := if_neg (by rw [h]; decide)
/-- where a river stands -/
def plq (n : Nat) (ρ : Nat → Nat) (k : Nat) : Nat := ((List.range n).find? (fun j => decide (ρ j = k))).getD 0
theorem plq_e {n : Nat} {ρ : Nat → Nat} (h : PM n ρ) {k : Nat} (hk : k < n) : plq n ρ k < n ∧ ρ (plq n ρ k) = k := by
  obtain ⟨j, hj, e⟩ := h.2.2 k hk
  unfold plq
  cases hf : (List.range n).find? (fun j => decide (ρ j = k)) with
  | none =>
    have := List.find?_eq_none.mp hf j (List.mem_range.mpr hj)
    exact absurd (decide_eq_true e) this
  | some i =>
    have h2 := List.find?_some hf
    exact ⟨List.mem_range.mp (List.mem_of_find?_eq_some hf), of_decide_eq_true h2⟩
def cnt (n : Nat) (bar : Int32) (w : Nat → Int32) (hr : Int32) (tk : Nat → Int32) (q ps : Nat) (cr bd x : Int32) : Int32 :=
  if x = 0 then nI n else if x = 1 then bar else if x = 2 then hsum w n else if x = 3 then hr else if x = 4 then hsum tk n else if x = 5 then nI q else if x = 6 then nI ps else if x = 7 then cr else if x = 8 then bd else -102
/-- a river's tellings -/
def rvv (n : Nat) (K F : Nat → Int32) (bar : Int32) (w : Nat → Int32) (ρ : Nat → Nat) (tk : Nat → Int32) (sh sr : Nat → Nat) (tb : Nat → Int32) (q rr : Nat) (x : Int32) : Int32 :=
  if x = 0 then K rr else if x = 1 then w rr else if x = 2 then F rr else if x = 3 then nI (plq n ρ rr) else if x = 4 then tk rr else if x = 5 then hwt n K F bar w ρ (nI rr) 60 0 else if x = 6 then hbt n K F bar w ρ sh sr tb q rr 10 else if hct n K F bar w ρ sh sr tb q rr 10 = 0 then -1 else (hbs (hct n K F bar w ρ sh sr tb q rr 10) (hys n K F bar w ρ sh sr tb q rr 10) (hct n K F bar w ρ sh sr tb q rr 10 + 1) 12).1
theorem hwd_w {n : Nat} {K F : Nat → Int32} {bar : Int32} {w : Nat → Int32} {ρ : Nat → Nat} (hs : ∀ k, -1 < hsm n K F bar w ρ k) : ∀ m, 1 ≤ m → ∃ k, k ≤ m ∧ (hwd n K F bar w ρ m).1 = nI k ∧ hsm n K F bar w ρ k = (hwd n K F bar w ρ m).2
  | 0, h => absurd h (by decide)
  | m + 1, _ => by
    by_cases c : hsm n K F bar w ρ (m + 1) ≤ (hwd n K F bar w ρ m).2
    · have e : hwd n K F bar w ρ (m + 1) = hwd n K F bar w ρ m := if_pos c
      cases m with
      | zero => exact absurd (show hsm n K F bar w ρ 1 ≤ -1 from c) (Int32.not_le.mpr (hs 1))
      | succ m =>
        obtain ⟨k, h1, h2, h3⟩ := hwd_w hs (m + 1) (by omega)
        exact ⟨k, by omega, by rw [e]; exact h2, by rw [e]; exact h3⟩
    · have e : hwd n K F bar w ρ (m + 1) = (nI (m + 1), hsm n K F bar w ρ (m + 1)) := if_neg c
      exact ⟨m + 1, Nat.le_refl _, by rw [e], by rw [e]⟩
/-- the search for the best order: what is asked for, and whether it may be -/
def bsk (x : Int32) : Bool := decide (x = 0) || wth (x - 10) 0 4
theorem bsk_0 {x : Int32} (h : x = 0) : bsk x = true := by unfold bsk; rw [decide_eq_true h, Bool.true_or]
theorem bsk_w {x : Int32} (h : wth (x - 10) 0 4 = true) : bsk x = true := by unfold bsk; rw [h, Bool.or_true]
theorem bsk_f {x : Int32} (h : ¬ x = 0) (h2 : wth (x - 10) 0 4 = false) : bsk x = false := by unfold bsk; rw [decide_eq_false h, h2]; rfl
def bsd (n bd : Nat) (x : Int32) : Bool := bsk x && ((!decide (n = 0)) && decide (bd < 30))
theorem bsd_f1 {n bd : Nat} {x : Int32} (h : bsk x = false) : bsd n bd x = false := by unfold bsd; rw [h]; rfl
theorem bsd_f2 {n bd : Nat} {x : Int32} (h : (!decide (n = 0)) = false) : bsd n bd x = false := by unfold bsd; rw [h, Bool.false_and, Bool.and_false]
theorem bsd_f3 {n bd : Nat} {x : Int32} (h : decide (bd < 30) = false) : bsd n bd x = false := by unfold bsd; rw [h, Bool.and_false, Bool.and_false]
theorem bsd_t {n bd : Nat} {x : Int32} (h1 : bsk x = true) (h2 : (!decide (n = 0)) = true) (h3 : decide (bd < 30) = true) : bsd n bd x = true := by unfold bsd; rw [h1, h2, h3]; rfl
/-- numbers mixed in, one behind the other -/
def mxf (f : Nat → Int32) (h : Int64) : Nat → Int64
  | 0 => h
  | k + 1 => 31 * mxf f h k + (f k).toInt64
theorem mxf_s (f : Nat → Int32) (h : Int64) (k : Nat) : 31 * mxf f h k + (f k).toInt64 = mxf f h (k + 1) := rfl
def dg1 (n : Nat) (K F : Nat → Int32) (bar : Int32) (w : Nat → Int32) (ρ : Nat → Nat) (tk : Nat → Int32) (sh sr : Nat → Nat) (tb : Nat → Int32) (q : Nat) : Nat → Int32 := fun k => rvv n K F bar w ρ tk sh sr tb q (k / 8) (nI (k % 8))
theorem dg1_s {n : Nat} {K F : Nat → Int32} {bar : Int32} {w : Nat → Int32} {ρ : Nat → Nat} {tk : Nat → Int32} {sh sr : Nat → Nat} {tb : Nat → Int32} {q i j : Nat} (hj : j < 8) (h : Int64) : 31 * mxf (dg1 n K F bar w ρ tk sh sr tb q) h (8 * i + j) + (rvv n K F bar w ρ tk sh sr tb q i (nI j)).toInt64 = mxf (dg1 n K F bar w ρ tk sh sr tb q) h (8 * i + (j + 1)) := by
  have e : dg1 n K F bar w ρ tk sh sr tb q (8 * i + j) = rvv n K F bar w ρ tk sh sr tb q i (nI j) := by
    unfold dg1
    rw [show (8 * i + j) / 8 = i by omega, show (8 * i + j) % 8 = j by omega]
  rw [← e]; rfl
def dg2 (n : Nat) (K F : Nat → Int32) (bar : Int32) (w : Nat → Int32) (ρ : Nat → Nat) (tk : Nat → Int32) (sh sr : Nat → Nat) (tb : Nat → Int32) (q : Nat) : Int64 := mxf (fun k => nI (ρ k)) (mxf (dg1 n K F bar w ρ tk sh sr tb q) 971 (8 * n)) n
def dg3 (n : Nat) (K F : Nat → Int32) (bar : Int32) (w : Nat → Int32) (ρ : Nat → Nat) (tk : Nat → Int32) (sh sr : Nat → Nat) (tb : Nat → Int32) (q : Nat) : Int64 := bf (!decide (n = 0)) (31 * (31 * dg2 n K F bar w ρ tk sh sr tb q + (hwd n K F bar w ρ 12).2.toInt64) + (hwd n K F bar w ρ 12).1.toInt64) (dg2 n K F bar w ρ tk sh sr tb q)
/-- the digest -/
def dgv (n : Nat) (K F : Nat → Int32) (bar : Int32) (w : Nat → Int32) (ρ : Nat → Nat) (tk : Nat → Int32) (sh sr : Nat → Nat) (tb : Nat → Int32) (q : Nat) (hr : Int32) (ps : Nat) (pg : Nat → Nat) (cr bd : Int32) : Int64 :=
  mxf (fun k => cnt n bar w hr tk q ps cr bd (nI k)) (mxf (fun k => nI (pg k)) (dg3 n K F bar w ρ tk sh sr tb q) ps) 9
end Pure8
