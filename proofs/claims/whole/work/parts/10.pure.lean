/-! ===== the pure side: numbers, rows of places, an hour ===== -/
section Pure1
theorem jle {a b : Nat} (ha : a < 2 ^ 31) (hb : b < 2 ^ 31) : nI a ≤ nI b ↔ a ≤ b := nI_leI ha hb
theorem jlt {a b : Nat} (ha : a < 2 ^ 31) (hb : b < 2 ^ 31) : nI a < nI b ↔ a < b := nI_ltI ha hb
theorem jeq {a b : Nat} (ha : a < 2 ^ 31) (hb : b < 2 ^ 31) : nI a = nI b ↔ a = b := nI_eq ha hb
theorem cpy_all {f g : Nat → Int32} {n j : Nat} (h : j < n) : va_cpy f g 0 0 n j = f j := sb_cpy0 h
def bI (b : Bool) : Int32 := if b then 1 else 0
theorem bI_nar (b : Bool) : narrow .boolean (.int (bI b)) = .int (bI b) := by cases b <;> rfl
theorem bI_0 {b : Bool} : bI b = 0 ↔ b = false := by cases b <;> decide
theorem bI_n0 {b : Bool} : ¬ bI b = 0 ↔ b = true := by cases b <;> decide
def ro (ρ : Nat → Nat) : Nat → Int32 := fun j => nI (ρ j)
def un (ρ : Nat → Nat) (k m : Nat) : Nat → Nat := fun j => if j = k then m else ρ j
theorem ro_un {ρ : Nat → Nat} {k m : Nat} (j : Nat) : upd (ro ρ) k (nI m) j = ro (un ρ k m) j := by
  unfold upd ro un
  by_cases h : j = k
  · rw [if_pos h, if_pos h]
  · rw [if_neg h, if_neg h]
theorem un_s (ρ : Nat → Nat) (k m : Nat) : un ρ k m k = m := if_pos rfl
theorem un_n {ρ : Nat → Nat} {k m j : Nat} (h : j ≠ k) : un ρ k m j = ρ j := if_neg h
theorem upd_s (f : Nat → Int32) (k : Nat) (x : Int32) : upd f k x k = x := if_pos rfl
theorem upd_n {f : Nat → Int32} {k j : Nat} {x : Int32} (h : j ≠ k) : upd f k x j = f j := if_neg h
/-- whether the number names one of so many -/
def hin (nv x : Int32) : Bool := !decide (x < 0) && !decide (nv ≤ x)
theorem hin_nI {n k : Nat} (h : k < n) (hn : n < 100) : hin (nI n) (nI k) = true := by
  unfold hin
  rw [Bool.and_eq_true, Bool.not_eq_true', Bool.not_eq_true', decide_eq_false_iff_not, decide_eq_false_iff_not]
  exact ⟨nI_pos (by omega), fun z => absurd ((jle (by omega) (by omega)).mp z) (by omega)⟩
theorem hin_of {n : Nat} {x : Int32} (h : hin (nI n) x = true) (hn : n < 100) : ∃ k : Nat, k < n ∧ x = nI k := by
  unfold hin at h
  rw [Bool.and_eq_true, Bool.not_eq_true', Bool.not_eq_true', decide_eq_false_iff_not, decide_eq_false_iff_not] at h
  rcases pk_ix x (n := n) (by omega) with z | z | z
  · exact absurd z h.1
  · exact absurd z h.2
  · exact z
def hcap (x : Int32) : Int32 := if 99 < x then 99 else x
/-- the waters grow, in the first i -/
def hgr (i : Nat) (F w : Nat → Int32) : Nat → Int32 := fun j => if j < i then hcap (w j + F j) else w j
theorem hgr_0 (F w : Nat → Int32) : hgr 0 F w = w := by funext j; exact if_neg (Nat.not_lt_zero j)
theorem hgr_s {i : Nat} {F w : Nat → Int32} (j : Nat) : upd (hgr i F w) i (hcap (hgr i F w i + F i)) j = hgr (i + 1) F w j := by
  unfold upd hgr
  by_cases h : j = i
  · subst h
    rw [if_pos rfl, if_neg (Nat.lt_irrefl _), if_pos (by omega)]
  · rw [if_neg h]
    by_cases h2 : j < i
    · rw [if_pos h2, if_pos (by omega)]
    · rw [if_neg h2, if_neg (by omega)]
/-- whether the one behind pushes by the one ahead -/
def hps (K w : Nat → Int32) (b a : Nat) : Bool :=
  if K b = 3 then false else if K a = 3 then decide (¬ w b ≤ 0) else if K b = 1 then decide (¬ w b ≤ w a) else if K b = 2 then false else if K b = 4 then decide (¬ w b < w a) else decide (¬ w b ≤ 2 * w a)
/-- all push, by the places 1 .. i -/
def hpp (K w : Nat → Int32) (ρ : Nat → Nat) : Nat → (Nat → Nat)
  | 0 => ρ
  | i + 1 => if hps K w (hpp K w ρ i (i + 1)) (hpp K w ρ i i) then un (un (hpp K w ρ i) i (hpp K w ρ i (i + 1))) (i + 1) (hpp K w ρ i i) else hpp K w ρ i
theorem hpp_lt {K w : Nat → Int32} {ρ : Nat → Nat} {n : Nat} (h : ∀ j, j < n → ρ j < n) : ∀ i, i < n → ∀ j, j < n → hpp K w ρ i j < n := by
  intro i
  induction i with
  | zero => intro _ j hj; exact h j hj
  | succ i ih =>
    intro hi j hj
    have ih := ih (by omega)
    show (if _ then _ else _ : Nat → Nat) j < n
    split
    · unfold un
      dsimp only
      by_cases h1 : j = i + 1
      · rw [if_pos h1]; exact ih i (by omega)
      · rw [if_neg h1]
        by_cases h2 : j = i
        · rw [if_pos h2]; exact ih (i + 1) hi
        · rw [if_neg h2]; exact ih j hj
    · exact ih j hj
theorem hpp_t {K w : Nat → Int32} {ρ : Nat → Nat} {i : Nat} (h : hps K w (hpp K w ρ i (i + 1)) (hpp K w ρ i i) = true) : hpp K w ρ (i + 1) = un (un (hpp K w ρ i) i (hpp K w ρ i (i + 1))) (i + 1) (hpp K w ρ i i) := if_pos h
theorem hpp_f {K w : Nat → Int32} {ρ : Nat → Nat} {i : Nat} (h : hps K w (hpp K w ρ i (i + 1)) (hpp K w ρ i i) = false) : hpp K w ρ (i + 1) = hpp K w ρ i := if_neg (by rw [h]; decide)
/-- the one at the place k goes behind all others -/
def hsb (n k : Nat) (ρ : Nat → Nat) : Nat → Nat := fun j => if k ≤ j ∧ j < n - 1 then ρ (j + 1) else if j = n - 1 then ρ k else ρ j
def hsbi (k i : Nat) (ρ : Nat → Nat) : Nat → Nat := fun j => if k ≤ j ∧ j < i then ρ (j + 1) else ρ j
theorem hsbi_0 (k : Nat) (ρ : Nat → Nat) : hsbi k k ρ = ρ := by funext j; exact if_neg (by omega)
theorem hsbi_s {k i : Nat} {ρ : Nat → Nat} (h : k ≤ i) (j : Nat) : un (hsbi k i ρ) i (hsbi k i ρ (i + 1)) j = hsbi k (i + 1) ρ j := by
  unfold un hsbi
  by_cases h1 : j = i
  · subst h1
    rw [if_pos rfl, if_neg (by omega), if_pos (by omega)]
  · rw [if_neg h1]
    by_cases h2 : k ≤ j ∧ j < i
    · rw [if_pos h2, if_pos (by omega)]
    · rw [if_neg h2, if_neg (by omega)]
theorem hsbi_e {n k : Nat} {ρ : Nat → Nat} (h : k < n) (j : Nat) : un (hsbi k (n - 1) ρ) (n - 1) (ρ k) j = hsb n k ρ j := by
  unfold un hsbi hsb
  by_cases h1 : j = n - 1
  · subst h1
    rw [if_pos rfl, if_neg (by omega), if_pos rfl]
  · rw [if_neg h1]
    by_cases h2 : k ≤ j ∧ j < n - 1
    · rw [if_pos h2, if_pos h2]
    · rw [if_neg h2, if_neg h2, if_neg h1]
def hmu (bar : Int32) (w : Nat → Int32) (f : Nat) : Int32 := if w f < bar then w f else bar
def hto (bar : Int32) (w : Nat → Int32) (f : Nat) : Int32 := if hmu bar w f ≤ 0 then -1 else nI f
/-- an hour: who is first behind the pushing; the waters, the row, of which one the sea took, how much -/
def hfi (n : Nat) (K F w : Nat → Int32) (ρ : Nat → Nat) : Nat := hpp K (hgr n F w) ρ (n - 1) 0
def hmm (n : Nat) (K F : Nat → Int32) (bar : Int32) (w : Nat → Int32) (ρ : Nat → Nat) : Int32 := hmu bar (hgr n F w) (hfi n K F w ρ)
def hww (n : Nat) (K F : Nat → Int32) (bar : Int32) (w : Nat → Int32) (ρ : Nat → Nat) : Nat → Int32 := upd (hgr n F w) (hfi n K F w ρ) (hgr n F w (hfi n K F w ρ) - hmm n K F bar w ρ)
def hrr (n : Nat) (K F : Nat → Int32) (bar : Int32) (w : Nat → Int32) (ρ : Nat → Nat) : Nat → Nat := if hgr n F w (hfi n K F w ρ) - hmm n K F bar w ρ = 0 then hsb n 0 (hpp K (hgr n F w) ρ (n - 1)) else hpp K (hgr n F w) ρ (n - 1)
def hoo (n : Nat) (K F : Nat → Int32) (bar : Int32) (w : Nat → Int32) (ρ : Nat → Nat) : Int32 := hto bar (hgr n F w) (hfi n K F w ρ)
def htt (n : Nat) (K F : Nat → Int32) (bar : Int32) (w : Nat → Int32) (ρ : Nat → Nat) (tk : Nat → Int32) : Nat → Int32 := upd tk (hfi n K F w ρ) (tk (hfi n K F w ρ) + hmm n K F bar w ρ)
/-- all that stands in the first i -/
def hsum (w : Nat → Int32) : Nat → Int32
  | 0 => 0
  | i + 1 => hsum w i + w i
/-- the first place of so many where k stands, from i on -/
def hpl (ρ : Nat → Nat) (k : Nat) (n : Nat) : Nat → Nat → Int32
  | 0, _ => -1
  | fu + 1, i => if i < n then (if ρ i = k then nI i else hpl ρ k n fu (i + 1)) else -1
theorem r_top {p : Program} {l : Launch} {e : Env} {R : Room} {s : State} {m : MethodId} {args : Array Value} {below : List Frame} {meth : Method} {c : Code} {H : Heap} {locs : List Loc} {cells slots : Nat} {Q : State → Prop} {pc : Nat} {ls : Array Slot} {rest : List Value} {x y : Int32} (h : x = y) (k : W p l e R s m args below meth c H locs cells slots Q (F0 m pc ls (.int y :: rest))) : W p l e R s m args below meth c H locs cells slots Q (F0 m pc ls (.int x :: rest)) := by
  subst h; exact k
theorem r_topl {p : Program} {l : Launch} {e : Env} {R : Room} {s : State} {m : MethodId} {args : Array Value} {below : List Frame} {meth : Method} {c : Code} {H : Heap} {locs : List Loc} {cells slots : Nat} {Q : State → Prop} {pc : Nat} {ls : Array Slot} {rest : List Value} {x y : Int64} (h : x = y) (k : W p l e R s m args below meth c H locs cells slots Q (F0 m pc ls (.long y :: rest))) : W p l e R s m args below meth c H locs cells slots Q (F0 m pc ls (.long x :: rest)) := by
  subst h; exact k
end Pure1
