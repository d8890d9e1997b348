/-! ===== the pure side: going behind, one by one; places ===== -/
section Pure2
theorem un_comm {ρ : Nat → Nat} {i j a b : Nat} (h : i ≠ j) : un (un ρ i a) j b = un (un ρ j b) i a := by
  funext k
  unfold un
  by_cases h1 : k = j
  · subst h1
    rw [if_pos rfl, if_neg (fun z => h z.symm), if_pos rfl]
  · rw [if_neg h1]
    by_cases h2 : k = i
    · rw [if_pos h2, if_pos h2]
    · rw [if_neg h2, if_neg h2, if_neg h1]
theorem un_id (ρ : Nat → Nat) (i : Nat) : un ρ i (ρ i) = ρ := by
  funext k
  unfold un
  by_cases h1 : k = i
  · subst h1; rw [if_pos rfl]
  · rw [if_neg h1]
theorem un_idv {ρ : Nat → Nat} {i a : Nat} (e : a = ρ i) (j : Nat) : un ρ i a j = ρ j := by rw [e, un_id]
def gbn (q i : Nat) : Nat := if i ≤ q then i else i - 1
def gbk (q i : Nat) (ρ : Nat → Nat) : Nat → Nat := if i ≤ q then ρ else hsbi q (i - 1) ρ
theorem gbn_le (q i : Nat) : gbn q i ≤ i := by unfold gbn; split <;> omega
theorem gbn_0 (q : Nat) : gbn q 0 = 0 := by unfold gbn; split <;> omega
theorem gbk_0 (q : Nat) (ρ : Nat → Nat) : gbk q 0 ρ = ρ := by unfold gbk; rw [if_pos (Nat.zero_le _)]
theorem gbk_at (q i : Nat) (ρ : Nat → Nat) : gbk q i ρ i = ρ i := by
  unfold gbk
  split
  · rfl
  · unfold hsbi
    rw [if_neg (by omega)]
theorem gbn_ne {q i : Nat} (h : i ≠ q) : gbn q (i + 1) = gbn q i + 1 := by
  unfold gbn
  by_cases h1 : i ≤ q
  · rw [if_pos h1, if_pos (by omega)]
  · rw [if_neg h1, if_neg (by omega)]; omega
theorem gbn_eq (q : Nat) : gbn q (q + 1) = gbn q q := by
  unfold gbn
  rw [if_neg (by omega), if_pos (Nat.le_refl _)]; omega
theorem gbk_ne {q i : Nat} {ρ : Nat → Nat} (h : i ≠ q) : un (gbk q i ρ) (gbn q i) (ρ i) = gbk q (i + 1) ρ := by
  unfold gbn gbk
  by_cases h1 : i ≤ q
  · rw [if_pos h1, if_pos h1, if_pos (by omega)]
    exact un_id ρ i
  · rw [if_neg h1, if_neg h1, if_neg (by omega)]
    have e : i - 1 + 1 = i := by omega
    have g := fun j => hsbi_s (k := q) (i := i - 1) (ρ := ρ) (by omega) j
    rw [e] at g
    have e2 : hsbi q (i - 1) ρ i = ρ i := by unfold hsbi; rw [if_neg (by omega)]
    rw [e2] at g
    funext j
    exact g j
theorem gbk_eq (q : Nat) (ρ : Nat → Nat) : gbk q (q + 1) ρ = gbk q q ρ := by
  unfold gbk
  rw [if_neg (by omega), if_pos (Nat.le_refl _)]
  exact hsbi_0 q ρ
theorem gbk_e {q n : Nat} {ρ : Nat → Nat} (h : q < n) : gbk q n ρ = hsbi q (n - 1) ρ := by
  unfold gbk
  rw [if_neg (by omega)]
theorem hcap_t {x : Int32} (h : x ≤ 99) : hcap x = x := if_neg (fun z => by rw [Int32.lt_iff_toInt_lt] at z; rw [Int32.le_iff_toInt_le] at h; omega)
theorem hcap_f {x : Int32} (h : ¬ x ≤ 99) : hcap x = 99 := if_pos (by rw [Int32.le_iff_toInt_le] at h; rw [Int32.lt_iff_toInt_lt]; omega)
theorem hmu_t {bar : Int32} {w : Nat → Int32} {f : Nat} (h : ¬ bar ≤ w f) : hmu bar w f = w f := if_pos (by rw [Int32.le_iff_toInt_le] at h; rw [Int32.lt_iff_toInt_lt]; omega)
theorem hmu_f {bar : Int32} {w : Nat → Int32} {f : Nat} (h : bar ≤ w f) : hmu bar w f = bar := if_neg (fun z => by rw [Int32.lt_iff_toInt_lt] at z; rw [Int32.le_iff_toInt_le] at h; omega)
def hps2 (K w : Nat → Int32) (b a : Nat) : Bool :=
  if K b = 3 then false else if K a = 3 then decide (¬ w b ≤ 0) else if K b = 0 then decide (¬ w b ≤ 2 * w a) else if K b = 1 then decide (¬ w b ≤ w a) else if K b = 4 then decide (¬ w b < w a) else false
theorem hps2_eq {K w : Nat → Int32} {b a : Nat} (h : K b = 0 ∨ K b = 1 ∨ K b = 2 ∨ K b = 3 ∨ K b = 4) : hps2 K w b a = hps K w b a := by
  unfold hps2 hps
  rcases h with z | z | z | z | z <;> rw [z] <;> simp
def lin (v lo hi : Int64) : Bool := !decide (lg_cmp v lo < 0) && !decide (0 < lg_cmp v hi)
theorem lin_eq (v lo hi : Int64) : lin v lo hi = (decide (lo ≤ v) && decide (v ≤ hi)) := by
  have e1 : (lg_cmp v lo < 0) ↔ ¬ lo ≤ v := by
    rw [← lg_cmp_ge v lo, Int32.not_le]
  have e2 : (0 < lg_cmp v hi) ↔ ¬ v ≤ hi := by
    unfold lg_cmp
    simp only [gt_iff_lt, Int64.lt_iff_toInt_lt, Int64.le_iff_toInt_le, ← Int64.toInt_inj]
    split
    · simp; omega
    · split <;> simp <;> omega
  unfold lin
  by_cases a : lo ≤ v <;> by_cases b : v ≤ hi
  · rw [decide_eq_false (fun z => (e1.mp z) a), decide_eq_false (fun z => (e2.mp z) b), decide_eq_true a, decide_eq_true b]; rfl
  · rw [decide_eq_false (fun z => (e1.mp z) a), decide_eq_true (e2.mpr b), decide_eq_true a, decide_eq_false b]; rfl
  · rw [decide_eq_true (e1.mpr a), decide_eq_false (fun z => (e2.mp z) b), decide_eq_false a, decide_eq_true b]; rfl
  · rw [decide_eq_true (e1.mpr a), decide_eq_true (e2.mpr b), decide_eq_false a, decide_eq_false b]; rfl
theorem lin_i {x lo hi : Int32} : lin x.toInt64 lo.toInt64 hi.toInt64 = (decide (lo ≤ x) && decide (x ≤ hi)) := by
  rw [lin_eq]
  simp only [Int64.le_iff_toInt_le, Int32.le_iff_toInt_le, Int32.toInt_toInt64]
theorem lin_hin {n : Nat} (hn : n < 100) (x : Int32) : lin x.toInt64 0 (nI n - 1).toInt64 = hin (nI n) x := by
  have e0 : (0 : Int64) = (0 : Int32).toInt64 := by decide
  rw [e0, lin_i]
  unfold hin
  have h1 : (nI n - 1).toInt = (n : Int) - 1 := by
    have := pk_sub_toInt (a := n) (b := 1) (by omega) (by omega)
    exact this
  have h2 : (nI n).toInt = (n : Int) := nI_toInt (by omega)
  have q1 : ((0 : Int32) ≤ x) ↔ ¬ (x < 0) := by rw [Int32.not_lt]
  have q2 : (x ≤ nI n - 1) ↔ ¬ (nI n ≤ x) := by
    rw [Int32.le_iff_toInt_le, Int32.le_iff_toInt_le, h1, h2]; omega
  by_cases a : x < 0 <;> by_cases b : nI n ≤ x
  · rw [decide_eq_false (fun z => (q1.mp z) a), decide_eq_true a]; rfl
  · rw [decide_eq_false (fun z => (q1.mp z) a), decide_eq_true a]; rfl
  · rw [decide_eq_true (q1.mpr a), decide_eq_false (fun z => (q2.mp z) b), decide_eq_false a, decide_eq_true b]; rfl
  · rw [decide_eq_true (q1.mpr a), decide_eq_true (q2.mpr b), decide_eq_false a, decide_eq_false b]; rfl
theorem cpy_0 {f g : Nat → Int32} (j : Nat) : g j = va_cpy f g 0 0 0 j := by
  unfold va_cpy
  rw [if_neg (by omega)]
theorem cpy_s {f g : Nat → Int32} {i : Nat} (j : Nat) : upd (va_cpy f g 0 0 i) i (f i) j = va_cpy f g 0 0 (i + 1) j := by
  unfold upd va_cpy
  by_cases h : j = i
  · subst h
    rw [if_pos rfl, if_pos (by omega)]
    congr 1; omega
  · rw [if_neg h]
    by_cases h2 : 0 ≤ j ∧ j < 0 + i
    · rw [if_pos h2, if_pos (by omega)]
    · rw [if_neg h2, if_neg (by omega)]
def pmo (q i : Nat) : Int32 := if q < i then nI q else -1
theorem pmo_0 (q : Nat) : pmo q 0 = -1 := if_neg (Nat.not_lt_zero q)
theorem pmo_e (q : Nat) : nI q = pmo q (q + 1) := (if_pos (Nat.lt_succ_self q)).symm
theorem pmo_n {q i : Nat} (h : i ≠ q) : pmo q i = pmo q (i + 1) := by
  unfold pmo
  by_cases h1 : q < i
  · rw [if_pos h1, if_pos (by omega)]
  · rw [if_neg h1, if_neg (by omega)]
/-- the row: each place holds one of so many, no two the same, each stands somewhere -/
def PM (n : Nat) (ρ : Nat → Nat) : Prop := (∀ j, j < n → ρ j < n) ∧ (∀ i j, i < n → j < n → ρ i = ρ j → i = j) ∧ (∀ k, k < n → ∃ j, j < n ∧ ρ j = k)
theorem PM.id (n : Nat) {ρ : Nat → Nat} (h : ∀ j, j < n → ρ j = j) : PM n ρ := ⟨fun j hj => by rw [h j hj]; exact hj, fun i j hi hj e => by rw [h i hi, h j hj] at e; exact e, fun k hk => ⟨k, hk, h k hk⟩⟩
theorem PM.congr {n : Nat} {ρ σ : Nat → Nat} (h : PM n ρ) (e : ∀ j, j < n → σ j = ρ j) : PM n σ := ⟨fun j hj => by rw [e j hj]; exact h.1 j hj, fun i j hi hj q => by rw [e i hi, e j hj] at q; exact h.2.1 i j hi hj q, fun k hk => by obtain ⟨j, hj, q⟩ := h.2.2 k hk; exact ⟨j, hj, by rw [e j hj]; exact q⟩⟩
/-- the places re-numbered -/
theorem PM.comp {n : Nat} {ρ τ : Nat → Nat} (h : PM n ρ) (t : PM n τ) : PM n (fun j => ρ (τ j)) := ⟨fun j hj => h.1 _ (t.1 j hj), fun i j hi hj q => t.2.1 i j hi hj (h.2.1 _ _ (t.1 i hi) (t.1 j hj) q), fun k hk => by
  obtain ⟨j, hj, q⟩ := h.2.2 k hk
  obtain ⟨i, hi, q2⟩ := t.2.2 j hj
  exact ⟨i, hi, by show ρ (τ i) = k; rw [q2]; exact q⟩⟩
theorem PM.swap {n i : Nat} {ρ : Nat → Nat} (h : PM n ρ) (hi : i + 1 < n) : PM n (un (un ρ i (ρ (i + 1))) (i + 1) (ρ i)) := by
  have t : PM n (fun j => if j = i then i + 1 else if j = i + 1 then i else j) := by
    refine ⟨fun j hj => ?_, fun a b ha hb q => ?_, fun k hk => ?_⟩
    · dsimp only; split
      · omega
      · split <;> omega
    · dsimp only at q
      by_cases a1 : a = i <;> by_cases a2 : a = i + 1 <;> by_cases b1 : b = i <;> by_cases b2 : b = i + 1 <;> simp [a1, a2, b1, b2] at q <;> omega
    · by_cases k1 : k = i
      · exact ⟨i + 1, hi, by dsimp only; rw [if_neg (by omega), if_pos rfl, k1]⟩
      · by_cases k2 : k = i + 1
        · exact ⟨i, by omega, by dsimp only; rw [if_pos rfl, k2]⟩
        · exact ⟨k, hk, by dsimp only; rw [if_neg k1, if_neg k2]⟩
  refine (h.comp t).congr (fun j hj => ?_)
  unfold un
  by_cases j1 : j = i + 1
  · subst j1
    rw [if_pos rfl, if_neg (by omega), if_pos rfl]
  · rw [if_neg j1]
    by_cases j2 : j = i
    · subst j2; rw [if_pos rfl, if_pos rfl]
    · rw [if_neg j2, if_neg j2, if_neg j1]
theorem PM.hpp {n : Nat} {K w : Nat → Int32} {ρ : Nat → Nat} (h : PM n ρ) : ∀ i, i < n → PM n (hpp K w ρ i) := by
  intro i
  induction i with
  | zero => intro _; exact h
  | succ i ih =>
    intro hi
    have ih := ih (by omega)
    cases e : hps K w (Jvm.Pilot.CRiversQueueLaw_law_r2044_ed36ba.hpp K w ρ i (i + 1)) (Jvm.Pilot.CRiversQueueLaw_law_r2044_ed36ba.hpp K w ρ i i) with
    | true => rw [hpp_t e]; exact ih.swap hi
    | false => rw [hpp_f e]; exact ih
theorem PM.hsb {n q : Nat} {ρ : Nat → Nat} (h : PM n ρ) (hq : q < n) : PM n (hsb n q ρ) := by
  have t : PM n (fun j => if q ≤ j ∧ j < n - 1 then j + 1 else if j = n - 1 then q else j) := by
    refine ⟨fun j hj => ?_, fun a b ha hb e => ?_, fun k hk => ?_⟩
    · dsimp only; split
      · omega
      · split <;> omega
    · dsimp only at e
      by_cases a1 : q ≤ a ∧ a < n - 1 <;> by_cases b1 : q ≤ b ∧ b < n - 1 <;> by_cases a2 : a = n - 1 <;> by_cases b2 : b = n - 1 <;> simp only [a1, b1, a2, b2, if_true, if_false, and_self, and_true, true_and] at e <;> first | omega | (split at e <;> first | omega | (split at e <;> omega))
    · by_cases k1 : k = q
      · exact ⟨n - 1, by omega, by dsimp only; rw [if_neg (by omega), if_pos rfl, k1]⟩
      · by_cases k2 : q < k
        · exact ⟨k - 1, by omega, by dsimp only; rw [if_pos (by omega)]; omega⟩
        · exact ⟨k, hk, by dsimp only; rw [if_neg (by omega), if_neg (by omega)]⟩
  refine (h.comp t).congr (fun j hj => ?_)
  unfold Jvm.Pilot.CRiversQueueLaw_law_r2044_ed36ba.hsb
  split
  · rfl
  · split <;> rfl
end Pure2
