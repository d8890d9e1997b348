/-! ===== the pure side: the page ===== -/
section Pure6
def kb (c : Nat) : Int32 := if c = 114 then 0 else if c = 102 then 1 else if c = 98 then 2 else if c = 111 then 3 else if c = 116 then 4 else -1
def bt (i : Nat) : Nat := ([114, 102, 98, 111, 116] : List Nat).getD i 0
theorem bt_v : ∀ j, j < 5 → ([114, 102, 98, 111, 116] : List Int32).getD j 0 = nI (bt j) := by decide +kernel
theorem bt_lt : ∀ j, j < 5 → bt j < 128 := by decide +kernel
theorem kb_at : ∀ i, i < 5 → nI i = kb (bt i) := by decide +kernel
theorem kb_no {c : Nat} (h : ∀ j, j < 5 → ¬ bt j = c) : (-1 : Int32) = kb c := by
  unfold kb
  rw [if_neg (fun z => h 0 (by decide) z.symm), if_neg (fun z => h 1 (by decide) z.symm), if_neg (fun z => h 2 (by decide) z.symm), if_neg (fun z => h 3 (by decide) z.symm), if_neg (fun z => h 4 (by decide) z.symm)]
theorem i2b_c : ∀ c, c < 128 → (nI c).toInt8.toInt32 = nI c := by decide +kernel
theorem i2c_c : ∀ c, c < 128 → ((nI c).toUInt32 % 65536).toInt32 = nI c := by decide +kernel
def wth (x lo hi : Int32) : Bool := !decide (x < lo) && !decide (hi < x)
def rng (c lo hi : Nat) : Bool := decide (lo ≤ c ∧ c ≤ hi)
theorem wth_nI {c lo hi : Nat} (hc : c < 128) (hl : lo < 128) (hh : hi < 128) : wth (nI c) (nI lo) (nI hi) = rng c lo hi := by
  have e1 : decide (nI c < nI lo) = decide (c < lo) := decide_eq_decide.mpr (jlt (by omega) (by omega))
  have e2 : decide (nI hi < nI c) = decide (hi < c) := decide_eq_decide.mpr (jlt (by omega) (by omega))
  unfold wth rng
  rw [e1, e2]
  by_cases a : c < lo
  · have b : ¬ (lo ≤ c ∧ c ≤ hi) := by omega
    rw [decide_eq_true a, decide_eq_false b]; rfl
  · rw [decide_eq_false a]
    by_cases b : hi < c
    · have d : ¬ (lo ≤ c ∧ c ≤ hi) := by omega
      rw [decide_eq_true b, decide_eq_false d]; rfl
    · have d : lo ≤ c ∧ c ≤ hi := by omega
      rw [decide_eq_false b, decide_eq_true d]; rfl
/-- the letter at a place, or 0 -/
def cat (pg : Nat → Nat) (ps : Nat) (x : Int32) : Nat := if hin (nI ps) x = true then pg x.toNatClampNeg else 0
theorem cat_nI {pg : Nat → Nat} {ps k : Nat} (hk : k < ps) (hp : ps < 100) : cat pg ps (nI k) = pg k := by
  unfold cat
  rw [if_pos (hin_nI hk hp), nI_clamp (by omega)]
theorem cat_neg {pg : Nat → Nat} {ps : Nat} {x : Int32} (h : x < 0) : cat pg ps x = 0 := by
  unfold cat
  rw [if_neg]
  unfold hin
  rw [decide_eq_true h, Bool.not_true, Bool.false_and]
  decide
theorem cat_big {pg : Nat → Nat} {ps : Nat} {x : Int32} (h : nI ps ≤ x) : cat pg ps x = 0 := by
  unfold cat
  rw [if_neg]
  unfold hin
  rw [decide_eq_true h, Bool.not_true, Bool.and_false]
  decide
theorem nI_m1 {k : Nat} (h : 1 ≤ k) : nI k - 1 = nI (k - 1) := by
  obtain ⟨j, rfl⟩ : ∃ j, k = j + 1 := ⟨k - 1, by omega⟩
  exact nI_pred j
/-- whether a semicolon stands d places ahead -/
def sem (pg : Nat → Nat) (k d : Nat) : Bool := decide (d ≤ k ∧ pg (k - d) = 59)
theorem sem_1 {pg : Nat → Nat} {ps k : Nat} (hk : k ≤ ps) (hp : ps < 100) : decide (cat pg ps (nI k - 1) = 59) = sem pg k 1 := by
  unfold sem
  by_cases h : 1 ≤ k
  · rw [nI_m1 h, cat_nI (by omega) hp]
    by_cases e : pg (k - 1) = 59
    · rw [decide_eq_true e, decide_eq_true ⟨h, e⟩]
    · rw [decide_eq_false e, decide_eq_false (fun z => e z.2)]
  · have e : k = 0 := by omega
    subst e
    rw [cat_neg (by decide), decide_eq_false (by decide), decide_eq_false (fun z => h z.1)]
theorem sem_2 {pg : Nat → Nat} {ps k : Nat} (hk : k ≤ ps) (hp : ps < 100) : decide (cat pg ps (nI k - 1 - 1) = 59) = sem pg k 2 := by
  unfold sem
  by_cases h : 2 ≤ k
  · rw [nI_m1 (by omega), nI_m1 (by omega), cat_nI (by omega) hp, show k - 1 - 1 = k - 2 by omega]
    by_cases e : pg (k - 2) = 59
    · rw [decide_eq_true e, decide_eq_true ⟨h, e⟩]
    · rw [decide_eq_false e, decide_eq_false (fun z => e z.2)]
  · have e : k = 0 ∨ k = 1 := by omega
    rcases e with e | e <;> subst e <;> rw [cat_neg (by decide), decide_eq_false (by decide), decide_eq_false (fun z => h z.1)]
def fbr (c r : Nat) : Bool := if c = 44 then decide (r < 5) else if c = 59 then decide (2 ≤ r) else false
/-- whether the letter at k fits behind those ahead of it -/
def fitb (pg : Nat → Nat) (k : Nat) : Bool :=
  if sem pg k 2 = true then false else if sem pg k 1 = true then rng (pg k) 49 57 else if k % 4 = 0 then !decide (kb (pg k) < 0) else if k % 4 = 1 then rng (pg k) 48 57 else if k % 4 = 2 then rng (pg k) 48 53 else fbr (pg k) (k / 4 + 1)
def fft (pg : Nat → Nat) : Nat → Nat → Nat
  | 0, k => k
  | fu + 1, k => if fitb pg k = true then fft pg fu (k + 1) else k
/-- the first letter that doesn't fit, or how many there are -/
def ff (pg : Nat → Nat) (ps : Nat) : Nat := fft pg ps 0
theorem fft_s {pg : Nat → Nat} {ps k : Nat} (h : k < ps) : fft pg (ps - k) k = if fitb pg k = true then fft pg (ps - (k + 1)) (k + 1) else k := by
  have e : ps - k = (ps - (k + 1)) + 1 := by omega
  rw [e]; rfl
theorem fft_le {pg : Nat → Nat} : ∀ fu k, fft pg fu k ≤ k + fu := by
  intro fu
  induction fu with
  | zero => intro k; exact Nat.le_refl _
  | succ fu ih =>
    intro k
    show (if _ then _ else _ : Nat) ≤ _
    split
    · have := ih (k + 1); omega
    · omega
theorem ff_le (pg : Nat → Nat) (ps : Nat) : ff pg ps ≤ ps := by
  have := fft_le (pg := pg) ps 0
  unfold ff; omega
theorem fft_all {pg : Nat → Nat} : ∀ fu k, fft pg fu k = k + fu → ∀ j, k ≤ j → j < k + fu → fitb pg j = true := by
  intro fu
  induction fu with
  | zero => intro k _ j h1 h2; omega
  | succ fu ih =>
    intro k h j h1 h2
    have h' : (if fitb pg k = true then fft pg fu (k + 1) else k) = k + (fu + 1) := h
    by_cases c : fitb pg k = true
    · rw [if_pos c] at h'
      by_cases e : j = k
      · rw [e]; exact c
      · exact ih (k + 1) (by omega) j (by omega) (by omega)
    · rw [if_neg c] at h'; omega
theorem ff_all {pg : Nat → Nat} {ps : Nat} (h : ff pg ps = ps) : ∀ j, j < ps → fitb pg j = true := fun j hj => fft_all ps 0 (by unfold ff at h; omega) j (Nat.zero_le _) (by omega)
/-- whether the page is a coast -/
def hcb (pg : Nat → Nat) (ps : Nat) : Bool := decide (ff pg ps = ps) && sem pg ps 2
theorem idn_0r (n : Nat) (ρ : Nat → Nat) (j : Nat) : ro ρ j = ro (idn 0 ρ) j := congrArg nI (idn_0 ρ j)
theorem min_5 {ps n : Nat} (h : ps = n * 4 + 1) (hn : n ≤ 5) : (if 5 < nI (ps / 4) then 5 else nI (ps / 4)) = nI n := by
  have e : ps / 4 = n := by omega
  rw [e]
  exact if_neg (fun z => absurd ((jlt (a := 5) (b := n) (by omega) (by omega)).mp z) (by omega))
end Pure6
