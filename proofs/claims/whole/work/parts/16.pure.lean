/-! ===== the pure side: the reference's way of reading a page ===== -/
section Pure7
def gst (st c : Nat) : Nat := if st = 3 then (if c = 44 then 0 else 4) else st + 1
def grm (st rm : Nat) : Nat := if st = 2 then rm + 1 else rm
def grb (st c : Nat) (b : Int32) : Int32 := if st = 4 then nI c - 48 else b
def grd (st rm c : Nat) (d : Nat → Int32) : Nat → Int32 := if st = 0 then upd d (3 * rm) (kb c) else if st = 1 then upd d (3 * rm + 1) (nI c - 48) else if st = 2 then upd d (3 * rm + 2) (nI c - 48) else d
def gfit (st rm c : Nat) : Bool := if st = 0 then !decide (kb c = -1) else if st = 1 then rng c 48 57 else if st = 2 then rng c 48 53 else if st = 3 then (if c = 44 then decide (rm < 5) else if c = 59 then decide (1 < rm) else false) else if st = 4 then rng c 49 57 else false
def gS (pg : Nat → Nat) : Nat → Nat
  | 0 => 0
  | k + 1 => gst (gS pg k) (pg k)
def gR (pg : Nat → Nat) : Nat → Nat
  | 0 => 0
  | k + 1 => grm (gS pg k) (gR pg k)
def gB (pg : Nat → Nat) (b : Int32) : Nat → Int32
  | 0 => b
  | k + 1 => grb (gS pg k) (pg k) (gB pg b k)
def gD (pg : Nat → Nat) (d : Nat → Int32) : Nat → (Nat → Int32)
  | 0 => d
  | k + 1 => grd (gS pg k) (gR pg k) (pg k) (gD pg d k)
theorem lin_09 : ∀ c, c < 128 → lin (Int32.toInt64 (nI c - 48)) 0 9 = rng c 48 57 := by decide +kernel
theorem lin_05 : ∀ c, c < 128 → lin (Int32.toInt64 (nI c - 48)) 0 5 = rng c 48 53 := by decide +kernel
theorem lin_19 : ∀ c, c < 128 → lin (Int32.toInt64 (nI c - 48)) 1 9 = rng c 49 57 := by decide +kernel
theorem kb_neg : ∀ c, c < 128 → decide (kb c < 0) = decide (kb c = -1) := by decide +kernel
theorem kb_59 : kb 59 = -1 := by decide
theorem kb_in : ∀ c, c < 128 → (!decide (kb c < 0)) = true → kb c = 0 ∨ kb c = 1 ∨ kb c = 2 ∨ kb c = 3 ∨ kb c = 4 := by decide +kernel
def stM (pg : Nat → Nat) (k : Nat) : Nat := if sem pg k 2 = true then 5 else if sem pg k 1 = true then 4 else k % 4
variable {pg : Nat → Nat}
theorem sem_t {k d : Nat} : sem pg k d = true ↔ d ≤ k ∧ pg (k - d) = 59 := by unfold sem; exact decide_eq_true_iff
theorem sem_f {k d : Nat} : sem pg k d = false ↔ ¬ (d ≤ k ∧ pg (k - d) = 59) := by unfold sem; exact decide_eq_false_iff_not
/-- a semicolon that fits stands behind a river -/
theorem fit_59 {k : Nat} (h : fitb pg k = true) (e : pg k = 59) : k % 4 = 3 ∧ 1 ≤ k / 4 := by
  unfold fitb at h
  rw [e] at h
  split at h
  · cases h
  · split at h
    · exact absurd h (by decide)
    · split at h
      · exact absurd h (by decide)
      · split at h
        · exact absurd h (by decide)
        · split at h
          · exact absurd h (by decide)
          · unfold fbr at h
            rw [if_neg (by decide), if_pos rfl, decide_eq_true_iff] at h
            omega
theorem fit_s2 {k : Nat} (h : fitb pg k = true) : sem pg k 2 = false := by
  unfold fitb at h
  cases c : sem pg k 2 with
  | false => rfl
  | true => rw [if_pos c] at h; cases h
theorem fit_s1 {k : Nat} (h : fitb pg k = true) (c : sem pg k 1 = true) : rng (pg k) 49 57 = true := by
  have c2 := fit_s2 h
  unfold fitb at h
  rw [if_neg (by rw [c2]; decide), if_pos c] at h
  exact h
theorem fit_0 {k : Nat} (h : fitb pg k = true) (c : sem pg k 1 = false) (e : k % 4 = 0) : (!decide (kb (pg k) < 0)) = true := by
  have c2 := fit_s2 h
  unfold fitb at h
  rw [if_neg (by rw [c2]; decide), if_neg (by rw [c]; decide), if_pos e] at h
  exact h
theorem fit_1 {k : Nat} (h : fitb pg k = true) (c : sem pg k 1 = false) (e : k % 4 = 1) : rng (pg k) 48 57 = true := by
  have c2 := fit_s2 h
  unfold fitb at h
  rw [if_neg (by rw [c2]; decide), if_neg (by rw [c]; decide), if_neg (by omega), if_pos e] at h
  exact h
theorem fit_2 {k : Nat} (h : fitb pg k = true) (c : sem pg k 1 = false) (e : k % 4 = 2) : rng (pg k) 48 53 = true := by
  have c2 := fit_s2 h
  unfold fitb at h
  rw [if_neg (by rw [c2]; decide), if_neg (by rw [c]; decide), if_neg (by omega), if_neg (by omega), if_pos e] at h
  exact h
theorem fit_3 {k : Nat} (h : fitb pg k = true) (c : sem pg k 1 = false) (e : k % 4 = 3) : fbr (pg k) (k / 4 + 1) = true := by
  have c2 := fit_s2 h
  unfold fitb at h
  rw [if_neg (by rw [c2]; decide), if_neg (by rw [c]; decide), if_neg (by omega), if_neg (by omega), if_neg (by omega)] at h
  exact h
/-- while no semicolon has come, there are at most five rivers -/
theorem k_19 {k : Nat} (h : ∀ j, j < k → fitb pg j = true) (c1 : sem pg k 1 = false) (c2 : sem pg k 2 = false) : k ≤ 19 := by
  refine Decidable.byContradiction (fun z => ?_)
  have n59 : ∀ j, j < k → ¬ pg j = 59 := by
    intro j hj e
    by_cases a : j + 1 = k
    · exact sem_f.mp c1 ⟨by omega, by rw [show k - 1 = j by omega]; exact e⟩
    · by_cases b : j + 2 = k
      · exact sem_f.mp c2 ⟨by omega, by rw [show k - 2 = j by omega]; exact e⟩
      · have := fit_s2 (h (j + 2) (by omega))
        exact sem_f.mp this ⟨by omega, by rw [show j + 2 - 2 = j by omega]; exact e⟩
  have h19 := fit_3 (h 19 (by omega)) (sem_f.mpr (fun q => n59 18 (by omega) q.2)) (by decide)
  unfold fbr at h19
  by_cases a : pg 19 = 44
  · rw [if_pos a] at h19; revert h19; decide
  · rw [if_neg a, if_neg (n59 19 (by omega))] at h19; cases h19
theorem gS_eq : ∀ k, (∀ j, j < k → fitb pg j = true) → gS pg k = stM pg k ∧ gR pg k = (k + 1) / 4 := by
  intro k
  induction k with
  | zero =>
    intro _
    refine ⟨?_, rfl⟩
    unfold stM
    rw [if_neg (fun z => absurd (sem_t.mp z).1 (by omega)), if_neg (fun z => absurd (sem_t.mp z).1 (by omega))]
    rfl
  | succ k ih =>
    intro h
    obtain ⟨i1, i2⟩ := ih (fun j hj => h j (by omega))
    have hk := h k (by omega)
    have c2 := fit_s2 hk
    show gst (gS pg k) (pg k) = _ ∧ grm (gS pg k) (gR pg k) = _
    rw [i1, i2]
    have e2 : sem pg (k + 1) 2 = sem pg k 1 := by
      unfold sem
      by_cases a : 1 ≤ k
      · rw [show k + 1 - 2 = k - 1 by omega]
        exact decide_eq_decide.mpr ⟨fun q => ⟨a, q.2⟩, fun q => ⟨by omega, q.2⟩⟩
      · rw [decide_eq_false (fun q => a (by omega)), decide_eq_false (fun q => a q.1)]
    have e1 : sem pg (k + 1) 1 = decide (pg k = 59) := by
      unfold sem
      exact decide_eq_decide.mpr ⟨fun q => q.2, fun q => ⟨by omega, q⟩⟩
    unfold stM
    rw [e2, e1, if_neg (by rw [c2]; decide)]
    cases c1 : sem pg k 1 with
    | true =>
      rw [if_pos rfl, if_pos rfl]
      have hr := fit_s1 hk c1
      have hk4 := fit_59 (h (k - 1) (by omega)) (sem_t.mp c1).2
      have l1 := (sem_t.mp c1).1
      refine ⟨rfl, ?_⟩
      show (if 4 = 2 then _ else _ : Nat) = _
      rw [if_neg (by decide)]; omega
    | false =>
      rw [if_neg (by decide), if_neg (by decide)]
      by_cases m3 : k % 4 = 3
      · have f3 := fit_3 hk c1 m3
        refine ⟨?_, by unfold grm; rw [if_neg (by omega)]; omega⟩
        unfold gst
        rw [if_pos m3]
        unfold fbr at f3
        by_cases a : pg k = 44
        · rw [if_pos a, if_neg (by rw [a]; decide)]; omega
        · rw [if_neg a] at f3
          rw [if_neg a]
          by_cases b : pg k = 59
          · rw [if_pos (decide_eq_true b)]
          · rw [if_neg b] at f3; cases f3
      · have n59 : ¬ pg k = 59 := fun e => m3 (fit_59 hk e).1
        rw [if_neg (by rw [decide_eq_false n59]; decide)]
        refine ⟨by unfold gst; rw [if_neg m3]; omega, ?_⟩
        unfold grm
        by_cases m2 : k % 4 = 2
        · rw [if_pos m2]; omega
        · rw [if_neg m2]; omega
theorem gS_le {k : Nat} (h : ∀ j, j < k → fitb pg j = true) : gS pg k ≤ 5 := by
  rw [(gS_eq k h).1]
  unfold stM
  split
  · omega
  · split
    · omega
    · have := Nat.mod_lt k (show 4 > 0 by decide); omega
theorem gR_4 {k : Nat} (h : ∀ j, j < k → fitb pg j = true) (hs : gS pg k ≤ 2) : gR pg k ≤ 4 := by
  rw [(gS_eq k h).1] at hs
  rw [(gS_eq k h).2]
  unfold stM at hs
  cases c2 : sem pg k 2 with
  | true => rw [if_pos c2] at hs; omega
  | false =>
    rw [if_neg (by rw [c2]; decide)] at hs
    cases c1 : sem pg k 1 with
    | true => rw [if_pos c1] at hs; omega
    | false =>
      rw [if_neg (by rw [c1]; decide)] at hs
      have := k_19 h c1 c2
      omega
theorem gfit_eq {k : Nat} (h : ∀ j, j < k → fitb pg j = true) (hc : pg k < 128) : gfit (gS pg k) (gR pg k) (pg k) = fitb pg k := by
  rw [(gS_eq k h).1, (gS_eq k h).2]
  cases c2 : sem pg k 2 with
  | true =>
    have e1 : stM pg k = 5 := by unfold stM; rw [if_pos c2]
    have e2 : fitb pg k = false := by unfold fitb; rw [if_pos c2]
    rw [e1, e2]; rfl
  | false =>
    have n2 : ¬ sem pg k 2 = true := by rw [c2]; decide
    cases c1 : sem pg k 1 with
    | true =>
      have e1 : stM pg k = 4 := by unfold stM; rw [if_neg n2, if_pos c1]
      have e2 : fitb pg k = rng (pg k) 49 57 := by unfold fitb; rw [if_neg n2, if_pos c1]
      rw [e1, e2]; rfl
    | false =>
      have n1 : ¬ sem pg k 1 = true := by rw [c1]; decide
      have e1 : stM pg k = k % 4 := by unfold stM; rw [if_neg n2, if_neg n1]
      rw [e1]
      unfold fitb
      rw [if_neg n2, if_neg n1]
      unfold gfit
      by_cases m0 : k % 4 = 0
      · rw [if_pos m0, if_pos m0, kb_neg _ hc]
      · rw [if_neg m0, if_neg m0]
        by_cases m1 : k % 4 = 1
        · rw [if_pos m1, if_pos m1]
        · rw [if_neg m1, if_neg m1]
          by_cases m2 : k % 4 = 2
          · rw [if_pos m2, if_pos m2]
          · rw [if_neg m2, if_neg m2, if_pos (by omega)]
            unfold fbr
            have e : (k + 1) / 4 = k / 4 + 1 := by omega
            rw [e]
            rfl
/-- a page that is a coast -/
theorem coast_n {ps : Nat} (h : hcb pg ps = true) : (∀ j, j < ps → fitb pg j = true) ∧ ff pg ps = ps ∧ sem pg ps 2 = true ∧ gS pg ps = 5 ∧ ∃ n, 2 ≤ n ∧ n ≤ 5 ∧ ps = n * 4 + 1 := by
  unfold hcb at h
  rw [Bool.and_eq_true, decide_eq_true_iff] at h
  obtain ⟨h1, h2⟩ := h
  have ha := ff_all h1
  obtain ⟨l2, e59⟩ := sem_t.mp h2
  obtain ⟨m3, g1⟩ := fit_59 (ha (ps - 2) (by omega)) e59
  have c1 : sem pg (ps - 2) 1 = false := by
    cases c : sem pg (ps - 2) 1 with
    | false => rfl
    | true =>
      have := fit_s1 (ha (ps - 2) (by omega)) c
      rw [e59] at this; revert this; decide
  have h19 := k_19 (k := ps - 2) (fun j hj => ha j (by omega)) c1 (fit_s2 (ha (ps - 2) (by omega)))
  refine ⟨ha, h1, h2, ?_, ps / 4, by omega, by omega, by omega⟩
  rw [(gS_eq ps ha).1]
  unfold stM
  rw [if_pos h2]
theorem coast_no {ps : Nat} (h : hcb pg ps = false) (h1 : ff pg ps = ps) : ¬ gS pg ps = 5 := by
  have ha := ff_all h1
  unfold hcb at h
  rw [decide_eq_true h1, Bool.true_and] at h
  rw [(gS_eq ps ha).1]
  unfold stM
  rw [if_neg (by rw [h]; decide)]
  split
  · decide
  · have := Nat.mod_lt ps (show 4 > 0 by decide); omega
section Read
variable {n : Nat} {d : Nat → Int32} {b : Int32} (ha : ∀ j, j < n * 4 + 1 → fitb pg j = true) (hs : sem pg (n * 4 + 1) 2 = true)
theorem no_sem (ha : ∀ j, j < n * 4 + 1 → fitb pg j = true) {k : Nat} (hk : k < n * 4) : sem pg k 1 = false := by
  cases c : sem pg k 1 with
  | false => rfl
  | true =>
    obtain ⟨l1, e⟩ := sem_t.mp c
    exact absurd (fit_s2 (ha (k + 1) (by omega))) (fun z => sem_f.mp z ⟨by omega, by rw [show k + 1 - 2 = k - 1 by omega]; exact e⟩)
theorem gS_k (ha : ∀ j, j < n * 4 + 1 → fitb pg j = true) {k : Nat} (hk : k < n * 4) : gS pg k = k % 4 := by
  rw [(gS_eq k (fun j hj => ha j (by omega))).1]
  unfold stM
  rw [if_neg (by rw [fit_s2 (ha k (by omega))]; decide), if_neg (by rw [no_sem ha hk]; decide)]
theorem gS_4n (ha : ∀ j, j < n * 4 + 1 → fitb pg j = true) (hs : sem pg (n * 4 + 1) 2 = true) (hn : 2 ≤ n) : gS pg (n * 4) = 4 := by
  rw [(gS_eq (n * 4) (fun j hj => ha j (by omega))).1]
  unfold stM
  have e : sem pg (n * 4) 1 = true := by
    obtain ⟨l, q⟩ := sem_t.mp hs
    exact sem_t.mpr ⟨by omega, by rw [show n * 4 - 1 = n * 4 + 1 - 2 by omega]; exact q⟩
  rw [if_neg (by rw [fit_s2 (ha (n * 4) (by omega))]; decide), if_pos e]
theorem gB_e (ha : ∀ j, j < n * 4 + 1 → fitb pg j = true) (hs : sem pg (n * 4 + 1) 2 = true) (hn : 2 ≤ n) : gB pg b (n * 4 + 1) = nI (pg (n * 4)) - 48 := by
  show grb (gS pg (n * 4)) _ _ = _
  rw [gS_4n ha hs hn]
  rfl
theorem gD_k (ha : ∀ j, j < n * 4 + 1 → fitb pg j = true) : ∀ k, k ≤ n * 4 → ∀ r, (r * 4 < k → gD pg d k (3 * r) = kb (pg (r * 4))) ∧ (r * 4 + 1 < k → gD pg d k (3 * r + 1) = nI (pg (r * 4 + 1)) - 48) ∧ (r * 4 + 2 < k → gD pg d k (3 * r + 2) = nI (pg (r * 4 + 2)) - 48) := by
  intro k
  induction k with
  | zero => intro _ r; exact ⟨fun z => by omega, fun z => by omega, fun z => by omega⟩
  | succ k ih =>
    intro hk r
    obtain ⟨i0, i1, i2⟩ := ih (by omega) r
    have es := gS_k ha (k := k) (by omega)
    have er := (gS_eq k (fun j hj => ha j (by omega))).2
    have eD : gD pg d (k + 1) = grd (k % 4) ((k + 1) / 4) (pg k) (gD pg d k) := by
      show grd (gS pg k) (gR pg k) _ _ = _
      rw [es, er]
    rw [eD]
    unfold grd
    by_cases m0 : k % 4 = 0
    · rw [if_pos m0]
      refine ⟨fun z => ?_, fun z => ?_, fun z => ?_⟩
      · by_cases e : r * 4 = k
        · rw [show 3 * r = 3 * ((k + 1) / 4) by omega, upd_s, ← e]
        · rw [upd_n (by omega)]; exact i0 (by omega)
      · rw [upd_n (by omega)]; exact i1 (by omega)
      · rw [upd_n (by omega)]; exact i2 (by omega)
    · rw [if_neg m0]
      by_cases m1 : k % 4 = 1
      · rw [if_pos m1]
        refine ⟨fun z => ?_, fun z => ?_, fun z => ?_⟩
        · rw [upd_n (by omega)]; exact i0 (by omega)
        · by_cases e : r * 4 + 1 = k
          · rw [show 3 * r + 1 = 3 * ((k + 1) / 4) + 1 by omega, upd_s, ← e]
          · rw [upd_n (by omega)]; exact i1 (by omega)
        · rw [upd_n (by omega)]; exact i2 (by omega)
      · rw [if_neg m1]
        by_cases m2 : k % 4 = 2
        · rw [if_pos m2]
          refine ⟨fun z => ?_, fun z => ?_, fun z => ?_⟩
          · rw [upd_n (by omega)]; exact i0 (by omega)
          · rw [upd_n (by omega)]; exact i1 (by omega)
          · by_cases e : r * 4 + 2 = k
            · rw [show 3 * r + 2 = 3 * ((k + 1) / 4) + 2 by omega, upd_s, ← e]
            · rw [upd_n (by omega)]; exact i2 (by omega)
        · rw [if_neg m2]
          exact ⟨fun z => i0 (by omega), fun z => i1 (by omega), fun z => i2 (by omega)⟩
theorem gD_e (ha : ∀ j, j < n * 4 + 1 → fitb pg j = true) (hs : sem pg (n * 4 + 1) 2 = true) (hn : 2 ≤ n) {r : Nat} (hr : r < n) : gD pg d (n * 4 + 1) (3 * r) = kb (pg (r * 4)) ∧ gD pg d (n * 4 + 1) (3 * r + 1) = nI (pg (r * 4 + 1)) - 48 ∧ gD pg d (n * 4 + 1) (3 * r + 2) = nI (pg (r * 4 + 2)) - 48 := by
  have e : gD pg d (n * 4 + 1) = gD pg d (n * 4) := by
    show grd (gS pg (n * 4)) _ _ _ = _
    rw [gS_4n ha hs hn]
    rfl
  rw [e]
  obtain ⟨a, b, c⟩ := gD_k (d := d) ha (n * 4) (Nat.le_refl _) r
  exact ⟨a (by omega), b (by omega), c (by omega)⟩
end Read
theorem ffl_cg {f f' g : Nat → Int32} {n : Nat} (h : ∀ j, j < n → f j = f' j) (j : Nat) : ffl f g n j = ffl f' g n j := by
  unfold ffl
  by_cases c : j < n
  · rw [if_pos c, if_pos c]; exact h j c
  · rw [if_neg c, if_neg c]
end Pure7
