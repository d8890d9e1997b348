/-! ===== the pure side: the reference's public calls; bounds ===== -/
section Pure9
theorem lin_w (x : Int32) {a b : Int64} {lo hi : Int32} (e1 : a = lo.toInt64) (e2 : b = hi.toInt64) : lin x.toInt64 a b = wth x lo hi := by rw [e1, e2]; exact lin_wth x lo hi
theorem hcb_f1 {pg : Nat → Nat} {ps : Nat} (h : ¬ ff pg ps = ps) : hcb pg ps = false := by unfold hcb; rw [decide_eq_false h]; rfl
theorem hcb_f2 {pg : Nat → Nat} {ps : Nat} (h : ¬ gS pg ps = 5) : hcb pg ps = false := by
  cases c : hcb pg ps with
  | false => rfl
  | true => exact absurd (coast_n c).2.2.2.1 h
theorem hcb_t {pg : Nat → Nat} {ps : Nat} (h1 : ff pg ps = ps) (h : gS pg ps = 5) : hcb pg ps = true := by
  cases c : hcb pg ps with
  | true => rfl
  | false => exact absurd h (coast_no c h1)
theorem wth_d {x : Int32} {hi : Nat} (hh : hi < 1000) (h : ∀ k : Nat, k ≤ hi → ¬ x = nI k) : wth x 0 (nI hi) = false := by
  cases c : wth x 0 (nI hi) with
  | false => rfl
  | true =>
    obtain ⟨k, h1, h2, e⟩ := wth_of (lo := 0) (hi := hi) c (by decide) hh
    exact absurd e (h k h2)
theorem wth_10 (x : Int32) : wth x 10 14 = wth (x - 10) 0 4 := by
  cases a : wth x 10 14 with
  | true =>
    obtain ⟨k, h1, h2, rfl⟩ := wth_of (lo := 10) (hi := 14) a (by decide) (by decide)
    rw [show nI k - 10 = nI (k - 10) from pk_sub (a := k) (b := 10) h1]
    exact (wth_k (lo := 0) (hi := 4) (k := k - 10) (by omega) (by omega) (by decide)).symm
  | false =>
    cases b : wth (x - 10) 0 4 with
    | false => rfl
    | true =>
      obtain ⟨k, h1, h2, e⟩ := wth_of (lo := 0) (hi := 4) b (by decide) (by decide)
      have ex : x = nI (k + 10) := by
        have h3 : x - 10 + 10 = nI k + 10 := by rw [e]
        rw [Int32.sub_add_cancel] at h3
        rw [h3]
        exact nI_add k 10
      have w1 : wth x 10 14 = true := by rw [ex]; exact wth_k (lo := 10) (hi := 14) (k := k + 10) (by omega) (by omega) (by decide)
      rw [w1] at a
      cases a
theorem hin_f {n k : Nat} (h : n ≤ k) (hk : k < 1000) : hin (nI n) (nI k) = false := by
  unfold hin
  rw [decide_eq_true ((jle (a := n) (b := k) (by omega) (by omega)).mpr h), Bool.not_true, Bool.and_false]
theorem sgt_u {sh sr : Nat → Nat} {tb : Nat → Int32} {q a b : Nat} {t : Int32} (j : Nat) : upd (upd (upd (sgt sh sr tb) (3 * q) (nI a)) (3 * q + 1) (nI b)) (3 * q + 2) t j = sgt (un sh q a) (un sr q b) (upd tb q t) j := by
  by_cases h2 : j = 3 * q + 2
  · subst h2
    rw [upd_s, sgt_2, upd_s]
  · rw [upd_n h2]
    by_cases h1 : j = 3 * q + 1
    · subst h1
      rw [upd_s, sgt_1, un_s]
    · rw [upd_n h1]
      by_cases h0 : j = 3 * q
      · subst h0
        rw [upd_s, sgt_0, un_s]
      · rw [upd_n h0]
        unfold sgt
        by_cases m0 : j % 3 = 0
        · rw [if_pos m0, if_pos m0, un_n (by omega)]
        · rw [if_neg m0, if_neg m0]
          by_cases m1 : j % 3 = 1
          · rw [if_pos m1, if_pos m1, un_n (by omega)]
          · rw [if_neg m1, if_neg m1, upd_n (by omega)]
section Took
variable {n : Nat} {K F : Nat → Int32} {bar : Int32} {w : Nat → Int32} {ρ : Nat → Nat}
theorem nI_nm1 {k : Nat} (h : k < 1000) : ¬ nI k = -1 := fun z => absurd (congrArg Int32.toInt z) (by rw [nI_toInt (by omega), show (-1 : Int32).toInt = -1 from rfl]; omega)
theorem hfi_lt (h : PM n ρ) (hn : 2 ≤ n) : hfi n K F w ρ < n := (h.hpp (K := K) (w := hgr n F w) (n - 1) (by omega)).1 0 (by omega)
theorem hoo_f (h : ¬ hoo n K F bar w ρ = -1) : hoo n K F bar w ρ = nI (hfi n K F w ρ) := by
  unfold hoo hto at h ⊢
  by_cases c : hmu bar (hgr n F w) (hfi n K F w ρ) ≤ 0
  · rw [if_pos c] at h; exact absurd rfl h
  · rw [if_neg c]
theorem hoo_t (h : hoo n K F bar w ρ = -1) (hl : hfi n K F w ρ < 1000) (h0 : 0 ≤ hmm n K F bar w ρ) : hmm n K F bar w ρ = 0 := by
  unfold hoo hto at h
  by_cases c : hmu bar (hgr n F w) (hfi n K F w ρ) ≤ 0
  · exact Int32.le_antisymm c h0
  · rw [if_neg c] at h
    exact absurd h (nI_nm1 hl)
theorem htt_id {tk : Nat → Int32} (h : hmm n K F bar w ρ = 0) (j : Nat) : tk j = htt n K F bar w ρ tk j := by
  unfold htt
  rw [h]
  by_cases c : j = hfi n K F w ρ
  · subst c
    rw [upd_s, Int32.add_zero]
  · rw [upd_n c]
end Took
theorem bf_d {α : Type} {p : Prop} [Decidable p] (a b : α) : bf (decide p) a b = if p then a else b := by
  by_cases h : p
  · rw [bf_t (decide_eq_true h), if_pos h]
  · rw [bf_f (decide_eq_false h), if_neg h]
theorem nt_f {b : Bool} (h : b = false) : (!b) = true := by rw [h]; rfl
theorem nt_t {b : Bool} (h : b = true) : (!b) = false := by rw [h]; rfl
/-- the waters: each 0 to 99 -/
def WB (m n : Nat) (w : Nat → Int32) : Prop := ∀ j, j < n → ∃ v : Nat, v ≤ m ∧ w j = nI v
theorem hcap_n {v : Nat} (h : v < 1000) : ∃ u : Nat, u ≤ 99 ∧ hcap (nI v) = nI u := by
  by_cases c : v ≤ 99
  · exact ⟨v, c, hcap_t ((jle (a := v) (b := 99) (by omega) (by omega)).mpr c)⟩
  · exact ⟨99, Nat.le_refl _, hcap_f (fun z => c ((jle (a := v) (b := 99) (by omega) (by omega)).mp z))⟩
section Bounds
variable {n : Nat} {K F : Nat → Int32} {bar : Int32} {w : Nat → Int32} {ρ : Nat → Nat}
theorem WB.upd {m k : Nat} {x : Int32} (h : WB m n w) (hx : ∃ v : Nat, v ≤ m ∧ x = nI v) : WB m n (upd w k x) := fun j hj => by
  by_cases c : j = k
  · subst c; rw [upd_s]; exact hx
  · rw [upd_n c]; exact h j hj
theorem WB.hgr (h : WB 99 n w) (hF : WB 9 n F) (i : Nat) : WB 99 n (hgr i F w) := fun j hj => by
  unfold Jvm.Pilot.CRiversQueueLaw_law_r2044_ed36ba.hgr
  by_cases c : j < i
  · rw [if_pos c]
    obtain ⟨a, ha, ea⟩ := h j hj
    obtain ⟨b, hb, eb⟩ := hF j hj
    rw [ea, eb, show nI a + nI b = nI (a + b) from nI_add a b]
    exact hcap_n (by omega)
  · rw [if_neg c]; exact h j hj
theorem hmu_n {f b : Nat} (h : ∃ v : Nat, v ≤ 99 ∧ w f = nI v) (hb : b ≤ 9) : ∃ u : Nat, u ≤ 99 ∧ hmu (nI b) w f = nI u ∧ ∃ v : Nat, w f = nI v ∧ u ≤ v ∧ v ≤ 99 := by
  obtain ⟨v, hv, e⟩ := h
  unfold hmu
  rw [e]
  by_cases c : v < b
  · exact ⟨v, hv, if_pos ((jlt (a := v) (b := b) (by omega) (by omega)).mpr c), v, rfl, Nat.le_refl _, hv⟩
  · exact ⟨b, by omega, if_neg (fun z => c ((jlt (a := v) (b := b) (by omega) (by omega)).mp z)), v, rfl, by omega, hv⟩
/-- a coast's bar -/
def BB (bar : Int32) : Prop := ∃ b : Nat, b ≤ 9 ∧ bar = nI b
theorem hmm_n (h : WB 99 n w) (hF : WB 9 n F) (hb : BB bar) (hp : PM n ρ) (hn : 2 ≤ n) : ∃ u v : Nat, hmm n K F bar w ρ = nI u ∧ hgr n F w (hfi n K F w ρ) = nI v ∧ u ≤ v ∧ v ≤ 99 := by
  obtain ⟨b, hb, rfl⟩ := hb
  obtain ⟨u, hu, e, v, ev, huv, hv⟩ := hmu_n (w := hgr n F w) (f := hfi n K F w ρ) (b := b) (h.hgr hF n _ (hfi_lt hp hn)) hb
  exact ⟨u, v, e, ev, huv, hv⟩
theorem hmm_0 (h : WB 99 n w) (hF : WB 9 n F) (hb : BB bar) (hp : PM n ρ) (hn : 2 ≤ n) : 0 ≤ hmm n K F bar w ρ := by
  obtain ⟨u, v, e, -, h1, h2⟩ := hmm_n (K := K) h hF hb hp hn
  rw [e]
  exact (jle (a := 0) (b := u) (by omega) (by omega)).mpr (Nat.zero_le _)
theorem WB.hww (h : WB 99 n w) (hF : WB 9 n F) (hb : BB bar) (hp : PM n ρ) (hn : 2 ≤ n) : WB 99 n (hww n K F bar w ρ) := by
  obtain ⟨u, v, e, ev, h1, h2⟩ := hmm_n (K := K) h hF hb hp hn
  refine (h.hgr hF n).upd ⟨v - u, by omega, ?_⟩
  rw [e, ev]
  exact pk_sub (a := v) (b := u) h1
theorem WB.hit (h : WB 99 n w) (hF : WB 9 n F) (hb : BB bar) (hp : PM n ρ) (hn : 2 ≤ n) : ∀ k, WB 99 n (hit n K F bar w ρ k).1
  | 0 => h
  | k + 1 => (WB.hit h hF hb hp hn k).hww hF hb (hp.hit hn k) hn
theorem hsum_n (h : WB 99 n w) : ∀ i, i ≤ n → ∃ v : Nat, v ≤ 99 * i ∧ hsum w i = nI v
  | 0, _ => ⟨0, Nat.le_refl _, rfl⟩
  | i + 1, hi => by
    obtain ⟨v, hv, e⟩ := hsum_n h i (by omega)
    obtain ⟨u, hu, e2⟩ := h i (by omega)
    refine ⟨v + u, by omega, ?_⟩
    show hsum w i + w i = _
    rw [e, e2]
    exact nI_add v u
theorem hsm_n (h : WB 99 n w) (hF : WB 9 n F) (hb : BB bar) (hp : PM n ρ) (hn : n = 0 ∨ (2 ≤ n ∧ n ≤ 5)) (k : Nat) : ∃ v : Nat, v < 1000 ∧ hsm n K F bar w ρ k = nI v := by
  rcases hn with z | z
  · exact ⟨0, by decide, by unfold hsm; rw [z]; rfl⟩
  · obtain ⟨v, hv, e⟩ := hsum_n (WB.hit (K := K) h hF hb hp z.1 k) n (Nat.le_refl n)
    exact ⟨v, by omega, e⟩
theorem hsm_p (h : WB 99 n w) (hF : WB 9 n F) (hb : BB bar) (hp : PM n ρ) (hn : n = 0 ∨ (2 ≤ n ∧ n ≤ 5)) (k : Nat) : -1 < hsm n K F bar w ρ k := by
  obtain ⟨v, hv, e⟩ := hsm_n (K := K) h hF hb hp hn k
  rw [e, Int32.lt_iff_toInt_lt, nI_toInt (by omega), show (-1 : Int32).toInt = -1 from rfl]
  omega
theorem hvl_p (h : WB 99 n w) (hF : WB 9 n F) (hb : BB bar) (hn2 : 2 ≤ n) (hn5 : n ≤ 5) : ∀ l, l ∈ PL n → ¬ hvl n K F bar w l = -1 := by
  intro l hl
  obtain ⟨k, hk, e⟩ := List.mem_iff_getElem.mp hl
  have hp : PM n (lg l) := by
    have := lf_pm (n := n) (k := k) (by omega) hn2 hk
    unfold lf at this
    rw [show (PL n).getD k [] = l by rw [List.getD_eq_getElem?_getD, List.getElem?_eq_getElem hk, e]; rfl] at this
    exact this
  obtain ⟨v, hv, e2⟩ := hsm_n (K := K) h hF hb hp (Or.inr ⟨hn2, hn5⟩) 10
  unfold hvl
  rw [e2]
  exact nI_nm1 hv
end Bounds
end Pure9
