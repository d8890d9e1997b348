/-! ===== the pure side: hours to come, what is seen, draws ===== -/
section Pure3
theorem wb_tb (n : Nat) : (lN n).toBitVec = BitVec.ofNat 64 n := rfl
theorem wb_inj {a b : Int64} (h : a.toBitVec = b.toBitVec) : a = b := Int64.toBitVec_inj.mp h
theorem wb_of (x : Int64) : ∃ n, n < 2 ^ 64 ∧ x = lN n := ⟨x.toBitVec.toNat, x.toBitVec.isLt, wb_inj (by rw [wb_tb]; simp)⟩
theorem wb_lt2 {a b : Nat} (h : a < b) : 2 ^ a < 2 ^ b := Nat.pow_lt_pow_right (by decide) h
theorem wb_and {a b : Nat} (ha : a < 2 ^ 64) (hb : b < 2 ^ 64) : lN a &&& lN b = lN (a &&& b) := by
  apply wb_inj
  rw [Int64.toBitVec_and, wb_tb, wb_tb, wb_tb]
  apply BitVec.eq_of_toNat_eq
  rw [BitVec.toNat_and, BitVec.toNat_ofNat, BitVec.toNat_ofNat, BitVec.toNat_ofNat, Nat.mod_eq_of_lt ha, Nat.mod_eq_of_lt hb, Nat.mod_eq_of_lt (Nat.and_lt_two_pow _ hb)]
theorem wb_mask {n k : Nat} (hn : n < 2 ^ 64) (hk : k < 64) : lN n &&& lN (2 ^ k - 1) = lN (n % 2 ^ k) := by
  rw [wb_and hn (by have := wb_lt2 hk; omega), Nat.and_two_pow_sub_one_eq_mod]
variable (n : Nat) (K F : Nat → Int32) (bar : Int32) (w : Nat → Int32) (ρ : Nat → Nat)
/-- behind k hours -/
def hit : Nat → (Nat → Int32) × (Nat → Nat)
  | 0 => (w, ρ)
  | k + 1 => (hww n K F bar (hit k).1 (hit k).2, hrr n K F bar (hit k).1 (hit k).2)
/-- of which one the sea takes in the hour k + 1 -/
def hof (k : Nat) : Int32 := hoo n K F bar (hit n K F bar w ρ k).1 (hit n K F bar w ρ k).2
/-- what stands behind k hours -/
def hsm (k : Nat) : Int32 := hsum (hit n K F bar w ρ k).1 n
def hwt (x : Int32) : Nat → Nat → Int32
  | 0, _ => -1
  | fu + 1, k => if hof n K F bar w ρ k = x then nI (k + 1) else hwt x fu (k + 1)
def hwd : Nat → Int32 × Int32
  | 0 => (-1, -1)
  | k + 1 => if hsm n K F bar w ρ (k + 1) ≤ (hwd k).2 then hwd k else (nI (k + 1), hsm n K F bar w ρ (k + 1))
/-- of which one the sea would take in the hour h -/
def htk (h : Nat) : Int32 := hof n K F bar w ρ (h - 1)
variable {n K F bar w ρ}
theorem PM.hrr (h : PM n ρ) (hn : 2 ≤ n) : PM n (hrr n K F bar w ρ) := by
  unfold Jvm.Pilot.CRiversQueueLaw_law_r2044_ed36ba.hrr
  have h1 := h.hpp (K := K) (w := hgr n F w) (n - 1) (by omega)
  split
  · exact h1.hsb (by omega)
  · exact h1
theorem PM.hit (h : PM n ρ) (hn : 2 ≤ n) : ∀ k, PM n (hit n K F bar w ρ k).2
  | 0 => h
  | k + 1 => (PM.hit h hn k).hrr hn
theorem hwt_s {x : Int32} {k : Nat} (h : k < 60) : hwt n K F bar w ρ x (60 - k) k = if hof n K F bar w ρ k = x then nI (k + 1) else hwt n K F bar w ρ x (60 - (k + 1)) (k + 1) := by
  have e : 60 - k = (60 - (k + 1)) + 1 := by omega
  rw [e]
  rfl
def ffl (f g : Nat → Int32) (i : Nat) : Nat → Int32 := fun k => if k < i then f k else g k
theorem ffl_0 (f g : Nat → Int32) (j : Nat) : g j = ffl f g 0 j := (if_neg (Nat.not_lt_zero j)).symm
theorem ffl_in {f g : Nat → Int32} {i j : Nat} (h : j < i) : ffl f g i j = f j := if_pos h
theorem ffl_s (f g : Nat → Int32) (i j : Nat) : upd (ffl f g i) i (f i) j = ffl f g (i + 1) j := by
  unfold upd ffl
  by_cases h : j = i
  · subst h
    rw [if_pos rfl, if_pos (by omega)]
  · rw [if_neg h]
    by_cases h2 : j < i
    · rw [if_pos h2, if_pos (by omega)]
    · rw [if_neg h2, if_neg (by omega)]
def hfl (T g : Nat → Int32) (k : Nat) : Nat → Int32 := fun h => if 1 ≤ h ∧ h ≤ k then T h else g h
theorem hfl_0 (T g : Nat → Int32) (j : Nat) : g j = hfl T g 0 j := by unfold hfl; rw [if_neg (by omega)]
theorem hfl_s {T g : Nat → Int32} {k : Nat} (j : Nat) : upd (hfl T g k) (k + 1) (T (k + 1)) j = hfl T g (k + 1) j := by
  unfold upd hfl
  by_cases h : j = k + 1
  · subst h
    rw [if_pos rfl, if_pos (by omega)]
  · rw [if_neg h]
    by_cases h2 : 1 ≤ j ∧ j ≤ k
    · rw [if_pos h2, if_pos (by omega)]
    · rw [if_neg h2, if_neg (by omega)]
/-- whether all that is seen would be so -/
def hag (T : Nat → Int32) (sh sr : Nat → Nat) (tb : Nat → Int32) : Nat → Bool
  | 0 => true
  | i + 1 => hag T sh sr tb i && decide ((if T (sh i) = nI (sr i) then (1 : Int32) else 0) = tb i)
theorem hag_t {T : Nat → Int32} {sh sr : Nat → Nat} {tb : Nat → Int32} {i : Nat} (h : hag T sh sr tb i = true) (e : (if T (sh i) = nI (sr i) then (1 : Int32) else 0) = tb i) : hag T sh sr tb (i + 1) = true := by
  show (hag T sh sr tb i && decide _) = true
  rw [h, decide_eq_true e]; rfl
theorem hag_f {T : Nat → Int32} {sh sr : Nat → Nat} {tb : Nat → Int32} {i : Nat} (e : ¬ (if T (sh i) = nI (sr i) then (1 : Int32) else 0) = tb i) : ∀ q, i < q → hag T sh sr tb q = false := by
  intro q
  induction q with
  | zero => intro h; omega
  | succ q ih =>
    intro h
    show (hag T sh sr tb q && decide _) = false
    by_cases hq : i = q
    · subst hq
      rw [decide_eq_false e, Bool.and_false]
    · rw [ih (by omega), Bool.false_and]
theorem hag_congr {T T' : Nat → Int32} {sh sr : Nat → Nat} {tb : Nat → Int32} : ∀ q, (∀ i, i < q → T (sh i) = T' (sh i)) → hag T sh sr tb q = hag T' sh sr tb q := by
  intro q
  induction q with
  | zero => intro _; rfl
  | succ q ih =>
    intro h
    show (hag T sh sr tb q && decide _) = (hag T' sh sr tb q && decide _)
    rw [ih (fun i hi => h i (by omega)), h q (by omega)]
theorem hag_fl {T g : Nat → Int32} {sh sr : Nat → Nat} {tb : Nat → Int32} {q : Nat} (h : ∀ i, i < q → 1 ≤ sh i ∧ sh i ≤ 12) : hag (hfl T g 12) sh sr tb q = hag T sh sr tb q := hag_congr q (fun i hi => if_pos (h i hi))
variable (n K F bar w ρ) (sh sr : Nat → Nat) (tb : Nat → Int32) (q rr : Nat)
/-- whether v can be the water of rr -/
def hpo (v : Nat) : Bool := hag (htk n K F bar (upd w rr (nI v)) ρ) sh sr tb q
def hbt : Nat → Int32
  | 0 => 0
  | v + 1 => if hpo n K F bar w ρ sh sr tb q rr v = true then hbt v ||| (1 <<< (nI v &&& 31)) else hbt v
def hct : Nat → Nat
  | 0 => 0
  | v + 1 => if hpo n K F bar w ρ sh sr tb q rr v = true then hct v + 1 else hct v
def hyr (T : Nat → Int32) (rr : Nat) (g : Nat → Nat) (k : Nat) : Nat → Nat := fun h => if 1 ≤ h ∧ h ≤ k ∧ T h = nI rr then g h + 1 else g h
def hys : Nat → Nat → Nat
  | 0 => fun _ => 0
  | v + 1 => if hpo n K F bar w ρ sh sr tb q rr v = true then hyr (htk n K F bar (upd w rr (nI v)) ρ) rr (hys v) 12 else hys v
variable {n K F bar w ρ sh sr tb q rr}
theorem hyr_0 (T : Nat → Int32) (rr : Nat) (g : Nat → Nat) (j : Nat) : g j = hyr T rr g 0 j := by unfold hyr; rw [if_neg (by omega)]
theorem hyr_t {T : Nat → Int32} {g : Nat → Nat} {k : Nat} (e : T (k + 1) = nI rr) (j : Nat) : un (hyr T rr g k) (k + 1) (g (k + 1) + 1) j = hyr T rr g (k + 1) j := by
  unfold un hyr
  by_cases h : j = k + 1
  · subst h
    rw [if_pos rfl, if_pos ⟨by omega, by omega, e⟩]
  · rw [if_neg h]
    by_cases h2 : 1 ≤ j ∧ j ≤ k ∧ T j = nI rr
    · rw [if_pos h2, if_pos ⟨h2.1, by omega, h2.2.2⟩]
    · rw [if_neg h2, if_neg (fun z => h2 ⟨z.1, by omega, z.2.2⟩)]
theorem hyr_f {T : Nat → Int32} {g : Nat → Nat} {k : Nat} (e : ¬ T (k + 1) = nI rr) (j : Nat) : hyr T rr g k j = hyr T rr g (k + 1) j := by
  unfold hyr
  by_cases h2 : 1 ≤ j ∧ j ≤ k ∧ T j = nI rr
  · rw [if_pos h2, if_pos ⟨h2.1, by omega, h2.2.2⟩]
  · rw [if_neg h2, if_neg]
    intro z
    by_cases h : j = k + 1
    · subst h; exact e z.2.2
    · exact h2 ⟨z.1, by omega, z.2.2⟩
theorem hyr_at (T : Nat → Int32) (g : Nat → Nat) (k : Nat) : hyr T rr g k (k + 1) = g (k + 1) := if_neg (by omega)
theorem hyr_fl {T g' : Nat → Int32} {g : Nat → Nat} (j : Nat) : hyr (hfl T g' 12) rr g 12 j = hyr T rr g 12 j := by
  unfold hyr
  by_cases h : 1 ≤ j ∧ j ≤ 12
  · have e : hfl T g' 12 j = T j := if_pos h
    rw [e]
  · rw [if_neg (fun z => h ⟨z.1, z.2.1⟩), if_neg (fun z => h ⟨z.1, z.2.1⟩)]
theorem hys_le : ∀ v h, hys n K F bar w ρ sh sr tb q rr v h ≤ hct n K F bar w ρ sh sr tb q rr v := by
  intro v
  induction v with
  | zero => intro h; exact Nat.le_refl _
  | succ v ih =>
    intro h
    show (if _ then _ else _ : Nat → Nat) h ≤ (if _ then _ else _ : Nat)
    split
    · have := ih h
      show (if _ then _ else _ : Nat) ≤ _
      split
      · exact Nat.succ_le_succ this
      · exact Nat.le_succ_of_le this
    · exact ih h
theorem hct_le : ∀ v, hct n K F bar w ρ sh sr tb q rr v ≤ v := by
  intro v
  induction v with
  | zero => exact Nat.le_refl _
  | succ v ih =>
    show (if _ then _ else _ : Nat) ≤ v + 1
    split
    · exact Nat.succ_le_succ ih
    · exact Nat.le_succ_of_le ih
def hlf (p : Nat) (g : Nat → Nat) (h : Nat) : Nat := if g h < p - g h then p - g h else g h
theorem hlf_le {p : Nat} {g : Nat → Nat} {h : Nat} (hg : g h ≤ p) : hlf p g h ≤ p := by unfold hlf; split <;> omega
theorem hlf_e {p : Nat} {g : Nat → Nat} {h : Nat} (hg : g h ≤ p) (hp : p ≤ 10) : (if nI (g h) < nI (p - g h) then nI (p - g h) else nI (g h)) = nI (hlf p g h) := by
  unfold hlf
  by_cases c : g h < p - g h
  · rw [if_pos c, if_pos ((jlt (by omega) (by omega)).mpr c)]
  · rw [if_neg c, if_neg (fun z => c ((jlt (by omega) (by omega)).mp z))]
/-- the hour to look in, among the first h, and what is left at worst -/
def hbs (p : Nat) (g : Nat → Nat) (st : Nat) : Nat → Int32 × Nat
  | 0 => (-1, st)
  | h + 1 => if hlf p g (h + 1) < (hbs p g st h).2 then (nI (h + 1), hlf p g (h + 1)) else hbs p g st h
theorem hbs_le {p : Nat} {g : Nat → Nat} {st : Nat} (hg : ∀ h, g h ≤ p) : ∀ h, (hbs p g st h).2 ≤ p + st := by
  intro h
  induction h with
  | zero => exact Nat.le_add_left _ _
  | succ h ih =>
    show (if _ then _ else _ : Int32 × Nat).2 ≤ _
    have := hlf_le (hg (h + 1))
    split
    · show hlf p g (h + 1) ≤ _; omega
    · exact ih
theorem hbs_st {p : Nat} {g : Nat → Nat} {s1 s2 : Nat} (hg : ∀ h, g h ≤ p) (h1 : p < s1) (h2 : p < s2) : ∀ h, hbs p g s1 (h + 1) = hbs p g s2 (h + 1) := by
  intro h
  induction h with
  | zero =>
    have := hlf_le (hg (0 + 1))
    show (if hlf p g (0 + 1) < s1 then _ else _ : Int32 × Nat) = (if hlf p g (0 + 1) < s2 then _ else _ : Int32 × Nat)
    rw [if_pos (by omega), if_pos (by omega)]
  | succ h ih =>
    show (if _ then _ else _ : Int32 × Nat) = (if _ then _ else _ : Int32 × Nat)
    rw [ih]
/-- a draw: the next seed -/
def hsd (s : Int32) : Int32 := Int64.toInt32 ((1103515245 * Int32.toInt64 s + 12345) &&& 2147483647)
def hdt (s : Int32) : Nat := (1103515245 * Int32.toInt64 s + 12345).toBitVec.toNat % 2 ^ 31
theorem hdt_lt (s : Int32) : hdt s < 2 ^ 31 := Nat.mod_lt _ (by decide)
theorem hsd_nI (s : Int32) : hsd s = nI (hdt s) := by
  unfold hsd hdt
  generalize 1103515245 * Int32.toInt64 s + 12345 = x
  obtain ⟨m, hm, rfl⟩ := wb_of x
  have e := wb_mask (k := 31) hm (by decide)
  have e2 : (2147483647 : Int64) = lN (2 ^ 31 - 1) := by decide
  rw [e2, e, lN_i]
  congr 1
  rw [wb_tb, BitVec.toNat_ofNat, Nat.mod_eq_of_lt hm]
/-- what is drawn by a seed -/
def hdv (s : Int32) (d : Nat) : Nat := hdt s / 65536 % d
theorem hdv_lt (s : Int32) {d : Nat} (h : 0 < d) : hdv s d < d := Nat.mod_lt _ h
theorem hdq_lt (s : Int32) : hdt s / 65536 < 2 ^ 31 := Nat.lt_of_le_of_lt (Nat.div_le_self _ _) (hdt_lt s)
variable (n K F bar w ρ)
def hse (sd : Int32) : Nat → ((Nat → Int32) × (Nat → Nat)) × (Int32 × Int32)
  | 0 => ((w, ρ), (sd, 0))
  | k + 1 =>
    ((hww n K F bar (upd (hse sd k).1.1 (hdv (hsd (hse sd k).2.1) n) (hcap ((hse sd k).1.1 (hdv (hsd (hse sd k).2.1) n) + nI (hdv (hse sd k).2.1 4)))) (hse sd k).1.2,
      hrr n K F bar (upd (hse sd k).1.1 (hdv (hsd (hse sd k).2.1) n) (hcap ((hse sd k).1.1 (hdv (hsd (hse sd k).2.1) n) + nI (hdv (hse sd k).2.1 4)))) (hse sd k).1.2),
     (hsd (hsd (hse sd k).2.1), (hse sd k).2.2 + hmm n K F bar (upd (hse sd k).1.1 (hdv (hsd (hse sd k).2.1) n) (hcap ((hse sd k).1.1 (hdv (hsd (hse sd k).2.1) n) + nI (hdv (hse sd k).2.1 4)))) (hse sd k).1.2))
variable {n K F bar w ρ}
theorem PM.hse (h : PM n ρ) (hn : 2 ≤ n) (sd : Int32) : ∀ k, PM n (hse n K F bar w ρ sd k).1.2
  | 0 => h
  | k + 1 => (PM.hse h hn sd k).hrr hn
end Pure3
