/-! ===== the pure side: bits, the reference's way of looking ===== -/
section Pure4
theorem or_0 (x : Int32) : x ||| 0 = x := Int32.toBitVec_inj.mp (by simp)
theorem bit_add : ∀ v, v < 10 → ∀ a, a < 2 ^ v → nI a ||| ((1 : Int32) <<< (nI v &&& 31)) = nI (a + 2 ^ v) := by decide +kernel
theorem bit_tst : ∀ v, v < 10 → ∀ b, b < 1024 → (((nI b >>> (nI v &&& 31)) &&& 1 = (1 : Int32)) ↔ b.testBit v = true) := by decide +kernel
theorem bit_new : ∀ v, v < 10 → ∀ a, a < 2 ^ v → (a + 2 ^ v).testBit v = true ∧ a.testBit v = false ∧ (∀ i, i < v → (a + 2 ^ v).testBit i = a.testBit i) := by decide +kernel
variable {n : Nat} {K F : Nat → Int32} {bar : Int32} {w : Nat → Int32} {ρ : Nat → Nat} {sh sr : Nat → Nat} {tb : Nat → Int32} {q rr : Nat}
theorem hbt_n : ∀ m, m ≤ 10 → ∃ b, b < 2 ^ m ∧ hbt n K F bar w ρ sh sr tb q rr m = nI b ∧ ∀ v, v < m → b.testBit v = hpo n K F bar w ρ sh sr tb q rr v := by
  intro m
  induction m with
  | zero => intro _; exact ⟨0, by decide, rfl, fun v hv => absurd hv (Nat.not_lt_zero v)⟩
  | succ m ih =>
    intro hm
    obtain ⟨b, hb, e, ht⟩ := ih (by omega)
    have hp : 2 ^ (m + 1) = 2 ^ m + 2 ^ m := by rw [Nat.pow_succ]; omega
    obtain ⟨n1, n2, n3⟩ := bit_new m (by omega) b hb
    cases hc : hpo n K F bar w ρ sh sr tb q rr m with
    | true =>
      refine ⟨b + 2 ^ m, by omega, ?_, fun v hv => ?_⟩
      · show (if _ then _ else _ : Int32) = _
        rw [if_pos hc, e]
        exact bit_add m (by omega) b hb
      · by_cases h : v = m
        · subst h; rw [n1, hc]
        · rw [n3 v (by omega)]; exact ht v (by omega)
    | false =>
      refine ⟨b, by omega, ?_, fun v hv => ?_⟩
      · show (if _ then _ else _ : Int32) = _
        rw [if_neg (by rw [hc]; decide)]
        exact e
      · by_cases h : v = m
        · subst h; rw [n2, hc]
        · exact ht v (by omega)
theorem hbt_bit {v : Nat} (hv : v < 10) : ((hbt n K F bar w ρ sh sr tb q rr 10 >>> (nI v &&& 31)) &&& 1 = (1 : Int32)) ↔ hpo n K F bar w ρ sh sr tb q rr v = true := by
  obtain ⟨b, hb, e, ht⟩ := hbt_n (n := n) (K := K) (F := F) (bar := bar) (w := w) (ρ := ρ) (sh := sh) (sr := sr) (tb := tb) (q := q) (rr := rr) 10 (Nat.le_refl _)
  rw [e, bit_tst v hv b hb, ht v hv]
theorem hag_e0 {T : Nat → Int32} {i : Nat} (h : hag T sh sr tb i = false) : (0 : Int32) = bI (hag T sh sr tb (i + 1)) := by
  show _ = bI (hag T sh sr tb i && _)
  rw [h]; rfl
theorem hag_e1 {T : Nat → Int32} {i : Nat} (h : hag T sh sr tb i = true) (e : (if T (sh i) = nI (sr i) then (1 : Int32) else 0) = tb i) : (1 : Int32) = bI (hag T sh sr tb (i + 1)) := by
  rw [hag_t h e]; rfl
theorem hag_e2 {T : Nat → Int32} {i : Nat} (e : ¬ (if T (sh i) = nI (sr i) then (1 : Int32) else 0) = tb i) : (0 : Int32) = bI (hag T sh sr tb (i + 1)) := by
  rw [hag_f e (i + 1) (by omega)]; rfl
/-- what is seen, as the reference holds it -/
def sgt (sh sr : Nat → Nat) (tb : Nat → Int32) : Nat → Int32 := fun j => if j % 3 = 0 then nI (sh (j / 3)) else if j % 3 = 1 then nI (sr (j / 3)) else tb (j / 3)
theorem sgt_0 (i : Nat) : sgt sh sr tb (3 * i) = nI (sh i) := by
  unfold sgt
  rw [if_pos (by omega), show 3 * i / 3 = i by omega]
theorem sgt_1 (i : Nat) : sgt sh sr tb (3 * i + 1) = nI (sr i) := by
  unfold sgt
  rw [if_neg (by omega), if_pos (by omega), show (3 * i + 1) / 3 = i by omega]
theorem sgt_2 (i : Nat) : sgt sh sr tb (3 * i + 2) = tb i := by
  unfold sgt
  rw [if_neg (by omega), if_neg (by omega), show (3 * i + 2) / 3 = i by omega]
theorem hlf_a {p : Nat} {g : Nat → Nat} {h : Nat} (c : g h ≤ p - g h) : nI (p - g h) = nI (hlf p g h) := by
  unfold hlf
  by_cases d : g h < p - g h
  · rw [if_pos d]
  · rw [if_neg d]; congr 1; omega
theorem hlf_b {p : Nat} {g : Nat → Nat} {h : Nat} (c : ¬ g h ≤ p - g h) : nI (g h) = nI (hlf p g h) := by
  unfold hlf
  rw [if_neg (by omega)]
theorem hse_s (sd : Int32) (k : Nat) : (hse n K F bar w ρ sd (k + 1)).2.2 = (hse n K F bar w ρ sd k).2.2 + hmm n K F bar (upd (hse n K F bar w ρ sd k).1.1 (hdv (hsd (hse n K F bar w ρ sd k).2.1) n) (hcap ((hse n K F bar w ρ sd k).1.1 (hdv (hsd (hse n K F bar w ρ sd k).2.1) n) + nI (hdv (hse n K F bar w ρ sd k).2.1 4)))) (hse n K F bar w ρ sd k).1.2 := rfl
end Pure4
