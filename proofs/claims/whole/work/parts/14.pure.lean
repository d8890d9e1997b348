/-! ===== the pure side: orders one behind another ===== -/
section Pure5
def PL : Nat → List (List Nat)
  | 2 => [[0, 1], [1, 0]]
  | 3 => [[0, 1, 2], [0, 2, 1], [1, 0, 2], [1, 2, 0], [2, 0, 1], [2, 1, 0]]
  | 4 => [[0, 1, 2, 3], [0, 1, 3, 2], [0, 2, 1, 3], [0, 2, 3, 1], [0, 3, 1, 2], [0, 3, 2, 1], [1, 0, 2, 3], [1, 0, 3, 2], [1, 2, 0, 3], [1, 2, 3, 0], [1, 3, 0, 2], [1, 3, 2, 0], [2, 0, 1, 3], [2, 0, 3, 1], [2, 1, 0, 3], [2, 1, 3, 0], [2, 3, 0, 1], [2, 3, 1, 0], [3, 0, 1, 2], [3, 0, 2, 1], [3, 1, 0, 2], [3, 1, 2, 0], [3, 2, 0, 1], [3, 2, 1, 0]]
  | 5 => [[0, 1, 2, 3, 4], [0, 1, 2, 4, 3], [0, 1, 3, 2, 4], [0, 1, 3, 4, 2], [0, 1, 4, 2, 3], [0, 1, 4, 3, 2], [0, 2, 1, 3, 4], [0, 2, 1, 4, 3], [0, 2, 3, 1, 4], [0, 2, 3, 4, 1], [0, 2, 4, 1, 3], [0, 2, 4, 3, 1], [0, 3, 1, 2, 4], [0, 3, 1, 4, 2], [0, 3, 2, 1, 4], [0, 3, 2, 4, 1], [0, 3, 4, 1, 2], [0, 3, 4, 2, 1], [0, 4, 1, 2, 3], [0, 4, 1, 3, 2], [0, 4, 2, 1, 3], [0, 4, 2, 3, 1], [0, 4, 3, 1, 2], [0, 4, 3, 2, 1], [1, 0, 2, 3, 4], [1, 0, 2, 4, 3], [1, 0, 3, 2, 4], [1, 0, 3, 4, 2], [1, 0, 4, 2, 3], [1, 0, 4, 3, 2], [1, 2, 0, 3, 4], [1, 2, 0, 4, 3], [1, 2, 3, 0, 4], [1, 2, 3, 4, 0], [1, 2, 4, 0, 3], [1, 2, 4, 3, 0], [1, 3, 0, 2, 4], [1, 3, 0, 4, 2], [1, 3, 2, 0, 4], [1, 3, 2, 4, 0], [1, 3, 4, 0, 2], [1, 3, 4, 2, 0], [1, 4, 0, 2, 3], [1, 4, 0, 3, 2], [1, 4, 2, 0, 3], [1, 4, 2, 3, 0], [1, 4, 3, 0, 2], [1, 4, 3, 2, 0], [2, 0, 1, 3, 4], [2, 0, 1, 4, 3], [2, 0, 3, 1, 4], [2, 0, 3, 4, 1], [2, 0, 4, 1, 3], [2, 0, 4, 3, 1], [2, 1, 0, 3, 4], [2, 1, 0, 4, 3], [2, 1, 3, 0, 4], [2, 1, 3, 4, 0], [2, 1, 4, 0, 3], [2, 1, 4, 3, 0], [2, 3, 0, 1, 4], [2, 3, 0, 4, 1], [2, 3, 1, 0, 4], [2, 3, 1, 4, 0], [2, 3, 4, 0, 1], [2, 3, 4, 1, 0], [2, 4, 0, 1, 3], [2, 4, 0, 3, 1], [2, 4, 1, 0, 3], [2, 4, 1, 3, 0], [2, 4, 3, 0, 1], [2, 4, 3, 1, 0], [3, 0, 1, 2, 4], [3, 0, 1, 4, 2], [3, 0, 2, 1, 4], [3, 0, 2, 4, 1], [3, 0, 4, 1, 2], [3, 0, 4, 2, 1], [3, 1, 0, 2, 4], [3, 1, 0, 4, 2], [3, 1, 2, 0, 4], [3, 1, 2, 4, 0], [3, 1, 4, 0, 2], [3, 1, 4, 2, 0], [3, 2, 0, 1, 4], [3, 2, 0, 4, 1], [3, 2, 1, 0, 4], [3, 2, 1, 4, 0], [3, 2, 4, 0, 1], [3, 2, 4, 1, 0], [3, 4, 0, 1, 2], [3, 4, 0, 2, 1], [3, 4, 1, 0, 2], [3, 4, 1, 2, 0], [3, 4, 2, 0, 1], [3, 4, 2, 1, 0], [4, 0, 1, 2, 3], [4, 0, 1, 3, 2], [4, 0, 2, 1, 3], [4, 0, 2, 3, 1], [4, 0, 3, 1, 2], [4, 0, 3, 2, 1], [4, 1, 0, 2, 3], [4, 1, 0, 3, 2], [4, 1, 2, 0, 3], [4, 1, 2, 3, 0], [4, 1, 3, 0, 2], [4, 1, 3, 2, 0], [4, 2, 0, 1, 3], [4, 2, 0, 3, 1], [4, 2, 1, 0, 3], [4, 2, 1, 3, 0], [4, 2, 3, 0, 1], [4, 2, 3, 1, 0], [4, 3, 0, 1, 2], [4, 3, 0, 2, 1], [4, 3, 1, 0, 2], [4, 3, 1, 2, 0], [4, 3, 2, 0, 1], [4, 3, 2, 1, 0]]
  | _ => []
def lg (l : List Nat) : Nat → Nat := fun j => l.getD j 0
def lf (n k : Nat) : Nat → Nat := lg ((PL n).getD k [])
def tmn (u : Nat) : Int32 := nI u - 1
theorem tmn_s (k : Nat) : tmn (k + 1) = nI k := nI_pred k
theorem tmn_d (k : Nat) : nI k + Int32.ofInt (-1) = tmn k := by
  unfold tmn
  have e : Int32.ofInt (-1) = -1 := by decide
  rw [e]
  exact (Int32.sub_eq_add_neg (nI k) 1).symm
theorem nI_dec {x : Nat} (h : 0 < x) : nI x + Int32.ofInt (-1) = nI (x - 1) := by
  obtain ⟨k, rfl⟩ : ∃ k, x = k + 1 := ⟨x - 1, by omega⟩
  rw [tmn_d, tmn_s]; rfl
theorem tmn_lt {u : Nat} (hu : u < 100) : tmn u < 0 ↔ u = 0 := by
  by_cases h : u = 0
  · subst h; exact ⟨fun _ => rfl, fun _ => by decide⟩
  · obtain ⟨k, rfl⟩ : ∃ k, u = k + 1 := ⟨u - 1, by omega⟩
    rw [tmn_s]
    exact ⟨fun z => absurd z (nI_pos (by omega)), fun z => absurd z (by omega)⟩
def nxu (o : Nat → Nat) : Nat → Nat
  | 0 => 0
  | u + 1 => if o (u + 1) < o u then nxu o u else u + 1
def nxn (o : Nat → Nat) (t : Nat) : Nat → Nat
  | 0 => 0
  | x + 1 => if t < x + 1 ∧ o (x + 1) < o t then nxn o t x else x + 1
def nsw (o : Nat → Nat) (a b : Nat) : Nat → Nat := un (un o a (o b)) b (o a)
def nrv : Nat → (Nat → Nat) → Nat → Nat → (Nat → Nat)
  | 0, o, _, _ => o
  | f + 1, o, lo, hi => if lo < hi then nrv f (nsw o lo hi) (lo + 1) (hi - 1) else o
def nxt (n : Nat) (o : Nat → Nat) : Bool × (Nat → Nat) :=
  if nxu o (n - 1) = 0 then (false, o) else (true, nrv 5 (nsw o (nxu o (n - 1) - 1) (nxn o (nxu o (n - 1) - 1) (n - 1))) (nxu o (n - 1) - 1 + 1) (n - 1))
theorem nxn_e {o : Nat → Nat} {t x : Nat} (h : ¬ (t < x ∧ o x < o t)) : nxn o t x = x := by
  cases x with
  | zero => rfl
  | succ x => exact if_neg h
theorem nxn_s {o : Nat → Nat} {t x : Nat} (h0 : 0 < x) (h : t < x ∧ o x < o t) : nxn o t x = nxn o t (x - 1) := by
  cases x with
  | zero => omega
  | succ x => exact if_pos h
theorem nrv_e {f : Nat} {o : Nat → Nat} {lo hi : Nat} (h : ¬ lo < hi) : nrv f o lo hi = o := by
  cases f with
  | zero => rfl
  | succ f => exact if_neg h
theorem nxu_congr {n : Nat} {o o' : Nat → Nat} (h : ∀ j, j < n → o j = o' j) : ∀ u, u < n → nxu o u = nxu o' u := by
  intro u
  induction u with
  | zero => intro _; rfl
  | succ u ih =>
    intro hu
    show (if _ then _ else _ : Nat) = if _ then _ else _
    rw [h (u + 1) hu, h u (by omega), ih (by omega)]
theorem nxu_le {o : Nat → Nat} : ∀ u, nxu o u ≤ u := by
  intro u
  induction u with
  | zero => exact Nat.le_refl _
  | succ u ih =>
    show (if _ then _ else _ : Nat) ≤ u + 1
    split
    · exact Nat.le_succ_of_le ih
    · exact Nat.le_refl _
theorem nxn_le {o : Nat → Nat} {t : Nat} : ∀ x, nxn o t x ≤ x := by
  intro x
  induction x with
  | zero => exact Nat.le_refl _
  | succ x ih =>
    show (if _ then _ else _ : Nat) ≤ x + 1
    split
    · exact Nat.le_succ_of_le ih
    · exact Nat.le_refl _
theorem nxn_congr {n : Nat} {o o' : Nat → Nat} (h : ∀ j, j < n → o j = o' j) {t : Nat} (ht : t < n) : ∀ x, x < n → nxn o t x = nxn o' t x := by
  intro x
  induction x with
  | zero => intro _; rfl
  | succ x ih =>
    intro hx
    show (if _ then _ else _ : Nat) = if _ then _ else _
    rw [h (x + 1) hx, h t ht, ih (by omega)]
theorem nsw_congr {n : Nat} {o o' : Nat → Nat} (h : ∀ j, j < n → o j = o' j) {a b : Nat} (ha : a < n) (hb : b < n) : ∀ j, j < n → nsw o a b j = nsw o' a b j := by
  intro j hj
  unfold nsw un
  rw [h a ha, h b hb, h j hj]
theorem nrv_congr {n : Nat} : ∀ (f : Nat) {o o' : Nat → Nat} (_ : ∀ j, j < n → o j = o' j) {lo hi : Nat} (_ : hi < n), ∀ j, j < n → nrv f o lo hi j = nrv f o' lo hi j := by
  intro f
  induction f with
  | zero => intro o o' h lo hi _ j hj; exact h j hj
  | succ f ih =>
    intro o o' h lo hi hh j hj
    show (if _ then _ else _ : Nat → Nat) j = (if _ then _ else _ : Nat → Nat) j
    by_cases c : lo < hi
    · rw [if_pos c, if_pos c]
      exact ih (nsw_congr h (by omega) hh) (by omega) j hj
    · rw [if_neg c, if_neg c]; exact h j hj
theorem nxt_congr {n : Nat} (hn : 0 < n) {o o' : Nat → Nat} (h : ∀ j, j < n → o j = o' j) : (nxt n o).1 = (nxt n o').1 ∧ ∀ j, j < n → (nxt n o).2 j = (nxt n o').2 j := by
  unfold nxt
  have e := nxu_congr h (n - 1) (by omega)
  rw [e]
  by_cases c : nxu o' (n - 1) = 0
  · rw [if_pos c, if_pos c]; exact ⟨rfl, h⟩
  · rw [if_neg c, if_neg c]
    have l1 := nxu_le (o := o') (n - 1)
    have e2 := nxn_congr h (t := nxu o' (n - 1) - 1) (by omega) (n - 1) (by omega)
    have l2 := nxn_le (o := o') (t := nxu o' (n - 1) - 1) (n - 1)
    refine ⟨rfl, fun j hj => ?_⟩
    show nrv 5 _ _ _ j = nrv 5 _ _ _ j
    rw [e2]
    exact nrv_congr 5 (nsw_congr h (by omega) (by omega)) (by omega) j hj
def idn (i : Nat) (o : Nat → Nat) : Nat → Nat := fun j => if j < i then j else o j
theorem idn_0 (o : Nat → Nat) (j : Nat) : o j = idn 0 o j := (if_neg (Nat.not_lt_zero j)).symm
theorem idn_s {o : Nat → Nat} (i j : Nat) : un (idn i o) i i j = idn (i + 1) o j := by
  unfold un idn
  by_cases h : j = i
  · subst h; rw [if_pos rfl, if_pos (by omega)]
  · rw [if_neg h]
    by_cases h2 : j < i
    · rw [if_pos h2, if_pos (by omega)]
    · rw [if_neg h2, if_neg (by omega)]
def osq (n : Nat) (o : Nat → Nat) : Nat → (Nat → Nat)
  | 0 => idn n o
  | k + 1 => (nxt n (osq n o k)).2
theorem tb0 : ∀ n, n < 6 → 2 ≤ n → ∀ j, j < n → lf n 0 j = j := by decide +kernel
theorem tb1 : ∀ n, n < 6 → 2 ≤ n → 1 ≤ (PL n).length ∧ (PL n).length ≤ 120 ∧ ((PL n).length = 120 ∨ (PL n).length < 120) := by decide +kernel
theorem tb2 : ∀ n, n < 6 → 2 ≤ n → ∀ k, k < (PL n).length - 1 → (nxt n (lf n k)).1 = true ∧ ∀ j, j < n → (nxt n (lf n k)).2 j = lf n (k + 1) j := by decide +kernel
theorem tb3 : ∀ n, n < 6 → 2 ≤ n → (nxt n (lf n ((PL n).length - 1))).1 = false := by decide +kernel
def pmb (n : Nat) (f : Nat → Nat) : Bool := (List.range n).all (fun j => decide (f j < n)) && ((List.range n).all (fun i => (List.range n).all (fun j => decide (f i = f j → i = j))) && (List.range n).all (fun k => (List.range n).any (fun j => decide (f j = k))))
theorem pmb_pm {n : Nat} {f : Nat → Nat} (h : pmb n f = true) : PM n f := by
  unfold pmb at h
  rw [Bool.and_eq_true, Bool.and_eq_true] at h
  obtain ⟨a, b, c⟩ := h
  refine ⟨fun j hj => of_decide_eq_true (List.all_eq_true.mp a j (List.mem_range.mpr hj)), fun i j hi hj => of_decide_eq_true (List.all_eq_true.mp (List.all_eq_true.mp b i (List.mem_range.mpr hi)) j (List.mem_range.mpr hj)), fun k hk => ?_⟩
  obtain ⟨j, hj, e⟩ := List.any_eq_true.mp (List.all_eq_true.mp c k (List.mem_range.mpr hk))
  exact ⟨j, List.mem_range.mp hj, of_decide_eq_true e⟩
theorem tb4 : ∀ n, n < 6 → 2 ≤ n → ∀ k, k < (PL n).length → pmb n (lf n k) = true := by decide +kernel
theorem lf_pm {n k : Nat} (h6 : n < 6) (h2 : 2 ≤ n) (hk : k < (PL n).length) : PM n (lf n k) := pmb_pm (tb4 n h6 h2 k hk)
theorem osq_lf {n : Nat} (h6 : n < 6) (h2 : 2 ≤ n) (o : Nat → Nat) : ∀ k, k < (PL n).length → ∀ j, j < n → osq n o k j = lf n k j := by
  intro k
  induction k with
  | zero => intro _ j hj; exact (if_pos hj).trans (tb0 n h6 h2 j hj).symm
  | succ k ih =>
    intro hk j hj
    have e := (nxt_congr (n := n) (by omega) (ih (by omega))).2 j hj
    exact e.trans ((tb2 n h6 h2 k (by omega)).2 j hj)
theorem osq_t {n : Nat} (h6 : n < 6) (h2 : 2 ≤ n) (o : Nat → Nat) {k : Nat} (hk : k + 1 < (PL n).length) : (nxt n (osq n o k)).1 = true :=
  (nxt_congr (n := n) (by omega) (osq_lf h6 h2 o k (by omega))).1.trans (tb2 n h6 h2 k (by omega)).1
theorem osq_f {n : Nat} (h6 : n < 6) (h2 : 2 ≤ n) (o : Nat → Nat) {k : Nat} (hk : k + 1 = (PL n).length) : (nxt n (osq n o k)).1 = false := by
  have e := (nxt_congr (n := n) (by omega) (osq_lf h6 h2 o k (by omega))).1
  have e2 : k = (PL n).length - 1 := by omega
  rw [e, e2]
  exact tb3 n h6 h2
theorem osq_pm {n : Nat} (h6 : n < 6) (h2 : 2 ≤ n) (o : Nat → Nat) {k : Nat} (hk : k < (PL n).length) : PM n (osq n o k) := (lf_pm h6 h2 hk).congr (osq_lf h6 h2 o k hk)
-- an hour sees the row's first n places alone
variable {n : Nat} {K F : Nat → Int32} {bar : Int32} {w : Nat → Int32}
theorem hpp_congr {ρ σ : Nat → Nat} (h : ∀ j, j < n → ρ j = σ j) : ∀ i, i < n → ∀ j, j < n → hpp K w ρ i j = hpp K w σ i j := by
  intro i
  induction i with
  | zero => intro _ j hj; exact h j hj
  | succ i ih =>
    intro hi j hj
    have ih := ih (by omega)
    have e1 := ih (i + 1) hi
    have e0 := ih i (by omega)
    cases c : hps K w (hpp K w σ i (i + 1)) (hpp K w σ i i) with
    | true =>
      rw [hpp_t c, hpp_t (by rw [e1, e0]; exact c)]
      unfold un
      rw [e1, e0, ih j hj]
    | false =>
      rw [hpp_f c, hpp_f (by rw [e1, e0]; exact c)]
      exact ih j hj
theorem hsb_congr {q : Nat} {ρ σ : Nat → Nat} (hq : q < n) (h : ∀ j, j < n → ρ j = σ j) : ∀ j, j < n → hsb n q ρ j = hsb n q σ j := by
  intro j hj
  unfold hsb
  by_cases c : q ≤ j ∧ j < n - 1
  · rw [if_pos c, if_pos c]; exact h _ (by omega)
  · rw [if_neg c, if_neg c, h q hq, h j hj]
theorem hour_congr {ρ σ : Nat → Nat} (hn : 2 ≤ n) (h : ∀ j, j < n → ρ j = σ j) : hww n K F bar w ρ = hww n K F bar w σ ∧ (∀ j, j < n → hrr n K F bar w ρ j = hrr n K F bar w σ j) ∧ hoo n K F bar w ρ = hoo n K F bar w σ ∧ hmm n K F bar w ρ = hmm n K F bar w σ := by
  have e := hpp_congr (K := K) (w := hgr n F w) h (n - 1) (by omega)
  have ef : hfi n K F w ρ = hfi n K F w σ := e 0 (by omega)
  have em : hmm n K F bar w ρ = hmm n K F bar w σ := by unfold hmm; rw [ef]
  refine ⟨by unfold hww; rw [ef, em], fun j hj => ?_, by unfold hoo; rw [ef], em⟩
  unfold hrr
  rw [ef, em]
  split
  · exact hsb_congr (by omega) e j hj
  · exact e j hj
theorem hit_congr {ρ σ : Nat → Nat} (hn : 2 ≤ n) (h : ∀ j, j < n → ρ j = σ j) : ∀ k, (hit n K F bar w ρ k).1 = (hit n K F bar w σ k).1 ∧ ∀ j, j < n → (hit n K F bar w ρ k).2 j = (hit n K F bar w σ k).2 j := by
  intro k
  induction k with
  | zero => exact ⟨rfl, h⟩
  | succ k ih =>
    obtain ⟨a, b⟩ := ih
    have c := hour_congr (K := K) (F := F) (bar := bar) (w := (hit n K F bar w σ k).1) hn b
    exact ⟨by show hww _ _ _ _ _ _ = hww _ _ _ _ _ _; rw [a]; exact c.1, fun j hj => by show hrr _ _ _ _ _ _ j = hrr _ _ _ _ _ _ j; rw [a]; exact c.2.1 j hj⟩
/-- what stands behind ten hours of an order -/
def hvl (n : Nat) (K F : Nat → Int32) (bar : Int32) (w : Nat → Int32) (l : List Nat) : Int32 := hsm n K F bar w (lg l) 10
theorem hvl_of {o : Nat → Nat} {l : List Nat} (hn : 2 ≤ n) (h : ∀ j, j < n → o j = lg l j) : hsm n K F bar w o 10 = hvl n K F bar w l := by
  unfold hvl hsm
  rw [(hit_congr hn h 10).1]
/-- the best so far -/
def cst (v : List Nat → Int32) (L : List (List Nat)) : Nat → Int32 × List Nat
  | 0 => (v (L.getD 0 []), L.getD 0 [])
  | k + 1 => if (cst v L k).1 ≤ v (L.getD (k + 1) []) then cst v L k else (v (L.getD (k + 1) []), L.getD (k + 1) [])
-- the reference's digits
def lyf (n : Nat) : Nat → Nat → Nat → (Nat → Nat) → Nat × (Nat → Nat)
  | 0, _, mask, ρ => (mask, ρ)
  | c + 1, left, mask, ρ => lyf n c (left / n) (mask ||| 2 ^ (left % n)) (un ρ c (left % n))
def isp (n c : Nat) : Bool := (lyf n n c 0 (fun _ => 0)).1 == 2 ^ n - 1
def dgs (n c : Nat) : List Nat := (List.range n).map (fun j => (lyf n n c 0 (fun _ => 0)).2 j)
theorem lyf_1 {n : Nat} : ∀ (c left mask : Nat) (ρ σ : Nat → Nat), (lyf n c left mask ρ).1 = (lyf n c left mask σ).1 := by
  intro c
  induction c with
  | zero => intro _ _ _ _; rfl
  | succ c ih => intro left mask ρ σ; exact ih _ _ _ _
theorem lyf_2 {n : Nat} : ∀ (c left mask : Nat) (ρ σ : Nat → Nat) (j : Nat), (c ≤ j → ρ j = σ j) → (lyf n c left mask ρ).2 j = (lyf n c left mask σ).2 j := by
  intro c
  induction c with
  | zero => intro _ _ ρ σ j h; exact h (Nat.zero_le _)
  | succ c ih =>
    intro left mask ρ σ j h
    refine ih _ _ _ _ j (fun hj => ?_)
    unfold un
    by_cases e : j = c
    · rw [if_pos e, if_pos e]
    · rw [if_neg e, if_neg e]; exact h (by omega)
theorem lyf_lg {n c : Nat} {ρ : Nat → Nat} {j : Nat} (hj : j < n) : (lyf n n c 0 ρ).2 j = lg (dgs n c) j := by
  have e := lyf_2 (n := n) n c 0 ρ (fun _ => 0) j (fun h => by omega)
  rw [e]
  unfold lg dgs
  rw [List.getD_eq_getElem?_getD, List.getElem?_map, List.getElem?_range hj]
  rfl
theorem mask_or : ∀ m, m < 32 → ∀ d, d < 5 → nI m ||| ((1 : Int32) <<< (nI d &&& 31)) = nI (m ||| 2 ^ d) := by decide +kernel
theorem mask_lt : ∀ m, m < 32 → ∀ d, d < 5 → m ||| 2 ^ d < 32 := by decide +kernel
theorem mask_e : ∀ n, n < 6 → ((1 : Int32) <<< (nI n &&& 31)) - 1 = nI (2 ^ n - 1) := by decide +kernel
theorem pow_n : ∀ n, n < 6 → ∀ i, i < n + 1 → n ^ i ≤ 3125 := by decide +kernel
def gps (n c : Nat) : Option (List Nat) := if isp n c = true then some (dgs n c) else none
theorem tb5 : ∀ n, n < 6 → 2 ≤ n → (List.range (n ^ n)).filterMap (gps n) = PL n := by decide +kernel
theorem tb6 {n c : Nat} (h6 : n < 6) (h2 : 2 ≤ n) (hc : c < n ^ n) (hp : isp n c = true) : PM n (lg (dgs n c)) := by
  have hm : dgs n c ∈ PL n := by
    rw [← tb5 n h6 h2]
    exact List.mem_filterMap.mpr ⟨c, List.mem_range.mpr hc, if_pos hp⟩
  obtain ⟨k, hk, e⟩ := List.getElem_of_mem hm
  have e2 : lf n k = lg (dgs n c) := by
    unfold lf
    rw [List.getD_eq_getElem?_getD, List.getElem?_eq_getElem hk, e]; rfl
  rw [← e2]
  exact lf_pm h6 h2 hk
theorem isp_pm {n c : Nat} {ρ : Nat → Nat} (h6 : n < 6) (h2 : 2 ≤ n) (hc : c < n ^ n) (hp : isp n c = true) : PM n (lyf n n c 0 ρ).2 := (tb6 h6 h2 hc hp).congr (fun j hj => lyf_lg hj)
theorem isp_t {n c : Nat} {ρ : Nat → Nat} (h : (lyf n n c 0 ρ).1 = 2 ^ n - 1) : isp n c = true := by
  unfold isp
  rw [lyf_1 n c 0 (fun _ => 0) ρ, h]
  exact beq_self_eq_true _
theorem isp_f {n c : Nat} {ρ : Nat → Nat} (h : ¬ (lyf n n c 0 ρ).1 = 2 ^ n - 1) : isp n c = false := by
  unfold isp
  rw [lyf_1 n c 0 (fun _ => 0) ρ]
  exact beq_eq_false_iff_ne.mpr h
theorem pow2_n : ∀ n, n < 6 → 2 ^ n ≤ 32 := by decide +kernel
def mstep (v : List Nat → Int32) (s : Int32 × List Nat) (l : List Nat) : Int32 × List Nat := if s.1 = -1 then (v l, l) else if s.1 ≤ v l then s else (v l, l)
def mst (v : List Nat → Int32) (n c : Nat) : Int32 × List Nat := ((List.range c).filterMap (gps n)).foldl (mstep v) (-1, [])
theorem mst_t {v : List Nat → Int32} {n c : Nat} (h : isp n c = true) : mst v n (c + 1) = mstep v (mst v n c) (dgs n c) := by
  unfold mst
  have e : gps n c = some (dgs n c) := if_pos h
  rw [List.range_succ, List.filterMap_append, List.foldl_append, List.filterMap_cons, e]
  rfl
theorem mst_f {v : List Nat → Int32} {n c : Nat} (h : isp n c = false) : mst v n (c + 1) = mst v n c := by
  unfold mst
  have e : gps n c = none := if_neg (by rw [h]; decide)
  rw [List.range_succ, List.filterMap_append, List.foldl_append, List.filterMap_cons, e]
  rfl
theorem cst_fold {v : List Nat → Int32} (hv : ∀ l, l ∈ PL n → ¬ v l = -1) (k : Nat) : k < (PL n).length → ((PL n).take (k + 1)).foldl (mstep v) (-1, []) = cst v (PL n) k ∧ ¬ (cst v (PL n) k).1 = -1 := by
  induction k with
  | zero =>
    intro hk
    have hm : (PL n).getD 0 [] ∈ PL n := by rw [List.getD_eq_getElem?_getD, List.getElem?_eq_getElem hk]; exact List.getElem_mem hk
    have e : (PL n).take (0 + 1) = [(PL n).getD 0 []] := by
      rw [List.take_add_one, List.take_zero, List.getD_eq_getElem?_getD, List.getElem?_eq_getElem hk]; rfl
    rw [e]
    exact ⟨rfl, hv _ hm⟩
  | succ k ih =>
    intro hk
    obtain ⟨a, b⟩ := ih (by omega)
    have hm : (PL n).getD (k + 1) [] ∈ PL n := by rw [List.getD_eq_getElem?_getD, List.getElem?_eq_getElem hk]; exact List.getElem_mem hk
    have e : (PL n).take (k + 1 + 1) = (PL n).take (k + 1) ++ [(PL n).getD (k + 1) []] := by
      rw [List.take_add_one, List.getD_eq_getElem?_getD, List.getElem?_eq_getElem hk]; rfl
    rw [e, List.foldl_append, a]
    show mstep v (cst v (PL n) k) ((PL n).getD (k + 1) []) = (if _ then _ else _) ∧ ¬ (if _ then _ else _ : Int32 × List Nat).1 = -1
    unfold mstep
    rw [if_neg b]
    refine ⟨rfl, ?_⟩
    split
    · exact b
    · exact hv _ hm
theorem mst_cst {v : List Nat → Int32} (h6 : n < 6) (h2 : 2 ≤ n) (hv : ∀ l, l ∈ PL n → ¬ v l = -1) : mst v n (n ^ n) = cst v (PL n) ((PL n).length - 1) := by
  have l1 := (tb1 n h6 h2).1
  have e := (cst_fold hv ((PL n).length - 1) (by omega)).1
  rw [show (PL n).length - 1 + 1 = (PL n).length by omega, List.take_length] at e
  unfold mst
  rw [tb5 n h6 h2]
  exact e
end Pure5
