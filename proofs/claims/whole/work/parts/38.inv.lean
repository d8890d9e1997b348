/-! ===== the law: what holds between two calls ===== -/
section Inv
theorem lg_cmp_s (a : Int64) : lg_cmp a a = 0 := by
  unfold lg_cmp
  rw [if_neg Int64.lt_irrefl, if_pos rfl]
theorem cat_lt {pg : Nat → Nat} {ps : Nat} (hp : ps ≤ 24) (h : ∀ j, j < ps → pg j < 127) (z : Int32) : cat pg ps z < 127 := by
  unfold cat
  cases c : hin (nI ps) z with
  | false => rw [if_neg (by decide)]; decide
  | true =>
    obtain ⟨k, hk, rfl⟩ := hin_of c (by omega)
    rw [if_pos rfl, nI_clamp (by omega)]
    exact h k hk
theorem lp_f {L i : Nat} (hL : L ≤ 256) (hi : i ≤ 256) (h : ¬ nI L - 4 < nI i) : i + 4 ≤ L := by
  rw [Int32.lt_iff_toInt_lt, show (4 : Int32) = nI 4 from rfl, pk_sub_toInt (a := L) (b := 4) (by omega) (by omega), nI_toInt (by omega)] at h
  omega
theorem bf_sw {α : Type} {b c : Bool} (h : b = !c) (x y : α) : bf b x y = bf c y x := by
  rw [h]
  cases c <;> rfl
theorem bf_tt {α : Type} (x y : α) : bf true x y = x := if_pos rfl
def SNB (q : Nat) (sh : Nat → Nat) : Prop := q ≤ 6 ∧ ∀ i, i < q → 1 ≤ sh i ∧ sh i ≤ 12
def TBB (tb : Nat → Int32) : Prop := ∀ j, j < 6 → tb j = 0 ∨ tb j = 1
def PGB (ps : Nat) (pg : Nat → Nat) : Prop := ps ≤ 24 ∧ ∀ j, j < ps → pg j < 127
def COB (n : Nat) (K F w : Nat → Int32) (bar : Int32) (ρ : Nat → Nat) : Prop := (n = 0 ∨ (2 ≤ n ∧ n ≤ 5)) ∧ PM n ρ ∧ (∀ j, j < n → K j = 0 ∨ K j = 1 ∨ K j = 2 ∨ K j = 3 ∨ K j = 4) ∧ WB 9 n F ∧ BB bar ∧ WB 99 n w
def IMB (n qk i : Nat) (wk tbk : Nat → Int32) (ρk shk : Nat → Nat) (ik crd kcs : Int32) : Prop := (∃ cr : Nat, cr ≤ i ∧ crd = nI cr ∧ ((ik = 1 ∧ kcs = nI cr) ∨ (ik = 0 ∧ (kcs = -1 ∨ ∃ kc : Nat, kc < cr ∧ kcs = nI kc)))) ∧ TBB tbk ∧ (ik = 1 → PM n ρk ∧ WB 99 n wk ∧ SNB qk shk)
def INV (n q ps bd qk i : Nat) (K F w tb wk tbk : Nat → Int32) (ρ sh pg ρk shk : Nat → Nat) (bar ik crd kcs : Int32) : Prop := i ≤ 256 ∧ COB n K F w bar ρ ∧ SNB q sh ∧ TBB tb ∧ PGB ps pg ∧ bd ≤ 30 ∧ IMB n qk i wk tbk ρk shk ik crd kcs
theorem PM.zero (ρ : Nat → Nat) : PM 0 ρ := ⟨fun j hj => absurd hj (Nat.not_lt_zero j), fun i j hi => absurd hi (Nat.not_lt_zero i), fun k hk => absurd hk (Nat.not_lt_zero k)⟩
theorem PGB.letter {ps : Nat} {pg : Nat → Nat} (h : PGB ps pg) (x : Int32) : PGB (bf (ltk x ps) (ps + 1) ps) (bf (ltk x ps) (un pg ps x.toNatClampNeg) pg) := by
  cases c : ltk x ps with
  | false => rw [bf_f rfl, bf_f rfl]; exact h
  | true =>
    rw [bf_t rfl, bf_t rfl]
    unfold ltk at c
    rw [Bool.and_eq_true, decide_eq_true_iff] at c
    obtain ⟨c1, c2⟩ := c
    obtain ⟨k, h1, h2, rfl⟩ := wth_of (lo := 1) (hi := 126) c1 (by decide) (by decide)
    refine ⟨by omega, fun j hj => ?_⟩
    rw [nI_clamp (by omega)]
    by_cases e : j = ps
    · subst e; rw [un_s]; omega
    · rw [un_n e]; exact h.2 j (by omega)
theorem IMB.up {n qk i : Nat} {wk tbk : Nat → Int32} {ρk shk : Nat → Nat} {ik crd kcs : Int32} (h : IMB n qk i wk tbk ρk shk ik crd kcs) : IMB n qk (i + 4) wk tbk ρk shk ik crd kcs := by
  obtain ⟨⟨cr, h1, h2⟩, h3⟩ := h
  exact ⟨⟨cr, by omega, h2⟩, h3⟩
section C
variable {n : Nat} {K F w : Nat → Int32} {bar : Int32} {ρ : Nat → Nat}
theorem COB.hour (h : COB n K F w bar ρ) : COB n K F (bf (!decide (n = 0)) (hww n K F bar w ρ) w) bar (bf (!decide (n = 0)) (hrr n K F bar w ρ) ρ) := by
  cases c : !decide (n = 0) with
  | false => rw [bf_f rfl, bf_f rfl]; exact h
  | true =>
    have hn0 := isr_n c
    obtain ⟨hn, hp, hK, hF, hb, hw⟩ := h
    have hn2 : 2 ≤ n := by omega
    rw [bf_t rfl, bf_t rfl]
    exact ⟨hn, hp.hrr hn2, hK, hF, hb, hw.hww hF hb hp hn2⟩
theorem COB.rain (h : COB n K F w bar ρ) (x k : Int32) : COB n K F (bf (rnk n x k) (upd w x.toNatClampNeg (hcap (w x.toNatClampNeg + k))) w) bar ρ := by
  cases c : rnk n x k with
  | false => rw [bf_f rfl]; exact h
  | true =>
    obtain ⟨hn, hp, hK, hF, hb, hw⟩ := h
    unfold rnk at c
    rw [Bool.and_eq_true] at c
    obtain ⟨a, ha, rfl⟩ := hin_of c.1 (by omega)
    obtain ⟨d, h1, h2, rfl⟩ := wth_of (lo := 1) (hi := 50) c.2 (by decide) (by decide)
    rw [bf_t rfl, nI_clamp (by omega)]
    refine ⟨hn, hp, hK, hF, hb, hw.upd ?_⟩
    obtain ⟨v, hv, e⟩ := hw a ha
    rw [e, show nI v + nI d = nI (v + d) from nI_add v d]
    exact hcap_n (by omega)
theorem COB.drought (h : COB n K F w bar ρ) (x : Int32) : COB n K F (bf (hin (nI n) x) (upd w x.toNatClampNeg 0) w) bar (bf (hin (nI n) x) (hsb n (plq n ρ x.toNatClampNeg) ρ) ρ) := by
  cases c : hin (nI n) x with
  | false => rw [bf_f rfl, bf_f rfl]; exact h
  | true =>
    obtain ⟨hn, hp, hK, hF, hb, hw⟩ := h
    obtain ⟨a, ha, rfl⟩ := hin_of c (by omega)
    rw [bf_t rfl, bf_t rfl, nI_clamp (by omega)]
    exact ⟨hn, hp.hsb (plq_e hp ha).1, hK, hF, hb, hw.upd ⟨0, by omega, rfl⟩⟩
end C
theorem SNB.see {n q : Nat} {sh : Nat → Nat} (h : SNB q sh) (y x : Int32) : SNB (bf (sek n q y x) (q + 1) q) (bf (sek n q y x) (un sh q y.toNatClampNeg) sh) := by
  cases c : sek n q y x with
  | false => rw [bf_f rfl, bf_f rfl]; exact h
  | true =>
    unfold sek at c
    rw [Bool.and_eq_true, Bool.and_eq_true, decide_eq_true_iff] at c
    obtain ⟨c1, c2, c3⟩ := c
    obtain ⟨k, h1, h2, rfl⟩ := wth_of (lo := 1) (hi := 12) c1 (by decide) (by decide)
    rw [bf_t rfl, bf_t rfl, nI_clamp (by omega)]
    refine ⟨by omega, fun i hi => ?_⟩
    by_cases e : i = q
    · subst e; rw [un_s]; exact ⟨h1, h2⟩
    · rw [un_n e]; exact h.2 i (by omega)
theorem TBB.see {tb : Nat → Int32} (h : TBB tb) (b : Bool) (q : Nat) {tv : Int32} (ht : tv = 0 ∨ tv = 1) : TBB (bf b (upd tb q tv) tb) := by
  cases b with
  | false => exact h
  | true =>
    intro j hj
    rw [bf_t rfl]
    by_cases e : j = q
    · subst e; rw [upd_s]; exact ht
    · rw [upd_n e]; exact h j hj
theorem bsd_le {n bd : Nat} (h : bd ≤ 30) (x : Int32) : bf (bsd n bd x) (bd + 1) bd ≤ 30 := by
  cases c : bsd n bd x with
  | false => rw [bf_f rfl]; exact h
  | true =>
    unfold bsd at c
    rw [Bool.and_eq_true, Bool.and_eq_true, decide_eq_true_iff] at c
    rw [bf_t rfl]; omega
theorem IMB.image {n qk i q : Nat} {w tb wk tbk : Nat → Int32} {ρ sh ρk shk : Nat → Nat} {ik crd kcs : Int32} (h : IMB n qk i wk tbk ρk shk ik crd kcs) (hp : PM n ρ) (hw : WB 99 n w) (hs : SNB q sh) (ht : TBB tb) (b : Bool) : IMB n (bf b q qk) i (bf b w wk) (bf b tb tbk) (bf b ρ ρk) (bf b sh shk) (bf b 1 ik) crd (bf b crd kcs) := by
  cases b with
  | false => exact h
  | true =>
    obtain ⟨⟨cr, h1, h2, h3⟩, h4⟩ := h
    exact ⟨⟨cr, h1, h2, Or.inl ⟨rfl, h2⟩⟩, ht, fun _ => ⟨hp, hw, hs⟩⟩
theorem nI_inj9 {a b : Nat} (ha : a < 1000) (hb : b < 1000) (h : nI a = nI b) : a = b := (jeq (a := a) (b := b) (by omega) (by omega)).mp h
theorem IMB.dk {n qk i : Nat} {wk tbk : Nat → Int32} {ρk shk : Nat → Nat} {ik crd kcs : Int32} (h : IMB n qk i wk tbk ρk shk ik crd kcs) (hi : i ≤ 256) : decide (ik = 0) = !decide (kcs = crd) := by
  obtain ⟨⟨cr, h1, rfl, h3⟩, -⟩ := h
  rcases h3 with ⟨rfl, rfl⟩ | ⟨rfl, h4⟩
  · rw [decide_eq_true rfl, decide_eq_false (by decide)]; rfl
  · rw [decide_eq_true rfl]
    rcases h4 with rfl | ⟨kc, h5, rfl⟩
    · rw [decide_eq_false (fun z => nI_nm1 (k := cr) (by omega) z.symm)]; rfl
    · rw [decide_eq_false (fun z => absurd (nI_inj9 (by omega) (by omega) z) (by omega))]; rfl
theorem IMB.on {n qk i : Nat} {wk tbk : Nat → Int32} {ρk shk : Nat → Nat} {ik crd kcs : Int32} (h : IMB n qk i wk tbk ρk shk ik crd kcs) (hi : i ≤ 256) (e : decide (kcs = crd) = true) : PM n ρk ∧ WB 99 n wk ∧ SNB qk shk := by
  have d := h.dk hi
  obtain ⟨⟨cr, h1, h2, h3⟩, h4, h5⟩ := h
  rw [e] at d
  rcases h3 with ⟨e1, -⟩ | ⟨e1, -⟩
  · exact h5 e1
  · rw [decide_eq_true e1] at d; cases d
theorem COB.restore {n qk i : Nat} {K F w wk tbk : Nat → Int32} {bar : Int32} {ρ ρk shk : Nat → Nat} {ik crd kcs : Int32} (h : COB n K F w bar ρ) (hm : IMB n qk i wk tbk ρk shk ik crd kcs) (hi : i ≤ 256) : COB n K F (bf (decide (kcs = crd)) wk w) bar (bf (decide (kcs = crd)) ρk ρ) := by
  cases e : decide (kcs = crd) with
  | false => exact h
  | true =>
    obtain ⟨hn, hp, hK, hF, hb, hw⟩ := h
    obtain ⟨p1, p2, p3⟩ := hm.on hi e
    exact ⟨hn, p1, hK, hF, hb, p2⟩
theorem SNB.restore {n q qk i : Nat} {wk tbk : Nat → Int32} {sh ρk shk : Nat → Nat} {ik crd kcs : Int32} (h : SNB q sh) (hm : IMB n qk i wk tbk ρk shk ik crd kcs) (hi : i ≤ 256) : SNB (bf (decide (kcs = crd)) qk q) (bf (decide (kcs = crd)) shk sh) := by
  cases e : decide (kcs = crd) with
  | false => exact h
  | true => exact (hm.on hi e).2.2
theorem TBB.bf {tb tbk : Nat → Int32} (h : TBB tb) (hk : TBB tbk) (b : Bool) : TBB (bf b tbk tb) := by
  cases b with
  | false => exact h
  | true => exact hk
/-- a coast is read -/
theorem INV.coast {n q ps bd qk i : Nat} {K F w tb wk tbk : Nat → Int32} {ρ sh pg ρk shk : Nat → Nat} {bar ik crd kcs : Int32} (h : INV n q ps bd qk i K F w tb wk tbk ρ sh pg ρk shk bar ik crd kcs) (hi : i + 4 ≤ 256) :
    INV (bf (hcb pg ps) (ps / 4) n) (bf (hcb pg ps) 0 q) (bf (hcb pg ps) 0 ps) bd qk (i + 4) (bf (hcb pg ps) (ffl (fun j => kb (pg (j * 4))) K (ps / 4)) K) (bf (hcb pg ps) (ffl (fun j => nI (pg (j * 4 + 2)) - 48) F (ps / 4)) F) (bf (hcb pg ps) (ffl (fun j => nI (pg (j * 4 + 1)) - 48) w (ps / 4)) w) tb wk tbk (bf (hcb pg ps) (idn (ps / 4) ρ) ρ) sh pg ρk shk (bf (hcb pg ps) (nI (pg (ps / 4 * 4)) - 48) bar) (bf (hcb pg ps) 0 ik) (bf (hcb pg ps) (crd + 1) crd) kcs := by
  obtain ⟨h1, hco, hsn, htb, hpg, hbd, him⟩ := h
  cases c : hcb pg ps with
  | false => exact ⟨hi, hco, hsn, htb, hpg, hbd, him.up⟩
  | true =>
    obtain ⟨ha, h3, h4, h5, m, hm2, hm5, hmp⟩ := coast_n c
    have em : ps / 4 = m := by omega
    simp only [bf_tt]
    refine ⟨hi, ?_, ⟨by decide, fun k hk => absurd hk (Nat.not_lt_zero k)⟩, htb, ⟨by decide, fun k hk => absurd hk (Nat.not_lt_zero k)⟩, hbd, ?_⟩
    · show COB (ps / 4) _ _ _ _ _
      rw [em]
      have ha4 : ∀ j, j < m * 4 + 1 → fitb pg j = true := by rw [← hmp]; exact ha
      refine ⟨Or.inr ⟨hm2, hm5⟩, PM.id m (fun j hj => if_pos hj), fun j hj => ?_, fun j hj => ?_, ?_, fun j hj => ?_⟩
      · show ffl _ K m j = _ ∨ _
        rw [ffl_in hj]
        exact kb_in _ (by have := hpg.2 (j * 4) (by omega); omega) (fit_0 (ha (j * 4) (by omega)) (no_sem ha4 (by omega)) (by omega))
      · show ∃ v : Nat, v ≤ 9 ∧ ffl _ F m j = nI v
        rw [ffl_in hj]
        have hr := fit_2 (ha (j * 4 + 2) (by omega)) (no_sem ha4 (by omega)) (by omega)
        unfold rng at hr
        rw [decide_eq_true_iff] at hr
        exact ⟨pg (j * 4 + 2) - 48, by omega, pk_sub (a := pg (j * 4 + 2)) (b := 48) hr.1⟩
      · have e1 : sem pg (m * 4) 1 = true := by
          obtain ⟨l, z⟩ := sem_t.mp h4
          exact sem_t.mpr ⟨by omega, by rw [show m * 4 - 1 = ps - 2 by omega]; exact z⟩
        have hr := fit_s1 (ha (m * 4) (by omega)) e1
        unfold rng at hr
        rw [decide_eq_true_iff] at hr
        exact ⟨pg (m * 4) - 48, by omega, pk_sub (a := pg (m * 4)) (b := 48) (by omega)⟩
      · show ∃ v : Nat, v ≤ 99 ∧ ffl _ w m j = nI v
        rw [ffl_in hj]
        have hr := fit_1 (ha (j * 4 + 1) (by omega)) (no_sem ha4 (by omega)) (by omega)
        unfold rng at hr
        rw [decide_eq_true_iff] at hr
        exact ⟨pg (j * 4 + 1) - 48, by omega, pk_sub (a := pg (j * 4 + 1)) (b := 48) hr.1⟩
    · obtain ⟨⟨cr, g1, rfl, g3⟩, g4, g5⟩ := him
      refine ⟨⟨cr + 1, by omega, nI_1 cr, Or.inr ⟨rfl, ?_⟩⟩, g4, fun z => absurd z (by decide)⟩
      rcases g3 with ⟨-, e⟩ | ⟨-, e⟩
      · exact Or.inr ⟨cr, by omega, e⟩
      · rcases e with e | ⟨kc, h6, e⟩
        · exact Or.inl e
        · exact Or.inr ⟨kc, by omega, e⟩
section Scr
variable {p : Program} {l : Launch} {e : Env} {R : Room} {s : State} {m : MethodId} {args : Array Value} {below : List Frame} {meth : Method} {c : Code} {H : Heap} {locs : List Loc} {cells slots : Nat} {Q : State → Prop}
variable {cc : ByteArray} {nL pc : Nat} {own : String} {D : va_G} {cI cZ : ClassId} {kS vS : Nat} {A : Nat → Prop} {ls : Array Slot} {rest : List Value} {ws : va_W}
/-- the script's number at k -/
theorem r_scr (C : CX p s m args c cc nL own D cI cZ kS vS A) (h : HS D A s H locs ws) {b L : Nat} {xs : Nat → Int32} (hX : va_X b L xs s s.heap) (hbl : b < s.heap.size) (hbA : ¬ A b) (hL : L ≤ 256) {i : Int32} (k : Nat) (hi : i = nI k) (hk : k < L) (hdg : decode cc pc = .ok (.iaload, 1))
    (kk : W p l e R s m args below meth c H locs cells slots Q (F0 m (pc + 1) ls (.int (xs k) :: rest))) : W p l e R s m args below meth c H locs cells slots Q (F0 m pc ls (.int i :: .ref b :: rest)) := by
  subst hi
  refine va_sld C.1.1 C.1.2.1 hX hbl hbA h.2.2 (vp_in_nI hk (by omega)) hdg ?_
  rw [nI_clamp (by omega)]
  exact kk
theorem r_scl (C : CX p s m args c cc nL own D cI cZ kS vS A) (h : HS D A s H locs ws) {b L : Nat} {xs : Nat → Int32} (hX : va_X b L xs s s.heap) (hbl : b < s.heap.size) (hbA : ¬ A b) (hdg : decode cc pc = .ok (.arraylength, 1))
    (kk : W p l e R s m args below meth c H locs cells slots Q (F0 m (pc + 1) ls (.int (nI L) :: rest))) : W p l e R s m args below meth c H locs cells slots Q (F0 m pc ls (.ref b :: rest)) :=
  va_slen C.1.1 C.1.2.1 hX hbl hbA h.2.2 hdg kk
end Scr
end Inv
