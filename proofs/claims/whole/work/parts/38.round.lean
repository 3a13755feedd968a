/-! ===== round: the class's distances ===== -/
section O15
variable {σ : SS} {N : Int}
theorem g_A_tC {f : Nat → Int} : g_A (tC σ f) = g_A σ := rfl
theorem c_near {s : Nat} {f : Nat → Int} (h : RR σ N) (hs : s < 64) : ev 702 0 [qR 42, qI (s : Int), qU, qU] [] (tC σ f) = some (some (qI (bset (fun i => bany (fun j => s.testBit j && g_A σ j i) 6) 6 : Nat)), tC σ f) := by
  have e := c_nearL (h.tourC (f := f)) hs 6 0 (by omega) (by omega)
  rw [g_A_tC] at e
  have e0 : bset (fun i => bany (fun j => s.testBit j && g_A σ j i) (0 : Int).toNat) 6 = 0 := by
    have : bset (fun i => bany (fun j => s.testBit j && g_A σ j i) (0 : Int).toNat) 6 = bset (fun _ => false) 6 := bset_congr (fun i _ => rfl)
    rw [this]; rfl
  rw [e0] at e
  rw [b702_0]
  exact e
theorem c_frontL {fr : Nat} {goal re hours : Int} (hfr : fr < 2147483648) : ∀ (k : Nat) (x : Int) (f : Nat → Int), 0 ≤ x → x + k = 6 → ∃ f', ev 701 57 [qR 42, qI goal, qI re, qI hours, qI (fr : Int), qI x] [] (tC σ f) = ev 701 88 [qR 42, qI goal, qI re, qI hours, qI (fr : Int), qI 6] [] (tC σ f') ∧ ∀ i : Nat, f' i = if x ≤ i ∧ i < 6 ∧ fr.testBit i = true then hours else f i
  | 0, x, f, h0, hk => by
    have e : x = 6 := by omega
    refine ⟨f, ?_, fun i => ?_⟩
    · rw [b701_57, if_neg (by omega), e]
    · rw [if_neg (by omega)]
  | k + 1, x, f, h0, hk => by
    rw [b701_57, if_pos (by omega), b701_64, c_has (by omega), decide_eq_true h0, Bool.true_and, Int.toNat_natCast, Option.bind_some, q_push_some]
    dsimp only
    cases hb : fr.testBit x.toNat
    · obtain ⟨f', e1, e2⟩ := c_frontL (goal := goal) (re := re) (hours := hours) hfr k (x + 1) f (by omega) (by omega)
      refine ⟨f', ?_, fun i => ?_⟩
      · rw [b701_71, if_pos b01_f, b701_82 (by omega)]
        exact e1
      · rw [e2]
        by_cases hi : i = x.toNat
        · subst hi
          rw [if_neg (by omega), if_neg (fun z => by rw [hb] at z; exact absurd z.2.2 (by decide))]
        · by_cases hc : x + 1 ≤ i ∧ i < 6 ∧ fr.testBit i = true
          · rw [if_pos hc, if_pos ⟨by omega, hc.2⟩]
          · rw [if_neg hc, if_neg (fun z => hc ⟨by omega, z.2⟩)]
    · obtain ⟨f', e1, e2⟩ := c_frontL (goal := goal) (re := re) (hours := hours) hfr k (x + 1) (updn f x.toNat hours) (by omega) (by omega)
      refine ⟨f', ?_, fun i => ?_⟩
      · rw [b701_71, if_neg (by decide), b701_74 (by omega), tC_43, b701_82 (by omega)]
        exact e1
      · rw [e2]
        by_cases hi : i = x.toNat
        · subst hi
          rw [if_neg (by omega), updn_same, if_pos ⟨by omega, by omega, hb⟩]
        · rw [updn_ne hi]
          by_cases hc : x + 1 ≤ i ∧ i < 6 ∧ fr.testBit i = true
          · rw [if_pos hc, if_pos ⟨by omega, hc.2⟩]
          · rw [if_neg hc, if_neg (fun z => hc ⟨by omega, z.2⟩)]
theorem c_distL {goal : Nat} (h : RR σ N) : ∀ (m k : Nat) (f : Nat → Int) (v w : AV), k + m = 5 → (∀ i : Nat, i < 6 → f i = g_D (g_A σ) goal 49 i k) → ∃ f', ev 701 37 [qR 42, qI (goal : Int), qI (bset (g_S (g_A σ) goal k) 6 : Nat), qI ((k : Int) + 1), v, w] [] (tC σ f) = some (none, tC σ f') ∧ ∀ i : Nat, i < 6 → f' i = g_D (g_A σ) goal 49 i 5
  | 0, k, f, v, w, hk, hf => by
    have e : k = 5 := by omega
    subst e
    refine ⟨f, ?_, hf⟩
    rw [b701_37, if_neg (by omega), b701_99]
  | m + 1, k, f, v, w, hk, hf => by
    have hS := bset_64 (p := g_S (g_A σ) goal k) (n := 6) (by omega)
    have hN := bset_64 (p := fun i => bany (fun j => (bset (g_S (g_A σ) goal k) 6).testBit j && g_A σ j i) 6) (n := 6) (by omega)
    obtain ⟨c, c1, c2, c3⟩ := q_andn (a := bset (fun i => bany (fun j => (bset (g_S (g_A σ) goal k) 6).testBit j && g_A σ j i) 6) 6) (b := bset (g_S (g_A σ) goal k) 6) (by omega) (by omega)
    have cb : ∀ i, i < 6 → c.testBit i = (g_S (g_A σ) goal (k + 1) i && !g_S (g_A σ) goal k i) := by
      intro i hi
      rw [c3, bset_tb, bset_tb, decide_eq_true hi, Bool.true_and, Bool.true_and]
      have e : bany (fun j => (bset (g_S (g_A σ) goal k) 6).testBit j && g_A σ j i) 6 = bany (fun j => g_S (g_A σ) goal k j && g_A σ j i) 6 := bany_congr (fun j hj => by rw [bset_tb, decide_eq_true hj, Bool.true_and])
      rw [e]
      show _ = ((g_S (g_A σ) goal k i || bany (fun j => g_S (g_A σ) goal k j && g_A σ j i) 6) && !g_S (g_A σ) goal k i)
      cases g_S (g_A σ) goal k i <;> simp
    have co : q_or (bset (g_S (g_A σ) goal k) 6 : Nat) (c : Int) = (bset (g_S (g_A σ) goal (k + 1)) 6 : Nat) := by
      rw [q_or_nat (by omega) c2]
      congr 1
      apply Nat.eq_of_testBit_eq
      intro i
      rw [Nat.testBit_or, bset_tb, bset_tb]
      by_cases hi : i < 6
      · rw [decide_eq_true hi, Bool.true_and, Bool.true_and, cb i hi]
        cases hz : g_S (g_A σ) goal k i
        · simp
        · rw [g_S_mono hz]; rfl
      · rw [decide_eq_false hi, c3, bset_tb, decide_eq_false hi]; rfl
    obtain ⟨f1, e1, e2⟩ := c_frontL (σ := σ) (goal := (goal : Int)) (re := (bset (g_S (g_A σ) goal k) 6 : Nat)) (hours := (k : Int) + 1) c2 6 0 f (by omega) (by omega)
    obtain ⟨f', e3, e4⟩ := c_distL (goal := goal) h m (k + 1) f1 (qI (c : Int)) (qI 6) (by omega) (fun i hi => by
      rw [e2 i, g_D, hf i hi]
      by_cases hz : g_S (g_A σ) goal k i = true
      · rw [if_neg (fun z => by
          have z3 := z.2.2
          rw [cb i hi, hz] at z3
          simp at z3), if_pos hz]
      · rw [if_neg hz]
        by_cases hy : g_S (g_A σ) goal (k + 1) i = true
        · rw [if_pos hy, if_pos ⟨by omega, hi, by rw [cb i hi, hy]; simpa using hz⟩]
          omega
        · rw [if_neg hy, if_neg (fun z => by
            have z3 := z.2.2
            rw [cb i hi] at z3
            simp at z3
            exact hy z3.1), g_D_out hz])
    refine ⟨f', ?_, e4⟩
    rw [b701_37, if_pos (by omega), b701_43, c_near h hS, Option.bind_some, q_push_some]
    dsimp only
    rw [b701_48, c1, e1, b701_88 (by omega), co]
    have : ((k : Int) + 1) + 1 = ((k + 1 : Nat) : Int) + 1 := by omega
    rw [this]
    exact e3
theorem c_distR {goal : Nat} (hg : goal < 6) {re : Int} : ∀ (k : Nat) (x : Int) (f : Nat → Int), 0 ≤ x → x + k = 6 → (∀ i : Nat, (i : Int) < x → f i = if i = goal then 0 else 49) → ∃ f', ev 701 6 [qR 42, qI (goal : Int), qI re, qI x, qU, qU] [] (tC σ f) = ev 701 35 [qR 42, qI (goal : Int), qI re, qI 6, qU, qU] [] (tC σ f') ∧ ∀ i : Nat, i < 6 → f' i = if i = goal then 0 else 49
  | 0, x, f, h0, hk, hi => by
    have e : x = 6 := by omega
    refine ⟨f, ?_, fun i hx => hi i (by omega)⟩
    rw [b701_6, if_neg (by omega), e]
  | k + 1, x, f, h0, hk, hi => by
    obtain ⟨f', e1, e2⟩ := c_distR hg (re := re) k (x + 1) (updn f x.toNat (if x.toNat = goal then 0 else 49)) (by omega) (by omega) (fun i hx => by
      by_cases hix : i = x.toNat
      · subst hix
        rw [updn_same]
      · rw [updn_ne hix]
        exact hi i (by omega))
    refine ⟨f', ?_, e2⟩
    rw [b701_6, if_pos (by omega), b701_12]
    by_cases hc : x = (goal : Int)
    · rw [if_pos (show x.toNat = goal by omega)] at e1
      rw [if_pos hc, b701_22, b701_28 (by omega), tC_43]
      exact e1
    · rw [if_neg (show ¬ x.toNat = goal by omega)] at e1
      rw [if_neg hc, b701_26, b701_28 (by omega), tC_43]
      exact e1
/-- the class's distances to a house -/
theorem c_dist {goal : Nat} (h : RR σ N) (hg : goal < 6) : ∃ f', ev 701 0 [qR 42, qI (goal : Int), qU, qU, qU, qU] [] σ = some (none, tC σ f') ∧ ∀ i : Nat, i < 6 → f' i = g_D (g_A σ) goal 49 i 5 := by
  obtain ⟨f1, e1, e2⟩ := c_distR (σ := σ) hg (re := q_shl 1 (goal : Int)) 6 0 (σ 43) (by omega) (by omega) (fun i hi => by omega)
  obtain ⟨f', e3, e4⟩ := c_distL (goal := goal) h 5 0 f1 qU qU (by omega) (fun i hi => by
    rw [e2 i hi, g_D, g_S]
    by_cases hc : i = goal
    · simp [hc]
    · simp [hc])
  refine ⟨f', ?_, e4⟩
  rw [tC_id] at e1
  have e0 : q_shl 1 (goal : Int) = (bset (g_S (g_A σ) goal 0) 6 : Nat) := by
    rw [q_shl1 (by omega)]
    congr 1
    apply Nat.eq_of_testBit_eq
    intro i
    rw [Nat.testBit_two_pow, bset_tb, g_S]
    by_cases hc : i = goal
    · subst hc
      simp [hg]
    · have : ¬ goal = i := fun z => hc z.symm
      simp [hc, this]
  rw [b701_0, e1, b701_35, e0]
  exact e3
end O15
