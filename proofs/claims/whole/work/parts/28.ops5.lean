/-! ===== apart, worn, odds ===== -/
theorem bset_xor (p q : Nat → Bool) (n : Nat) : bset p n ^^^ bset q n = bset (fun i => p i != q i) n := by
  apply Nat.eq_of_testBit_eq
  intro i
  rw [Nat.testBit_xor, bset_tb, bset_tb, bset_tb]
  by_cases hi : i < n
  · simp only [hi, decide_true, Bool.true_and]
  · simp only [hi, decide_false, Bool.false_and]
    rfl
theorem fst1_none {Q : Int → Bool} : ∀ {k : Nat} {g : Int}, (∀ x, g ≤ x → x < g + k → Q x = false) → fst1 Q k g = -1
  | 0, g, h => rfl
  | k + 1, g, h => by
    unfold fst1
    rw [h g (by omega) (by omega)]
    exact fst1_none (fun x h1 h2 => h x (by omega) (by omega))
theorem fst1_some {Q : Int → Bool} : ∀ {k : Nat} {g r : Int}, g ≤ r → r < g + k → Q r = true → (∀ x, g ≤ x → x < r → Q x = false) → fst1 Q k g = r
  | 0, g, r, h1, h2, h3, h4 => by omega
  | k + 1, g, r, h1, h2, h3, h4 => by
    unfold fst1
    by_cases e : g = r
    · subst e
      rw [h3]; rfl
    · rw [h4 g (by omega) (by omega)]
      exact fst1_some (by omega) (by omega) h3 (fun x h5 h6 => h4 x (by omega) h6)
section O5
variable {σ : SS} {N : Int}
def p_dry (σ : SS) (g hour gl : Int) : Bool := p_fit σ (p_fb σ g hour (σ 51 (6 + g).toNat)) gl
theorem c_two {a b : Int} (h : RR σ N) : ev 829 0 [qR 0, qI a, qI b] [] σ = some (some (qI (b01 (decide ((0 ≤ a ∧ a < σ 50 14) ∧ (0 ≤ b ∧ b < σ 50 14) ∧ a ≠ b)))), σ) := by
  by_cases h1 : 0 ≤ a ∧ a < σ 50 14
  · by_cases h2 : 0 ≤ b ∧ b < σ 50 14
    · by_cases h3 : a = b
      · simp (disch := first | omega | exact b01_or _) only [b829_0, b829_8, b829_11, b829_19, b829_22, b829_27, b829_31, b829_32, c_hasGirl h, h1.1, h1.2, h2.1, h2.2, h3, Option.bind_some, q_push_some, q_push_none, b01_eq0, b01_eq1, decide_eq_false_iff_not, decide_eq_true_eq, ite_not, b01_t, b01_f, one_ne0, zero_eq0, Bool.true_eq_false, Bool.false_eq_true, ite_true, ite_false, and_self, and_true, true_and, not_true_eq_false, not_false_eq_true, ne_eq, not_true_eq_false, and_false]
        rfl
      · simp (disch := first | omega | exact b01_or _) only [b829_0, b829_8, b829_11, b829_19, b829_22, b829_27, b829_31, b829_32, c_hasGirl h, h1.1, h1.2, h2.1, h2.2, h3, Option.bind_some, q_push_some, q_push_none, b01_eq0, b01_eq1, decide_eq_false_iff_not, decide_eq_true_eq, ite_not, b01_t, b01_f, one_ne0, zero_eq0, Bool.true_eq_false, Bool.false_eq_true, ite_true, ite_false, and_self, and_true, true_and, not_true_eq_false, not_false_eq_true, ne_eq, not_false_eq_true, and_self]
        rfl
    · simp (disch := first | omega | exact b01_or _) only [b829_0, b829_8, b829_11, b829_19, b829_22, b829_27, b829_31, b829_32, c_hasGirl h, h1.1, h1.2, h2, Option.bind_some, q_push_some, q_push_none, b01_eq0, b01_eq1, decide_eq_false_iff_not, decide_eq_true_eq, ite_not, b01_t, b01_f, one_ne0, zero_eq0, Bool.true_eq_false, Bool.false_eq_true, ite_true, ite_false, and_self, and_true, true_and, not_true_eq_false, not_false_eq_true, false_and]
      rfl
  · simp (disch := first | omega | exact b01_or _) only [b829_0, b829_8, b829_11, b829_19, b829_22, b829_27, b829_31, b829_32, c_hasGirl h, h1, Option.bind_some, q_push_some, q_push_none, b01_eq0, b01_eq1, decide_eq_false_iff_not, decide_eq_true_eq, ite_not, b01_t, b01_f, one_ne0, zero_eq0, Bool.true_eq_false, Bool.false_eq_true, ite_true, ite_false, and_self, and_true, true_and, not_true_eq_false, not_false_eq_true, false_and]
    rfl
theorem c_dryHoursL {g : Int} (h : RR σ N) (hg : 0 ≤ g ∧ g < σ 50 14) : ∀ (k : Nat) (x : Int), 0 ≤ x → x + k = 24 → ev 209 10 [qR 34, qI g, qI (p_gl σ (σ 51 20)), qI (bset (fun i => p_dry σ g i (p_gl σ (σ 51 20))) x.toNat : Nat), qI x] [] σ = some (some (qI (bset (fun i => p_dry σ g i (p_gl σ (σ 51 20))) 24 : Nat)), σ)
  | 0, x, h0, hk => by
    have e : x = 24 := by omega
    rw [b209_10, if_neg (by omega), b209_48, e]; rfl
  | k + 1, x, h0, hk => by
    have hG := h.g hg.1 hg.2
    have r1 := p_fb_rng (hour := x) (pad := σ 51 (6 + g).toNat) h hg (by omega)
    have r2 := p_gn_rng h
    have ex : ((x.toNat : Nat) : Int) = x := by omega
    rw [b209_10, if_pos (by omega)]
    simp (disch := first | omega | exact b01_or _) only [b209_17, b209_28, c_dryFoot h hg (hour := x) (by omega), c_fitsGlass h (v := p_fb σ g x (σ 51 (6 + g).toNat)) (gl := p_gl σ (σ 51 20)) (by omega) (by omega), Option.bind_some, q_push_some, q_push_none]
    cases c1 : p_fit σ (p_fb σ g x (σ 51 (6 + g).toNat)) (p_gl σ (σ 51 20))
    · simp (disch := first | omega | exact b01_or _) only [b209_32, b209_42, b01_eq0, b01_eq1, decide_eq_false_iff_not, decide_eq_true_eq, ite_not, b01_t, b01_f, one_ne0, zero_eq0, Bool.true_eq_false, Bool.false_eq_true, ite_true, ite_false, and_self, and_true, true_and, not_true_eq_false, not_false_eq_true]
      rw [bsI_no h0 (by simp [p_dry, ex, c1])]
      exact c_dryHoursL h hg k (x + 1) (by omega) (by omega)
    · simp (disch := first | omega | exact b01_or _) only [b209_32, b209_35, b209_42, b01_eq0, b01_eq1, decide_eq_false_iff_not, decide_eq_true_eq, ite_not, b01_t, b01_f, one_ne0, zero_eq0, Bool.true_eq_false, Bool.false_eq_true, ite_true, ite_false, and_self, and_true, true_and, not_true_eq_false, not_false_eq_true]
      rw [bsI_yes (by omega) (by simp [p_dry, ex, c1])]
      exact c_dryHoursL h hg k (x + 1) (by omega) (by omega)
theorem c_dryHours {g : Int} (h : RR σ N) (hg : 0 ≤ g ∧ g < σ 50 14) : ev 209 0 [qR 34, qI g, qU, qU, qU] [] σ = some (some (qI (bset (fun i => p_dry σ g i (p_gl σ (σ 51 20))) 24 : Nat)), σ) := by
  simp (disch := first | omega | exact b01_or _) only [b209_0, b209_4, c_glassNow h, Option.bind_some, q_push_some, q_push_none]
  exact c_dryHoursL h hg 24 0 (by omega) (by omega)
theorem m_apartL {a b : Int} (h : RR σ N) (ha : 0 ≤ a ∧ a < σ 50 14) (hb : 0 ≤ b ∧ b < σ 50 14) : ∀ (k : Nat) (x : Int), 0 ≤ x → x + k = 24 → ev 959 29 [qR 50, qI a, qI b, qI (bset (fun i => p_dry σ a i (p_gl σ (σ 51 20)) != p_dry σ b i (p_gl σ (σ 51 20))) x.toNat : Nat), qI x] [] σ = some (some (qI (bset (fun i => p_dry σ a i (p_gl σ (σ 51 20)) != p_dry σ b i (p_gl σ (σ 51 20))) 24 : Nat)), σ)
  | 0, x, h0, hk => by
    have e : x = 24 := by omega
    rw [b959_29, if_neg (by omega), b959_81, e]; rfl
  | k + 1, x, h0, hk => by
    have r2 := p_gn_rng h
    have ex : ((x.toNat : Nat) : Int) = x := by omega
    rw [b959_29, if_pos (by omega)]
    simp (disch := first | omega | exact b01_or _) only [b959_36, b959_45, b959_48, b959_56, b959_59, m_glassNow h, m_fitsDry h ha (hour := x) (gl := p_gl σ (σ 51 20)) (by omega) (by omega), m_fitsDry h hb (hour := x) (gl := p_gl σ (σ 51 20)) (by omega) (by omega), Option.bind_some, q_push_some, q_push_none, b01_inj]
    have key : ∀ z : Bool, z = (p_dry σ a x (p_gl σ (σ 51 20)) != p_dry σ b x (p_gl σ (σ 51 20))) → ev 959 67 [qR 50, qI a, qI b, qI (bset (fun i => p_dry σ a i (p_gl σ (σ 51 20)) != p_dry σ b i (p_gl σ (σ 51 20))) x.toNat : Nat), qI x] [qI (b01 z), qI (bset (fun i => p_dry σ a i (p_gl σ (σ 51 20)) != p_dry σ b i (p_gl σ (σ 51 20))) x.toNat : Nat)] σ = some (some (qI (bset (fun i => p_dry σ a i (p_gl σ (σ 51 20)) != p_dry σ b i (p_gl σ (σ 51 20))) 24 : Nat)), σ) := by
      intro z hz
      simp (disch := first | omega | exact b01_or _) only [b959_67, b959_70, m_one, Option.bind_some, q_push_some, q_push_none]
      rw [bsI_one (by omega) (by simp [ex, hz])]
      exact m_apartL h ha hb k (x + 1) (by omega) (by omega)
    unfold p_dry at key
    by_cases c1 : p_fit σ (p_fb σ a x (σ 51 (6 + a).toNat)) (p_gl σ (σ 51 20)) = p_fit σ (p_fb σ b x (σ 51 (6 + b).toNat)) (p_gl σ (σ 51 20))
    · rw [if_pos c1, b959_66]
      exact key false (by rw [c1]; simp)
    · rw [if_neg c1, b959_62]
      exact key true (by simpa using c1)
theorem op_apart {a b : Int} (h : RR σ N) (hN : N + 999 ≤ 100000) : Op 827 959 [qR 0, qI a, qI b] [qR 50, qI a, qI b, qU, qU] σ N := by
  by_cases hc : (0 ≤ a ∧ a < σ 50 14) ∧ (0 ≤ b ∧ b < σ 50 14) ∧ a ≠ b
  · refine Op.ro h hN (a := (bset (fun i => p_dry σ a i (p_gl σ (σ 51 20)) != p_dry σ b i (p_gl σ (σ 51 20))) 24 : Nat)) ?_ ?_
    · rw [b827_0, c_two h, decide_eq_true hc]
      simp (disch := first | omega | exact b01_or _) only [b827_6, b827_12, b827_20, b827_28, c_dryHours h hc.1, c_dryHours h hc.2.1, Option.bind_some, q_push_some, q_push_none, b01_eq0, b01_eq1, decide_eq_false_iff_not, decide_eq_true_eq, ite_not, b01_t, b01_f, one_ne0, zero_eq0, Bool.true_eq_false, Bool.false_eq_true, ite_true, ite_false, and_self, and_true, true_and, not_true_eq_false, not_false_eq_true]
      rw [q_xor_nat (bset_31 (by omega)) (bset_31 (by omega)), bset_xor]
    · simp (disch := first | omega | exact b01_or _) only [b959_0, b959_5, b959_8, b959_13, b959_16, b959_24, m_isGirl h, hc.1.1, hc.1.2, hc.2.1.1, hc.2.1.2, hc.2.2, Option.bind_some, q_push_some, q_push_none, b01_eq0, b01_eq1, decide_eq_false_iff_not, decide_eq_true_eq, ite_not, b01_t, b01_f, one_ne0, zero_eq0, Bool.true_eq_false, Bool.false_eq_true, ite_true, ite_false, and_self, and_true, true_and, not_true_eq_false, not_false_eq_true]
      exact m_apartL h hc.1 hc.2.1 24 0 (by omega) (by omega)
  · refine Op.ro h hN (a := -1000000001) ?_ ?_
    · rw [b827_0, c_two h, decide_eq_false hc]
      simp (disch := first | omega | exact b01_or _) only [b827_6, b827_9, Option.bind_some, q_push_some, q_push_none, b01_eq0, b01_eq1, decide_eq_false_iff_not, decide_eq_true_eq, ite_not, b01_t, b01_f, one_ne0, zero_eq0, Bool.true_eq_false, Bool.false_eq_true, ite_true, ite_false, and_self, and_true, true_and, not_true_eq_false, not_false_eq_true]
    · by_cases h1 : 0 ≤ a ∧ a < σ 50 14
      · by_cases h2 : 0 ≤ b ∧ b < σ 50 14
        · have h3 : a = b := by
            apply Classical.byContradiction
            intro z
            exact hc ⟨h1, h2, z⟩
          simp (disch := first | omega | exact b01_or _) only [b959_0, b959_5, b959_8, b959_13, b959_16, b959_21, m_isGirl h, h1.1, h1.2, h2.1, h2.2, h3, Option.bind_some, q_push_some, q_push_none, b01_eq0, b01_eq1, decide_eq_false_iff_not, decide_eq_true_eq, ite_not, b01_t, b01_f, one_ne0, zero_eq0, Bool.true_eq_false, Bool.false_eq_true, ite_true, ite_false, and_self, and_true, true_and, not_true_eq_false, not_false_eq_true]
        · simp (disch := first | omega | exact b01_or _) only [b959_0, b959_5, b959_8, b959_13, b959_21, m_isGirl h, h1.1, h1.2, h2, Option.bind_some, q_push_some, q_push_none, b01_eq0, b01_eq1, decide_eq_false_iff_not, decide_eq_true_eq, ite_not, b01_t, b01_f, one_ne0, zero_eq0, Bool.true_eq_false, Bool.false_eq_true, ite_true, ite_false, and_self, and_true, true_and, not_true_eq_false, not_false_eq_true]
      · simp (disch := first | omega | exact b01_or _) only [b959_0, b959_5, b959_21, m_isGirl h, h1, Option.bind_some, q_push_some, q_push_none, b01_eq0, b01_eq1, decide_eq_false_iff_not, decide_eq_true_eq, ite_not, b01_t, b01_f, one_ne0, zero_eq0, Bool.true_eq_false, Bool.false_eq_true, ite_true, ite_false, and_self, and_true, true_and, not_true_eq_false, not_false_eq_true]
/-- both fit the worn glass -/
def p_both (σ : SS) (a b hour t : Int) : Bool := p_dry σ a hour (p_gl σ t) && p_dry σ b hour (p_gl σ t)
theorem m_wornL {a b hour : Int} (h : RR σ N) (ha : 0 ≤ a ∧ a < σ 50 14) (hb : 0 ≤ b ∧ b < σ 50 14) (hh : 0 ≤ hour ∧ hour ≤ 1000000) : ∀ (k : Nat) (t : Int), 0 ≤ t → t + k = 10000 → ev 960 42 [qR 50, qI a, qI b, qI hour, qI t] [] σ = some (some (qI (fst1 (p_both σ a b hour) k t)), σ)
  | 0, t, h0, hk => by
    rw [b960_42, if_pos (by omega), b960_89]; rfl
  | k + 1, t, h0, hk => by
    have r := p_gl_rng (t := t) h (by omega)
    rw [b960_42, if_neg (by omega), fst1, p_both]
    simp (disch := first | omega | exact b01_or _) only [b960_50, b960_59, m_glassBy h (t := t) (by omega), m_fitsDry h ha (hour := hour) (gl := p_gl σ t) (by omega) (by omega), Option.bind_some, q_push_some, q_push_none]
    unfold p_dry
    cases c1 : p_fit σ (p_fb σ a hour (σ 51 (6 + a).toNat)) (p_gl σ t)
    · simp (disch := first | omega | exact b01_or _) only [b960_62, b960_83, b01_eq0, b01_eq1, decide_eq_false_iff_not, decide_eq_true_eq, ite_not, b01_t, b01_f, one_ne0, zero_eq0, Bool.true_eq_false, Bool.false_eq_true, ite_true, ite_false, and_self, and_true, true_and, not_true_eq_false, not_false_eq_true, Bool.false_and]
      exact m_wornL h ha hb hh k (t + 1) (by omega) (by omega)
    · simp (disch := first | omega | exact b01_or _) only [b960_62, b960_65, b960_74, m_glassBy h (t := t) (by omega), m_fitsDry h hb (hour := hour) (gl := p_gl σ t) (by omega) (by omega), Option.bind_some, q_push_some, q_push_none, b01_eq0, b01_eq1, decide_eq_false_iff_not, decide_eq_true_eq, ite_not, b01_t, b01_f, one_ne0, zero_eq0, Bool.true_eq_false, Bool.false_eq_true, ite_true, ite_false, and_self, and_true, true_and, not_true_eq_false, not_false_eq_true, Bool.true_and]
      cases c2 : p_fit σ (p_fb σ b hour (σ 51 (6 + b).toNat)) (p_gl σ t)
      · simp (disch := first | omega | exact b01_or _) only [b960_77, b960_83, b01_eq0, b01_eq1, decide_eq_false_iff_not, decide_eq_true_eq, ite_not, b01_t, b01_f, one_ne0, zero_eq0, Bool.true_eq_false, Bool.false_eq_true, ite_true, ite_false, and_self, and_true, true_and, not_true_eq_false, not_false_eq_true]
        exact m_wornL h ha hb hh k (t + 1) (by omega) (by omega)
      · simp (disch := first | omega | exact b01_or _) only [b960_77, b960_80, b01_eq0, b01_eq1, decide_eq_false_iff_not, decide_eq_true_eq, ite_not, b01_t, b01_f, one_ne0, zero_eq0, Bool.true_eq_false, Bool.false_eq_true, ite_true, ite_false, and_self, and_true, true_and, not_true_eq_false, not_false_eq_true]
/-- the fewest tries, in one go -/
theorem worn_eq {A B S T W : Int} (hS : 1 ≤ S) (hA : A ≤ 122) (hB : B ≤ 122) (hW : 0 ≤ W) {gl : Int → Int} (hgl : ∀ t, gl t = S + if W = 0 then 0 else t / W) {M d t0 : Int} (hM : M = if A < B then B else A) (hd : d = if 0 < M - S then M - S else 0) (ht0 : t0 = d * W) {fit : Int → Int → Bool} (hfit : ∀ v g, fit v g = decide (0 ≤ g - v ∧ g - v ≤ T)) :
    fst1 (fun t => fit A (gl t) && fit B (gl t)) 10000 0 = if (fit A (gl t0) && fit B (gl t0)) = true ∧ t0 ≤ 9999 then t0 else -1 := by
  by_cases hw : W = 0
  · subst hw
    have t00 : t0 = 0 := by rw [ht0, Int.mul_zero]
    have g0 : ∀ t, gl t = S := fun t => by rw [hgl, if_pos rfl, Int.add_zero]
    rw [t00]
    cases c : (fit A (gl 0) && fit B (gl 0))
    · rw [if_neg (by simp)]
      exact fst1_none (fun x _ _ => by rw [g0 x, ← g0 0]; exact c)
    · rw [if_pos (by simp)]
      exact fst1_some (by omega) (by omega) c (fun x h1 h2 => by omega)
  · have hd0 : 0 ≤ d := by rw [hd]; split <;> omega
    have t00 : 0 ≤ t0 := by rw [ht0]; exact Int.mul_nonneg hd0 hW
    have g0 : gl t0 = S + d := by rw [hgl, if_neg hw, ht0, Int.mul_ediv_cancel _ hw]
    have low : ∀ x, 0 ≤ x → x < t0 → (fit A (gl x) && fit B (gl x)) = false := by
      intro x h1 h2
      have h3 : x / W < d := Int.ediv_lt_of_lt_mul (by omega) (by rw [ht0] at h2; exact h2)
      have h4 : gl x = S + x / W := by rw [hgl, if_neg hw]
      have h5 : 0 ≤ x / W := Int.ediv_nonneg h1 hW
      rw [hfit, hfit, ← Bool.decide_and]
      apply decide_eq_false
      rw [h4, hM] at *
      split at hd <;> split at hd <;> omega
    cases c : (fit A (gl t0) && fit B (gl t0))
    · rw [if_neg (by simp)]
      refine fst1_none (fun x h1 h2 => ?_)
      by_cases hx : x < t0
      · exact low x h1 hx
      · have h3 : d ≤ x / W := by
          have := Int.ediv_le_ediv (show 0 < W by omega) (show t0 ≤ x by omega)
          rw [ht0, Int.mul_ediv_cancel _ hw] at this
          exact this
        have h4 : gl x = S + x / W := by rw [hgl, if_neg hw]
        rw [hfit, hfit, ← Bool.decide_and] at c ⊢
        have c' := of_decide_eq_false c
        apply decide_eq_false
        rw [h4]
        rw [g0] at c'
        rw [hM] at hd
        split at hd <;> split at hd <;> omega
    · by_cases ht : t0 ≤ 9999
      · rw [if_pos ⟨rfl, ht⟩]
        exact fst1_some (by omega) (by omega) c low
      · rw [if_neg (fun z => ht z.2)]
        exact fst1_none (fun x h1 h2 => low x h1 (by omega))
theorem c_fewestTries {A B : Int} (h : RR σ N) (hA : 1 ≤ A ∧ A ≤ 122) (hB : 1 ≤ B ∧ B ≤ 122) : ev 212 0 [qR 34, qI A, qI B, qU, qU, qU, qU] [] σ = some (some (qI (fst1 (fun t => p_fit σ A (p_gl σ t) && p_fit σ B (p_gl σ t)) 10000 0)), σ) := by
  have ht := h.t
  obtain ⟨M, hM⟩ : ∃ M : Int, M = if A < B then B else A := ⟨_, rfl⟩
  have hM1 : 1 ≤ M ∧ M ≤ 122 := by split at hM <;> omega
  obtain ⟨d, hd⟩ : ∃ d : Int, d = if 0 < M - σ 53 0 then M - σ 53 0 else 0 := ⟨_, rfl⟩
  have hd1 : 0 ≤ d ∧ d ≤ 121 := by split at hd <;> omega
  obtain ⟨t0, ht0⟩ : ∃ t0 : Int, t0 = d * σ 53 2 := ⟨_, rfl⟩
  have ht1 : 0 ≤ t0 := by rw [ht0]; exact Int.mul_nonneg hd1.1 (by omega)
  have ht2 : t0 ≤ 121 * 99 := by rw [ht0]; exact Int.mul_le_mul hd1.2 (by omega) (by omega) (by omega)
  have e1 : σ 12 11 = σ 53 0 := by omega
  have e2 : σ 12 13 = σ 53 2 := by omega
  have r := p_gl_rng (t := t0) h (by omega)
  rw [worn_eq (S := σ 53 0) (T := σ 53 1) (W := σ 53 2) (A := A) (B := B) (gl := p_gl σ) (fit := p_fit σ) (by omega) (by omega) (by omega) (by omega) (fun _ => rfl) hM hd ht0 (fun _ _ => rfl)]
  rw [b212_0, j_max, ← hM]
  simp (disch := first | omega | exact b01_or _) only [Option.bind_some, q_push_some, q_push_none]
  rw [b212_5 (by omega), e1, j_max, ← hd]
  simp (disch := first | omega | exact b01_or _) only [Option.bind_some, q_push_some, q_push_none]
  rw [b212_19 (by rw [e2, ← ht0]; omega), e2, ← ht0, c_glassAfter h (by omega)]
  simp (disch := first | omega | exact b01_or _) only [Option.bind_some, q_push_some, q_push_none, b212_38, c_fitsGlass h (v := A) (gl := p_gl σ t0) (by omega) (by omega)]
  cases c1 : p_fit σ A (p_gl σ t0)
  · simp (disch := first | omega | exact b01_or _) only [b212_0, b212_5, b212_19, b212_38, b212_50, b212_53, b212_63, b212_66, b212_70, b212_71, b212_78, b212_86, b212_91, b212_92, Option.bind_some, q_push_some, q_push_none, b01_eq0, b01_eq1, decide_eq_false_iff_not, decide_eq_true_eq, ite_not, b01_t, b01_f, one_ne0, zero_eq0, Bool.true_eq_false, Bool.false_eq_true, ite_true, ite_false, and_self, and_true, true_and, not_true_eq_false, not_false_eq_true, Bool.false_and, false_and]
  · simp (disch := first | omega | exact b01_or _) only [b212_50, b212_53, c_fitsGlass h (v := B) (gl := p_gl σ t0) (by omega) (by omega), Option.bind_some, q_push_some, q_push_none, b01_eq0, b01_eq1, decide_eq_false_iff_not, decide_eq_true_eq, ite_not, b01_t, b01_f, one_ne0, zero_eq0, Bool.true_eq_false, Bool.false_eq_true, ite_true, ite_false, and_self, and_true, true_and, not_true_eq_false, not_false_eq_true, Bool.true_and]
    cases c2 : p_fit σ B (p_gl σ t0)
    · simp (disch := first | omega | exact b01_or _) only [b212_0, b212_5, b212_19, b212_38, b212_50, b212_53, b212_63, b212_66, b212_70, b212_71, b212_78, b212_86, b212_91, b212_92, Option.bind_some, q_push_some, q_push_none, b01_eq0, b01_eq1, decide_eq_false_iff_not, decide_eq_true_eq, ite_not, b01_t, b01_f, one_ne0, zero_eq0, Bool.true_eq_false, Bool.false_eq_true, ite_true, ite_false, and_self, and_true, true_and, not_true_eq_false, not_false_eq_true, false_and]
    · by_cases hz : t0 ≤ 9999
      · have hz' : ¬ 9999 < t0 := by omega
        simp (disch := first | omega | exact b01_or _) only [b212_0, b212_5, b212_19, b212_38, b212_50, b212_53, b212_63, b212_66, b212_70, b212_71, b212_78, b212_86, b212_91, b212_92, Option.bind_some, q_push_some, q_push_none, b01_eq0, b01_eq1, decide_eq_false_iff_not, decide_eq_true_eq, ite_not, b01_t, b01_f, one_ne0, zero_eq0, Bool.true_eq_false, Bool.false_eq_true, ite_true, ite_false, and_self, and_true, true_and, not_true_eq_false, not_false_eq_true, hz, hz', and_self]
      · have hz' : 9999 < t0 := by omega
        simp (disch := first | omega | exact b01_or _) only [b212_0, b212_5, b212_19, b212_38, b212_50, b212_53, b212_63, b212_66, b212_70, b212_71, b212_78, b212_86, b212_91, b212_92, Option.bind_some, q_push_some, q_push_none, b01_eq0, b01_eq1, decide_eq_false_iff_not, decide_eq_true_eq, ite_not, b01_t, b01_f, one_ne0, zero_eq0, Bool.true_eq_false, Bool.false_eq_true, ite_true, ite_false, and_self, and_true, true_and, not_true_eq_false, not_false_eq_true, hz, hz', and_false]
theorem op_worn {a b hour : Int} (h : RR σ N) (hN : N + 999 ≤ 100000) : Op 828 960 [qR 0, qI a, qI b, qI hour] [qR 50, qI a, qI b, qI hour, qU] σ N := by
  by_cases hc : (0 ≤ a ∧ a < σ 50 14) ∧ (0 ≤ b ∧ b < σ 50 14) ∧ a ≠ b
  · have hGa := h.g hc.1.1 hc.1.2
    have hGb := h.g hc.2.1.1 hc.2.1.2
    have ra := p_fb_rng (hour := hour) (pad := σ 51 (6 + a).toNat) h hc.1 (by omega)
    have rb := p_fb_rng (hour := hour) (pad := σ 51 (6 + b).toNat) h hc.2.1 (by omega)
    by_cases hh : 0 ≤ hour ∧ hour < 24
    · have hh' : 0 ≤ hour ∧ hour ≤ 23 := by omega
      refine Op.ro h hN (a := fst1 (p_both σ a b hour) 10000 0) ?_ ?_
      · rw [b828_0, c_two h, decide_eq_true hc]
        simp (disch := first | omega | exact b01_or _) only [b828_6, b828_12, b828_16, b828_22, b828_35, b828_44, b828_47, c_isHour, hh.1, hh.2, c_dryFoot h hc.1 (hour := hour) (by omega), c_dryFoot h hc.2.1 (hour := hour) (by omega), c_fewestTries h ra rb, Option.bind_some, q_push_some, q_push_none, b01_eq0, b01_eq1, decide_eq_false_iff_not, decide_eq_true_eq, ite_not, b01_t, b01_f, one_ne0, zero_eq0, Bool.true_eq_false, Bool.false_eq_true, ite_true, ite_false, and_self, and_true, true_and, not_true_eq_false, not_false_eq_true]
        rfl
      · simp (disch := first | omega | exact b01_or _) only [b960_0, b960_5, b960_8, b960_13, b960_16, b960_24, b960_33, b960_39, m_isGirl h, m_in, hc.1.1, hc.1.2, hc.2.1.1, hc.2.1.2, hc.2.2, hh'.1, hh'.2, Option.bind_some, q_push_some, q_push_none, b01_eq0, b01_eq1, decide_eq_false_iff_not, decide_eq_true_eq, ite_not, b01_t, b01_f, one_ne0, zero_eq0, Bool.true_eq_false, Bool.false_eq_true, ite_true, ite_false, and_self, and_true, true_and, not_true_eq_false, not_false_eq_true]
        exact m_wornL h hc.1 hc.2.1 (by omega) 10000 0 (by omega) (by omega)
    · have hh' : ¬ (0 ≤ hour ∧ hour ≤ 23) := by omega
      refine Op.ro h hN (a := -1000000002) ?_ ?_
      · rw [b828_0, c_two h, decide_eq_true hc]
        simp (disch := first | omega | exact b01_or _) only [b828_6, b828_12, b828_16, b828_19, c_isHour, hh, Option.bind_some, q_push_some, q_push_none, b01_eq0, b01_eq1, decide_eq_false_iff_not, decide_eq_true_eq, ite_not, b01_t, b01_f, one_ne0, zero_eq0, Bool.true_eq_false, Bool.false_eq_true, ite_true, ite_false, and_self, and_true, true_and, not_true_eq_false, not_false_eq_true]
      · simp (disch := first | omega | exact b01_or _) only [b960_0, b960_5, b960_8, b960_13, b960_16, b960_24, b960_33, b960_36, m_isGirl h, m_in, hc.1.1, hc.1.2, hc.2.1.1, hc.2.1.2, hc.2.2, hh', Option.bind_some, q_push_some, q_push_none, b01_eq0, b01_eq1, decide_eq_false_iff_not, decide_eq_true_eq, ite_not, b01_t, b01_f, one_ne0, zero_eq0, Bool.true_eq_false, Bool.false_eq_true, ite_true, ite_false, and_self, and_true, true_and, not_true_eq_false, not_false_eq_true]
  · refine Op.ro h hN (a := -1000000001) ?_ ?_
    · rw [b828_0, c_two h, decide_eq_false hc]
      simp (disch := first | omega | exact b01_or _) only [b828_6, b828_9, Option.bind_some, q_push_some, q_push_none, b01_eq0, b01_eq1, decide_eq_false_iff_not, decide_eq_true_eq, ite_not, b01_t, b01_f, one_ne0, zero_eq0, Bool.true_eq_false, Bool.false_eq_true, ite_true, ite_false, and_self, and_true, true_and, not_true_eq_false, not_false_eq_true]
    · by_cases h1 : 0 ≤ a ∧ a < σ 50 14
      · by_cases h2 : 0 ≤ b ∧ b < σ 50 14
        · have h3 : a = b := by
            apply Classical.byContradiction
            intro z
            exact hc ⟨h1, h2, z⟩
          simp (disch := first | omega | exact b01_or _) only [b960_0, b960_5, b960_8, b960_13, b960_16, b960_21, m_isGirl h, h1.1, h1.2, h2.1, h2.2, h3, Option.bind_some, q_push_some, q_push_none, b01_eq0, b01_eq1, decide_eq_false_iff_not, decide_eq_true_eq, ite_not, b01_t, b01_f, one_ne0, zero_eq0, Bool.true_eq_false, Bool.false_eq_true, ite_true, ite_false, and_self, and_true, true_and, not_true_eq_false, not_false_eq_true]
        · simp (disch := first | omega | exact b01_or _) only [b960_0, b960_5, b960_8, b960_13, b960_21, m_isGirl h, h1.1, h1.2, h2, Option.bind_some, q_push_some, q_push_none, b01_eq0, b01_eq1, decide_eq_false_iff_not, decide_eq_true_eq, ite_not, b01_t, b01_f, one_ne0, zero_eq0, Bool.true_eq_false, Bool.false_eq_true, ite_true, ite_false, and_self, and_true, true_and, not_true_eq_false, not_false_eq_true]
      · simp (disch := first | omega | exact b01_or _) only [b960_0, b960_5, b960_21, m_isGirl h, h1, Option.bind_some, q_push_some, q_push_none, b01_eq0, b01_eq1, decide_eq_false_iff_not, decide_eq_true_eq, ite_not, b01_t, b01_f, one_ne0, zero_eq0, Bool.true_eq_false, Bool.false_eq_true, ite_true, ite_false, and_self, and_true, true_and, not_true_eq_false, not_false_eq_true]
end O5
