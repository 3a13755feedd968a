/-! ===== rule, apart, worn ===== -/
section O4
variable {σ : SS} {N : Int}
/-- no other girl passes -/
def p_no (σ : SS) (g a b : Int) : Nat → Int → Bool
  | 0, _ => true
  | k + 1, x => (decide (x = g) || decide (fst1 (p_two σ x a b) 6 0 = -1)) && p_no σ g a b k (x + 1)
def p_rule (σ : SS) (g a b : Int) : Bool := p_two σ g a b 0 && p_no σ g a b (σ 50 14).toNat 0
theorem c_isRuleL {g a b : Int} (h : RR σ N) (ha : 0 ≤ a ∧ a ≤ 1000000) (hb : 0 ≤ b ∧ b ≤ 1000000) : ∀ (k : Nat) (x : Int), 0 ≤ x → x + k = σ 50 14 → ev 825 29 [qR 0, qI g, qI a, qI b, qI x] [] σ = some (some (qI (b01 (p_no σ g a b k x))), σ)
  | 0, x, h0, hk => by
    have ht := h.t
    rw [b825_29, if_neg (by omega), b825_70]; rfl
  | k + 1, x, h0, hk => by
    have ht := h.t
    rw [b825_29, if_pos (by omega), p_no]
    by_cases hc : x = g
    · simp (disch := first | omega | exact b01_or _) only [b825_0, b825_9, b825_12, b825_21, b825_24, b825_26, b825_41, b825_47, b825_58, b825_62, b825_64, b825_70, hc, if_true, decide_true, Bool.true_or, Bool.true_and]
      subst hc
      exact c_isRuleL h ha hb k (x + 1) (by omega) (by omega)
    · rw [b825_41, if_neg hc, b825_47, c_least h (by omega) ha hb]
      by_cases hq : fst1 (p_two σ x a b) 6 0 = -1
      · simp (disch := first | omega | exact b01_or _) only [b825_0, b825_9, b825_12, b825_21, b825_24, b825_26, b825_41, b825_47, b825_58, b825_62, b825_64, b825_70, Option.bind_some, q_push_some, q_push_none, hq, if_true, decide_true, Bool.or_true, Bool.true_and]
        exact c_isRuleL h ha hb k (x + 1) (by omega) (by omega)
      · simp (disch := first | omega | exact b01_or _) only [b825_0, b825_9, b825_12, b825_21, b825_24, b825_26, b825_41, b825_47, b825_58, b825_62, b825_64, b825_70, Option.bind_some, q_push_some, q_push_none, hq, hc, if_false, decide_false, Bool.or_false, Bool.false_and]
        rfl
theorem c_isRule {g a b : Int} (h : RR σ N) (hg : 0 ≤ g ∧ g < σ 50 14) (ha : 0 ≤ a ∧ a ≤ 1000000) (hb : 0 ≤ b ∧ b ≤ 1000000) : ev 825 0 [qR 0, qI g, qI a, qI b, qU] [] σ = some (some (qI (b01 (p_rule σ g a b))), σ) := by
  have ht := h.t
  unfold p_rule p_two
  rw [b825_0, c_fitsBare h hg ha]
  cases c1 : p_fit σ (p_fb σ g a 0) (σ 53 0)
  · simp (disch := first | omega | exact b01_or _) only [b825_0, b825_9, b825_12, b825_21, b825_24, b825_26, b825_41, b825_47, b825_58, b825_62, b825_64, b825_70, Option.bind_some, q_push_some, q_push_none, b01_eq0, b01_eq1, decide_eq_false_iff_not, decide_eq_true_eq, ite_not, b01_t, b01_f, one_ne0, zero_eq0, Bool.true_eq_false, Bool.false_eq_true, ite_true, ite_false, and_self, and_true, true_and, not_true_eq_false, not_false_eq_true, Bool.false_and]
  · simp (disch := first | omega | exact b01_or _) only [Option.bind_some, q_push_some, q_push_none, b825_9, b825_12, c_fitsBare h hg hb, b01_eq0, b01_eq1, decide_eq_false_iff_not, decide_eq_true_eq, ite_not, b01_t, b01_f, one_ne0, zero_eq0, Bool.true_eq_false, Bool.false_eq_true, ite_true, ite_false, and_self, and_true, true_and, not_true_eq_false, not_false_eq_true, Bool.true_and]
    cases c2 : p_fit σ (p_fb σ g b 0) (σ 53 0)
    · simp (disch := first | omega | exact b01_or _) only [b825_0, b825_9, b825_12, b825_21, b825_24, b825_26, b825_41, b825_47, b825_58, b825_62, b825_64, b825_70, Option.bind_some, q_push_some, q_push_none, b01_eq0, b01_eq1, decide_eq_false_iff_not, decide_eq_true_eq, ite_not, b01_t, b01_f, one_ne0, zero_eq0, Bool.true_eq_false, Bool.false_eq_true, ite_true, ite_false, and_self, and_true, true_and, not_true_eq_false, not_false_eq_true, Bool.false_and]
    · simp (disch := first | omega | exact b01_or _) only [b825_0, b825_9, b825_12, b825_21, b825_24, b825_26, b825_41, b825_47, b825_58, b825_62, b825_64, b825_70, Option.bind_some, q_push_some, q_push_none, b01_eq0, b01_eq1, decide_eq_false_iff_not, decide_eq_true_eq, ite_not, b01_t, b01_f, one_ne0, zero_eq0, Bool.true_eq_false, Bool.false_eq_true, ite_true, ite_false, and_self, and_true, true_and, not_true_eq_false, not_false_eq_true, Bool.true_and]
      exact c_isRuleL h ha hb (σ 50 14).toNat 0 (by omega) (by omega)
theorem m_isRuleL {g a b : Int} (h : RR σ N) (ha : 0 ≤ a ∧ a ≤ 23) (hb : 0 ≤ b ∧ b ≤ 23) : ∀ (k : Nat) (x : Int) (s : Bool), 0 ≤ x → x + k = σ 50 14 → ev 956 50 [qR 50, qI g, qI a, qI b, qI (b01 s), qI x] [] σ = some (some (qI (b01 (s && p_no σ g a b k x))), σ)
  | 0, x, s, h0, hk => by
    have ht := h.t
    rw [b956_50, if_neg (by omega), b956_94 (b01_or _), p_no, Bool.and_true]
  | k + 1, x, s, h0, hk => by
    have ht := h.t
    rw [b956_50, if_pos (by omega), p_no]
    cases s
    · simp (disch := first | omega | exact b01_or _) only [b956_0, b956_8, b956_17, b956_20, b956_28, b956_37, b956_40, b956_44, b956_45, b956_59, b956_64, b956_70, b956_78, b956_81, b956_85, b956_86, b956_94, b01_eq0, b01_eq1, decide_eq_false_iff_not, decide_eq_true_eq, ite_not, b01_t, b01_f, one_ne0, zero_eq0, Bool.true_eq_false, Bool.false_eq_true, ite_true, ite_false, and_self, and_true, true_and, not_true_eq_false, not_false_eq_true, Bool.false_and]
      have := m_isRuleL (g := g) h ha hb k (x + 1) false (by omega) (by omega)
      rw [Bool.false_and] at this
      exact this
    · by_cases hc : x = g
      · simp (disch := first | omega | exact b01_or _) only [b956_0, b956_8, b956_17, b956_20, b956_28, b956_37, b956_40, b956_44, b956_45, b956_59, b956_64, b956_70, b956_78, b956_81, b956_85, b956_86, b956_94, hc, b01_eq0, b01_eq1, decide_eq_false_iff_not, decide_eq_true_eq, ite_not, b01_t, b01_f, one_ne0, zero_eq0, Bool.true_eq_false, Bool.false_eq_true, ite_true, ite_false, and_self, and_true, true_and, not_true_eq_false, not_false_eq_true, if_true, decide_true, Bool.true_or, Bool.true_and]
        subst hc
        have := m_isRuleL (g := x) h ha hb k (x + 1) true (by omega) (by omega)
        rw [Bool.true_and] at this
        exact this
      · rw [b956_59, if_neg (by decide), b956_64, if_neg hc, b956_70, m_passes h (by omega) ha hb]
        rcases fst1_rng (p_two σ x a b) 6 0 with hq | hq
        · simp (disch := first | omega | exact b01_or _) only [b956_0, b956_8, b956_17, b956_20, b956_28, b956_37, b956_40, b956_44, b956_45, b956_59, b956_64, b956_70, b956_78, b956_81, b956_85, b956_86, b956_94, Option.bind_some, q_push_some, q_push_none, hq, if_true, decide_true, Bool.or_true, Bool.true_and, Int.reduceLT]
          have := m_isRuleL (g := g) h ha hb k (x + 1) true (by omega) (by omega)
          rw [Bool.true_and] at this
          exact this
        · have q1 : ¬ fst1 (p_two σ x a b) 6 0 < 0 := by omega
          have q2 : ¬ fst1 (p_two σ x a b) 6 0 = -1 := by omega
          simp (disch := first | omega | exact b01_or _) only [b956_0, b956_8, b956_17, b956_20, b956_28, b956_37, b956_40, b956_44, b956_45, b956_59, b956_64, b956_70, b956_78, b956_81, b956_85, b956_86, b956_94, Option.bind_some, q_push_some, q_push_none, q1, q2, hc, if_false, decide_false, Bool.or_false, Bool.false_and, Bool.and_false]
          have := m_isRuleL (g := g) h ha hb k (x + 1) false (by omega) (by omega)
          rw [Bool.false_and] at this
          exact this
theorem m_isRule {g a b : Int} (h : RR σ N) (hg : 0 ≤ g ∧ g < σ 50 14) (ha : 0 ≤ a ∧ a ≤ 23) (hb : 0 ≤ b ∧ b ≤ 23) : ev 956 0 [qR 50, qI g, qI a, qI b, qU, qU] [] σ = some (some (qI (b01 (p_rule σ g a b))), σ) := by
  have ht := h.t
  have r1 := p_fb_rng (hour := a) (pad := 0) h hg (by omega)
  have r2 := p_fb_rng (hour := b) (pad := 0) h hg (by omega)
  unfold p_rule p_two
  simp (disch := first | omega | exact b01_or _) only [b956_0, b956_8, m_footBy h hg (hour := a) (by omega) (pad := 0) (by omega), m_fits h (v := p_fb σ g a 0) (by omega) (gl := σ 53 0) (by omega), Option.bind_some, q_push_some, q_push_none]
  cases c1 : p_fit σ (p_fb σ g a 0) (σ 53 0)
  · simp (disch := first | omega | exact b01_or _) only [b956_0, b956_8, b956_17, b956_20, b956_28, b956_37, b956_40, b956_44, b956_45, b956_59, b956_64, b956_70, b956_78, b956_81, b956_85, b956_86, b956_94, Option.bind_some, q_push_some, q_push_none, b01_eq0, b01_eq1, decide_eq_false_iff_not, decide_eq_true_eq, ite_not, b01_t, b01_f, one_ne0, zero_eq0, Bool.true_eq_false, Bool.false_eq_true, ite_true, ite_false, and_self, and_true, true_and, not_true_eq_false, not_false_eq_true, Bool.false_and]
    have := m_isRuleL (g := g) h ha hb (σ 50 14).toNat 0 false (by omega) (by omega)
    rw [Bool.false_and] at this
    exact this
  · simp (disch := first | omega | exact b01_or _) only [b956_17, b956_20, b956_28, m_footBy h hg (hour := b) (by omega) (pad := 0) (by omega), m_fits h (v := p_fb σ g b 0) (by omega) (gl := σ 53 0) (by omega), Option.bind_some, q_push_some, q_push_none, b01_eq0, b01_eq1, decide_eq_false_iff_not, decide_eq_true_eq, ite_not, b01_t, b01_f, one_ne0, zero_eq0, Bool.true_eq_false, Bool.false_eq_true, ite_true, ite_false, and_self, and_true, true_and, not_true_eq_false, not_false_eq_true, Bool.true_and]
    cases c2 : p_fit σ (p_fb σ g b 0) (σ 53 0)
    · simp (disch := first | omega | exact b01_or _) only [b956_0, b956_8, b956_17, b956_20, b956_28, b956_37, b956_40, b956_44, b956_45, b956_59, b956_64, b956_70, b956_78, b956_81, b956_85, b956_86, b956_94, Option.bind_some, q_push_some, q_push_none, b01_eq0, b01_eq1, decide_eq_false_iff_not, decide_eq_true_eq, ite_not, b01_t, b01_f, one_ne0, zero_eq0, Bool.true_eq_false, Bool.false_eq_true, ite_true, ite_false, and_self, and_true, true_and, not_true_eq_false, not_false_eq_true, Bool.false_and]
      have := m_isRuleL (g := g) h ha hb (σ 50 14).toNat 0 false (by omega) (by omega)
      rw [Bool.false_and] at this
      exact this
    · simp (disch := first | omega | exact b01_or _) only [b956_0, b956_8, b956_17, b956_20, b956_28, b956_37, b956_40, b956_44, b956_45, b956_59, b956_64, b956_70, b956_78, b956_81, b956_85, b956_86, b956_94, Option.bind_some, q_push_some, q_push_none, b01_eq0, b01_eq1, decide_eq_false_iff_not, decide_eq_true_eq, ite_not, b01_t, b01_f, one_ne0, zero_eq0, Bool.true_eq_false, Bool.false_eq_true, ite_true, ite_false, and_self, and_true, true_and, not_true_eq_false, not_false_eq_true, Bool.true_and]
      have := m_isRuleL (g := g) h ha hb (σ 50 14).toNat 0 true (by omega) (by omega)
      rw [Bool.true_and] at this
      exact this
/-- the first pair -/
def p_pair2 (σ : SS) (g w a : Int) : Nat → Int → Option Int
  | 0, _ => none
  | k + 1, b => if p_rule σ g a b then some (if w = 0 then a else b) else p_pair2 σ g w a k (b + 1)
def p_pair1 (σ : SS) (g w : Int) : Nat → Int → Int
  | 0, _ => -1
  | k + 1, a => match p_pair2 σ g w a k (a + 1) with
    | some r => r
    | none => p_pair1 σ g w k (a + 1)
theorem c_ruleL2 {g w a : Int} (h : RR σ N) (hg : 0 ≤ g ∧ g < σ 50 14) (ha : 0 ≤ a ∧ a ≤ 23) : ∀ (k : Nat) (b : Int), 0 ≤ b → b + k = 24 → ev 824 39 [qR 0, qI g, qI w, qI a, qI b] [] σ = match p_pair2 σ g w a k b with
    | some r => some (some (qI r), σ)
    | none => ev 824 28 [qR 0, qI g, qI w, qI (a + 1), qI 24] [] σ
  | 0, b, h0, hk => by
    have e : b = 24 := by omega
    rw [b824_39, if_neg (by omega), b824_74 (by omega), e]; rfl
  | k + 1, b, h0, hk => by
    rw [b824_39, if_pos (by omega), p_pair2, b824_46, c_isRule h hg (by omega) (by omega)]
    cases c1 : p_rule σ g a b
    · simp (disch := first | omega | exact b01_or _) only [b824_54, b824_68, Option.bind_some, q_push_some, q_push_none, b01_eq0, b01_eq1, decide_eq_false_iff_not, decide_eq_true_eq, ite_not, b01_t, b01_f, one_ne0, zero_eq0, Bool.true_eq_false, Bool.false_eq_true, ite_true, ite_false, and_self, and_true, true_and, not_true_eq_false, not_false_eq_true]
      exact c_ruleL2 h hg ha k (b + 1) (by omega) (by omega)
    · by_cases hw : w = 0
      · simp (disch := first | omega | exact b01_or _) only [b824_54, b824_57, b824_61, b824_67, hw, Option.bind_some, q_push_some, q_push_none, b01_eq0, b01_eq1, decide_eq_false_iff_not, decide_eq_true_eq, ite_not, b01_t, b01_f, one_ne0, zero_eq0, Bool.true_eq_false, Bool.false_eq_true, ite_true, ite_false, and_self, and_true, true_and, not_true_eq_false, not_false_eq_true]
      · simp (disch := first | omega | exact b01_or _) only [b824_54, b824_57, b824_65, b824_67, hw, Option.bind_some, q_push_some, q_push_none, b01_eq0, b01_eq1, decide_eq_false_iff_not, decide_eq_true_eq, ite_not, b01_t, b01_f, one_ne0, zero_eq0, Bool.true_eq_false, Bool.false_eq_true, ite_true, ite_false, and_self, and_true, true_and, not_true_eq_false, not_false_eq_true]
theorem c_ruleL1 {g w : Int} (h : RR σ N) (hg : 0 ≤ g ∧ g < σ 50 14) : ∀ (k : Nat) (a : Int) (v : AV), 0 ≤ a → a + k = 24 → ev 824 28 [qR 0, qI g, qI w, qI a, v] [] σ = some (some (qI (p_pair1 σ g w k a)), σ)
  | 0, a, v, h0, hk => by
    rw [b824_28, if_neg (by omega), b824_80]; rfl
  | k + 1, a, v, h0, hk => by
    rw [b824_28, if_pos (by omega), b824_34 (by omega), c_ruleL2 h hg (by omega) k (a + 1) (by omega) (by omega), p_pair1]
    cases p_pair2 σ g w a k (a + 1)
    · exact c_ruleL1 h hg k (a + 1) _ (by omega) (by omega)
    · rfl
theorem m_ruleL2 {g w a : Int} (h : RR σ N) (hg : 0 ≤ g ∧ g < σ 50 14) (ha : 0 ≤ a ∧ a ≤ 23) : ∀ (k : Nat) (b : Int), 0 ≤ b → b + k = 24 → ev 957 37 [qR 50, qI g, qI w, qI a, qI b] [] σ = match p_pair2 σ g w a k b with
    | some r => some (some (qI r), σ)
    | none => ev 957 26 [qR 50, qI g, qI w, qI (a + 1), qI 24] [] σ
  | 0, b, h0, hk => by
    have e : b = 24 := by omega
    rw [b957_37, if_neg (by omega), b957_72 (by omega), e]; rfl
  | k + 1, b, h0, hk => by
    rw [b957_37, if_pos (by omega), p_pair2, b957_44, m_isRule h hg (by omega) (by omega)]
    cases c1 : p_rule σ g a b
    · simp (disch := first | omega | exact b01_or _) only [b957_52, b957_66, Option.bind_some, q_push_some, q_push_none, b01_eq0, b01_eq1, decide_eq_false_iff_not, decide_eq_true_eq, ite_not, b01_t, b01_f, one_ne0, zero_eq0, Bool.true_eq_false, Bool.false_eq_true, ite_true, ite_false, and_self, and_true, true_and, not_true_eq_false, not_false_eq_true]
      exact m_ruleL2 h hg ha k (b + 1) (by omega) (by omega)
    · by_cases hw : w = 0
      · simp (disch := first | omega | exact b01_or _) only [b957_52, b957_55, b957_59, b957_65, hw, Option.bind_some, q_push_some, q_push_none, b01_eq0, b01_eq1, decide_eq_false_iff_not, decide_eq_true_eq, ite_not, b01_t, b01_f, one_ne0, zero_eq0, Bool.true_eq_false, Bool.false_eq_true, ite_true, ite_false, and_self, and_true, true_and, not_true_eq_false, not_false_eq_true]
      · simp (disch := first | omega | exact b01_or _) only [b957_52, b957_55, b957_63, b957_65, hw, Option.bind_some, q_push_some, q_push_none, b01_eq0, b01_eq1, decide_eq_false_iff_not, decide_eq_true_eq, ite_not, b01_t, b01_f, one_ne0, zero_eq0, Bool.true_eq_false, Bool.false_eq_true, ite_true, ite_false, and_self, and_true, true_and, not_true_eq_false, not_false_eq_true]
theorem m_ruleL1 {g w : Int} (h : RR σ N) (hg : 0 ≤ g ∧ g < σ 50 14) : ∀ (k : Nat) (a : Int) (v : AV), 0 ≤ a → a + k = 24 → ev 957 26 [qR 50, qI g, qI w, qI a, v] [] σ = some (some (qI (p_pair1 σ g w k a)), σ)
  | 0, a, v, h0, hk => by
    rw [b957_26, if_neg (by omega), b957_78]; rfl
  | k + 1, a, v, h0, hk => by
    rw [b957_26, if_pos (by omega), b957_32 (by omega), m_ruleL2 h hg (by omega) k (a + 1) (by omega) (by omega), p_pair1]
    cases p_pair2 σ g w a k (a + 1)
    · exact m_ruleL1 h hg k (a + 1) _ (by omega) (by omega)
    · rfl
theorem op_rule {g w : Int} (h : RR σ N) (hN : N + 999 ≤ 100000) : Op 824 957 [qR 0, qI g, qI w, qU, qU] [qR 50, qI g, qI w, qU, qU] σ N := by
  by_cases hg : 0 ≤ g ∧ g < σ 50 14
  · by_cases hw : 0 ≤ w ∧ w ≤ 1
    · have c1 : ¬ w < 0 := by omega
      have c2 : ¬ 1 < w := by omega
      refine Op.ro h hN (a := p_pair1 σ g w 24 0) ?_ ?_
      · simp (disch := first | omega | exact b01_or _) only [b824_0, b824_8, b824_14, b824_18, b824_26, c_hasGirl h, hg.1, hg.2, c1, c2, Option.bind_some, q_push_some, q_push_none, b01_eq0, b01_eq1, decide_eq_false_iff_not, decide_eq_true_eq, ite_not, b01_t, b01_f, one_ne0, zero_eq0, Bool.true_eq_false, Bool.false_eq_true, ite_true, ite_false, and_self, and_true, true_and, not_true_eq_false, not_false_eq_true]
        exact c_ruleL1 h hg 24 0 _ (by omega) (by omega)
      · simp (disch := first | omega | exact b01_or _) only [b957_0, b957_5, b957_11, b957_18, b957_24, m_isGirl h, m_in, hg.1, hg.2, hw.1, hw.2, Option.bind_some, q_push_some, q_push_none, b01_eq0, b01_eq1, decide_eq_false_iff_not, decide_eq_true_eq, ite_not, b01_t, b01_f, one_ne0, zero_eq0, Bool.true_eq_false, Bool.false_eq_true, ite_true, ite_false, and_self, and_true, true_and, not_true_eq_false, not_false_eq_true]
        exact m_ruleL1 h hg 24 0 _ (by omega) (by omega)
    · refine Op.ro h hN (a := -1000000002) ?_ ?_
      · by_cases c1 : w < 0
        · simp (disch := first | omega | exact b01_or _) only [b824_0, b824_8, b824_14, b824_18, b824_23, c_hasGirl h, hg.1, hg.2, c1, Option.bind_some, q_push_some, q_push_none, b01_eq0, b01_eq1, decide_eq_false_iff_not, decide_eq_true_eq, ite_not, b01_t, b01_f, one_ne0, zero_eq0, Bool.true_eq_false, Bool.false_eq_true, ite_true, ite_false, and_self, and_true, true_and, not_true_eq_false, not_false_eq_true]
        · have c2 : 1 < w := by omega
          simp (disch := first | omega | exact b01_or _) only [b824_0, b824_8, b824_14, b824_18, b824_23, c_hasGirl h, hg.1, hg.2, c1, c2, Option.bind_some, q_push_some, q_push_none, b01_eq0, b01_eq1, decide_eq_false_iff_not, decide_eq_true_eq, ite_not, b01_t, b01_f, one_ne0, zero_eq0, Bool.true_eq_false, Bool.false_eq_true, ite_true, ite_false, and_self, and_true, true_and, not_true_eq_false, not_false_eq_true]
      · simp (disch := first | omega | exact b01_or _) only [b957_0, b957_5, b957_11, b957_18, b957_21, m_isGirl h, m_in, hg.1, hg.2, hw, Option.bind_some, q_push_some, q_push_none, b01_eq0, b01_eq1, decide_eq_false_iff_not, decide_eq_true_eq, ite_not, b01_t, b01_f, one_ne0, zero_eq0, Bool.true_eq_false, Bool.false_eq_true, ite_true, ite_false, and_self, and_true, true_and, not_true_eq_false, not_false_eq_true]
  · refine Op.ro h hN (a := -1000000001) ?_ ?_
    · simp (disch := first | omega | exact b01_or _) only [b824_0, b824_8, b824_11, c_hasGirl h, hg, Option.bind_some, q_push_some, q_push_none, b01_eq0, b01_eq1, decide_eq_false_iff_not, decide_eq_true_eq, ite_not, b01_t, b01_f, one_ne0, zero_eq0, Bool.true_eq_false, Bool.false_eq_true, ite_true, ite_false, and_self, and_true, true_and, not_true_eq_false, not_false_eq_true]
    · simp (disch := first | omega | exact b01_or _) only [b957_0, b957_5, b957_8, m_isGirl h, hg, Option.bind_some, q_push_some, q_push_none, b01_eq0, b01_eq1, decide_eq_false_iff_not, decide_eq_true_eq, ite_not, b01_t, b01_f, one_ne0, zero_eq0, Bool.true_eq_false, Bool.false_eq_true, ite_true, ite_false, and_self, and_true, true_and, not_true_eq_false, not_false_eq_true]
end O4
