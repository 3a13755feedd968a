/-! ===== odds, could, next, walker, judge ===== -/
section O6
variable {σ : SS} {N : Int}
/-- eighths in lowest terms: p over d -/
def p_red (p : Int) : Int × Int := if p % 2 = 0 then (if p / 2 % 2 = 0 then (if p / 2 / 2 % 2 = 0 then (p / 2 / 2 / 2, 1) else (p / 2 / 2, 2)) else (p / 2, 4)) else (p, 8)
theorem c_red {g hour w p : Int} (hp : 0 ≤ p ∧ p ≤ 8) : ev 831 51 [qR 0, qI g, qI hour, qI w, qI p, qI 8, qI 0] [] σ = some (some (qI (if w = 0 then (p_red p).1 else (p_red p).2)), σ) := by
  unfold p_red
  by_cases h1 : p % 2 = 0
  · by_cases h2 : p / 2 % 2 = 0
    · by_cases h3 : p / 2 / 2 % 2 = 0
      · rw [if_pos h1, if_pos h2, if_pos h3]
        rw [b831_51, if_pos (by decide), b831_57 (by omega), if_pos h1, b831_64 (by omega), b831_51, if_pos (by decide), b831_57 (by omega), if_pos h2, b831_64 (by omega), b831_51, if_pos (by decide), b831_57 (by omega), if_pos h3, b831_64 (by omega), b831_51, if_neg (by decide)]
        by_cases hw : w = 0
        · rw [b831_82, if_pos hw, if_pos hw, b831_86, b831_93]
        · rw [b831_82, if_neg hw, if_neg hw, b831_91, b831_93] <;> rfl
      · rw [if_pos h1, if_pos h2, if_neg h3]
        rw [b831_51, if_pos (by decide), b831_57 (by omega), if_pos h1, b831_64 (by omega), b831_51, if_pos (by decide), b831_57 (by omega), if_pos h2, b831_64 (by omega), b831_51, if_pos (by decide), b831_57 (by omega), if_neg h3]
        by_cases hw : w = 0
        · rw [b831_82, if_pos hw, if_pos hw, b831_86, b831_93]
        · rw [b831_82, if_neg hw, if_neg hw, b831_91, b831_93] <;> rfl
    · rw [if_pos h1, if_neg h2]
      rw [b831_51, if_pos (by decide), b831_57 (by omega), if_pos h1, b831_64 (by omega), b831_51, if_pos (by decide), b831_57 (by omega), if_neg h2]
      by_cases hw : w = 0
      · rw [b831_82, if_pos hw, if_pos hw, b831_86, b831_93]
      · rw [b831_82, if_neg hw, if_neg hw, b831_91, b831_93] <;> rfl
  · rw [if_neg h1]
    rw [b831_51, if_pos (by decide), b831_57 (by omega), if_neg h1]
    by_cases hw : w = 0
    · rw [b831_82, if_pos hw, if_pos hw, b831_86, b831_93]
    · rw [b831_82, if_neg hw, if_neg hw, b831_91, b831_93] <;> rfl
theorem m_red {g hour w p a b : Int} (hp : 0 ≤ p ∧ p ≤ 8) : ev 964 133 [qR 50, qI g, qI hour, qI w, qI a, qI b, qI p, qI 8] [] σ = some (some (qI (if w = 0 then (p_red p).1 else (p_red p).2)), σ) := by
  unfold p_red
  by_cases h1 : p % 2 = 0
  · by_cases h2 : p / 2 % 2 = 0
    · by_cases h3 : p / 2 / 2 % 2 = 0
      · rw [if_pos h1, if_pos h2, if_pos h3]
        rw [b964_133 (by omega), if_pos h1, b964_140, if_pos (by decide), b964_146 (by omega), b964_133 (by omega), if_pos h2, b964_140, if_pos (by decide), b964_146 (by omega), b964_133 (by omega), if_pos h3, b964_140, if_pos (by decide), b964_146 (by omega), b964_133 (by omega)]
        have ho : ev 964 140 [qR 50, qI g, qI hour, qI w, qI a, qI b, qI (p / 2 / 2 / 2), qI (8 / 2 / 2 / 2)] [] σ = ev 964 161 [qR 50, qI g, qI hour, qI w, qI a, qI b, qI (p / 2 / 2 / 2), qI (8 / 2 / 2 / 2)] [] σ := by rw [b964_140, if_neg (by decide)]
        rw [ho, ite_self]
        by_cases hw : w = 0
        · rw [b964_161, if_pos hw, if_pos hw, b964_165, b964_172]
        · rw [b964_161, if_neg hw, if_neg hw, b964_170, b964_172] <;> rfl
      · rw [if_pos h1, if_pos h2, if_neg h3]
        rw [b964_133 (by omega), if_pos h1, b964_140, if_pos (by decide), b964_146 (by omega), b964_133 (by omega), if_pos h2, b964_140, if_pos (by decide), b964_146 (by omega), b964_133 (by omega), if_neg h3]
        by_cases hw : w = 0
        · rw [b964_161, if_pos hw, if_pos hw, b964_165, b964_172]
        · rw [b964_161, if_neg hw, if_neg hw, b964_170, b964_172] <;> rfl
    · rw [if_pos h1, if_neg h2]
      rw [b964_133 (by omega), if_pos h1, b964_140, if_pos (by decide), b964_146 (by omega), b964_133 (by omega), if_neg h2]
      by_cases hw : w = 0
      · rw [b964_161, if_pos hw, if_pos hw, b964_165, b964_172]
      · rw [b964_161, if_neg hw, if_neg hw, b964_170, b964_172] <;> rfl
  · rw [if_neg h1]
    rw [b964_133 (by omega), if_neg h1]
    by_cases hw : w = 0
    · rw [b964_161, if_pos hw, if_pos hw, b964_165, b964_172]
    · rw [b964_161, if_neg hw, if_neg hw, b964_170, b964_172] <;> rfl
/-- the eighths by which she fits -/
def p_eig (σ : SS) (g hour : Int) : Int := (if p_fit σ (p_fb σ g hour (σ 51 (6 + g).toNat)) (p_gl σ (σ 51 20)) = true then σ 59 g.toNat else 0) + if p_fit σ (σ 57 g.toNat + σ 54 (σ 51 g.toNat).toNat + σ 51 (6 + g).toNat) (p_gl σ (σ 51 20)) = true then 8 - σ 59 g.toNat else 0
theorem p_eig_rng {g hour : Int} (h : RR σ N) (hg : 0 ≤ g ∧ g < σ 50 14) : 0 ≤ p_eig σ g hour ∧ p_eig σ g hour ≤ 8 := by
  have hG := h.g hg.1 hg.2
  unfold p_eig
  split <;> split <;> omega
theorem c_eig {g hour : Int} (h : RR σ N) (hg : 0 ≤ g ∧ g < σ 50 14) (hh : 0 ≤ hour ∧ hour ≤ 23) : ev 213 0 [qR 34, qI g, qI hour, qU, qU, qU] [] σ = some (some (qI (p_eig σ g hour)), σ) := by
  have hG := h.g hg.1 hg.2
  have e1 : σ 18 g.toNat = σ 59 g.toNat := by omega
  have r1 := p_fb_rng (hour := hour) (pad := σ 51 (6 + g).toNat) h hg (by omega)
  have r2 := p_gn_rng h
  unfold p_eig
  simp (disch := first | omega | exact b01_or _) only [b213_0, b213_8, b213_11, b213_24, b213_30, b213_35, b213_48, b213_52, c_hasGirl h, hg.1, hg.2, e1, c_unswollen h hg, c_paddingOf h hg, c_dryFoot h hg (hour := hour) (by omega), c_glassNow h, c_fitsGlass h (v := p_fb σ g hour (σ 51 (6 + g).toNat)) (gl := p_gl σ (σ 51 20)) (by omega) (by omega), Option.bind_some, q_push_some, q_push_none, b01_eq0, b01_eq1, decide_eq_false_iff_not, decide_eq_true_eq, ite_not, b01_t, b01_f, one_ne0, zero_eq0, Bool.true_eq_false, Bool.false_eq_true, ite_true, ite_false, and_self, and_true, true_and, not_true_eq_false, not_false_eq_true]
  cases c1 : p_fit σ (p_fb σ g hour (σ 51 (6 + g).toNat)) (p_gl σ (σ 51 20))
  · simp (disch := first | omega | exact b01_or _) only [b213_55, b213_58, b213_62, b213_63, b213_75, c_glassNow h, c_fitsGlass h (v := σ 57 g.toNat + σ 54 (σ 51 g.toNat).toNat + σ 51 (6 + g).toNat) (gl := p_gl σ (σ 51 20)) (by omega) (by omega), Option.bind_some, q_push_some, q_push_none, b01_eq0, b01_eq1, decide_eq_false_iff_not, decide_eq_true_eq, ite_not, b01_t, b01_f, one_ne0, zero_eq0, Bool.true_eq_false, Bool.false_eq_true, ite_true, ite_false, and_self, and_true, true_and, not_true_eq_false, not_false_eq_true]
    cases c2 : p_fit σ (σ 57 g.toNat + σ 54 (σ 51 g.toNat).toNat + σ 51 (6 + g).toNat) (p_gl σ (σ 51 20))
    · simp (disch := first | omega | exact b01_or _) only [b213_78, b213_91, b213_93, b01_eq0, b01_eq1, decide_eq_false_iff_not, decide_eq_true_eq, ite_not, b01_t, b01_f, one_ne0, zero_eq0, Bool.true_eq_false, Bool.false_eq_true, ite_true, ite_false, and_self, and_true, true_and, not_true_eq_false, not_false_eq_true]
      exact rI (by omega)
    · simp (disch := first | omega | exact b01_or _) only [b213_78, b213_81, b213_93, b01_eq0, b01_eq1, decide_eq_false_iff_not, decide_eq_true_eq, ite_not, b01_t, b01_f, one_ne0, zero_eq0, Bool.true_eq_false, Bool.false_eq_true, ite_true, ite_false, and_self, and_true, true_and, not_true_eq_false, not_false_eq_true]
      exact rI (by omega)
  · simp (disch := first | omega | exact b01_or _) only [b213_55, b213_58, b213_62, b213_63, b213_75, c_glassNow h, c_fitsGlass h (v := σ 57 g.toNat + σ 54 (σ 51 g.toNat).toNat + σ 51 (6 + g).toNat) (gl := p_gl σ (σ 51 20)) (by omega) (by omega), Option.bind_some, q_push_some, q_push_none, b01_eq0, b01_eq1, decide_eq_false_iff_not, decide_eq_true_eq, ite_not, b01_t, b01_f, one_ne0, zero_eq0, Bool.true_eq_false, Bool.false_eq_true, ite_true, ite_false, and_self, and_true, true_and, not_true_eq_false, not_false_eq_true]
    cases c2 : p_fit σ (σ 57 g.toNat + σ 54 (σ 51 g.toNat).toNat + σ 51 (6 + g).toNat) (p_gl σ (σ 51 20))
    · simp (disch := first | omega | exact b01_or _) only [b213_78, b213_91, b213_93, b01_eq0, b01_eq1, decide_eq_false_iff_not, decide_eq_true_eq, ite_not, b01_t, b01_f, one_ne0, zero_eq0, Bool.true_eq_false, Bool.false_eq_true, ite_true, ite_false, and_self, and_true, true_and, not_true_eq_false, not_false_eq_true]
      exact rI (by omega)
    · simp (disch := first | omega | exact b01_or _) only [b213_78, b213_81, b213_93, b01_eq0, b01_eq1, decide_eq_false_iff_not, decide_eq_true_eq, ite_not, b01_t, b01_f, one_ne0, zero_eq0, Bool.true_eq_false, Bool.false_eq_true, ite_true, ite_false, and_self, and_true, true_and, not_true_eq_false, not_false_eq_true]
      exact rI (by omega)
theorem op_odds {g hour w : Int} (h : RR σ N) (hN : N + 999 ≤ 100000) : Op 831 964 [qR 0, qI g, qI hour, qI w, qU, qU, qU] [qR 50, qI g, qI hour, qI w, qU, qU, qU, qU] σ N := by
  by_cases hg : 0 ≤ g ∧ g < σ 50 14
  · have hG := h.g hg.1 hg.2
    by_cases hh : 0 ≤ hour ∧ hour ≤ 23
    · have hh' : 0 ≤ hour ∧ hour < 24 := by omega
      by_cases hw : 0 ≤ w ∧ w ≤ 1
      · have w1 : ¬ w < 0 := by omega
        have w2 : ¬ 1 < w := by omega
        have re := p_eig_rng (hour := hour) h hg
        have r1 := p_fb_rng (hour := hour) (pad := σ 51 (6 + g).toNat) h hg (by omega)
        have r2 := p_gn_rng h
        refine Op.ro h hN (a := if w = 0 then (p_red (p_eig σ g hour)).1 else (p_red (p_eig σ g hour)).2) ?_ ?_
        · simp (disch := first | omega | exact b01_or _) only [b831_0, b831_8, b831_14, b831_18, b831_21, b831_25, b831_33, b831_42, c_hasGirl h, c_isHour, hg.1, hg.2, hh'.1, hh'.2, w1, w2, c_eig h hg hh, Option.bind_some, q_push_some, q_push_none, b01_eq0, b01_eq1, decide_eq_false_iff_not, decide_eq_true_eq, ite_not, b01_t, b01_f, one_ne0, zero_eq0, Bool.true_eq_false, Bool.false_eq_true, ite_true, ite_false, and_self, and_true, true_and, not_true_eq_false, not_false_eq_true]
          exact c_red re
        · have key : ∀ v : Int, v = σ 57 g.toNat + σ 54 (σ 51 g.toNat).toNat + σ 51 (6 + g).toNat → ev 964 75 [qR 50, qI g, qI hour, qI w, qI (p_fb σ g hour (σ 51 (6 + g).toNat)), qU, qU, qU] [qI v] σ = some (some (qI (if w = 0 then (p_red (p_eig σ g hour)).1 else (p_red (p_eig σ g hour)).2)), σ) := by
            intro v hv
            unfold p_eig
            rw [← hv]
            unfold p_eig at re
            rw [← hv] at re
            simp (disch := first | omega | exact b01_or _) only [b964_75, b964_84, m_glassNow h, m_fits h (v := p_fb σ g hour (σ 51 (6 + g).toNat)) (gl := p_gl σ (σ 51 20)) (by omega) (by omega), Option.bind_some, q_push_some, q_push_none]
            cases c1 : p_fit σ (p_fb σ g hour (σ 51 (6 + g).toNat)) (p_gl σ (σ 51 20))
            · rw [c1] at re
              simp (disch := first | omega | exact b01_or _) only [b964_87, b964_90, b964_99, b964_100, b964_107, m_glassNow h, m_fits h (v := v) (gl := p_gl σ (σ 51 20)) (by omega) (by omega), Option.bind_some, q_push_some, q_push_none, b01_eq0, b01_eq1, decide_eq_false_iff_not, decide_eq_true_eq, ite_not, b01_t, b01_f, one_ne0, zero_eq0, Bool.true_eq_false, Bool.false_eq_true, ite_true, ite_false, and_self, and_true, true_and, not_true_eq_false, not_false_eq_true]
              cases c2 : p_fit σ v (p_gl σ (σ 51 20))
              · simp (disch := first | omega | exact b01_or _) only [b964_110, b964_113, b964_125, b964_126, b01_eq0, b01_eq1, decide_eq_false_iff_not, decide_eq_true_eq, ite_not, b01_t, b01_f, one_ne0, zero_eq0, Bool.true_eq_false, Bool.false_eq_true, ite_true, ite_false, and_self, and_true, true_and, not_true_eq_false, not_false_eq_true]
                rw [c2] at re
                exact m_red (by simpa using re)
              · simp (disch := first | omega | exact b01_or _) only [b964_110, b964_113, b964_125, b964_126, b01_eq0, b01_eq1, decide_eq_false_iff_not, decide_eq_true_eq, ite_not, b01_t, b01_f, one_ne0, zero_eq0, Bool.true_eq_false, Bool.false_eq_true, ite_true, ite_false, and_self, and_true, true_and, not_true_eq_false, not_false_eq_true]
                rw [c2] at re
                exact m_red (by simpa using re)
            · rw [c1] at re
              simp (disch := first | omega | exact b01_or _) only [b964_87, b964_90, b964_99, b964_100, b964_107, m_glassNow h, m_fits h (v := v) (gl := p_gl σ (σ 51 20)) (by omega) (by omega), Option.bind_some, q_push_some, q_push_none, b01_eq0, b01_eq1, decide_eq_false_iff_not, decide_eq_true_eq, ite_not, b01_t, b01_f, one_ne0, zero_eq0, Bool.true_eq_false, Bool.false_eq_true, ite_true, ite_false, and_self, and_true, true_and, not_true_eq_false, not_false_eq_true]
              cases c2 : p_fit σ v (p_gl σ (σ 51 20))
              · simp (disch := first | omega | exact b01_or _) only [b964_110, b964_113, b964_125, b964_126, b01_eq0, b01_eq1, decide_eq_false_iff_not, decide_eq_true_eq, ite_not, b01_t, b01_f, one_ne0, zero_eq0, Bool.true_eq_false, Bool.false_eq_true, ite_true, ite_false, and_self, and_true, true_and, not_true_eq_false, not_false_eq_true]
                rw [c2] at re
                exact m_red (by simpa using re)
              · simp (disch := first | omega | exact b01_or _) only [b964_110, b964_113, b964_125, b964_126, b01_eq0, b01_eq1, decide_eq_false_iff_not, decide_eq_true_eq, ite_not, b01_t, b01_f, one_ne0, zero_eq0, Bool.true_eq_false, Bool.false_eq_true, ite_true, ite_false, and_self, and_true, true_and, not_true_eq_false, not_false_eq_true]
                rw [c2] at re
                exact m_red (by simpa using re)
          simp (disch := first | omega | exact b01_or _) only [b964_0, b964_5, b964_11, b964_20, b964_23, b964_30, b964_36, b964_51, m_isGirl h, m_in, m_footBy h hg (hour := hour) (pad := σ 51 (6 + g).toNat) (by omega) (by omega), hg.1, hg.2, hh.1, hh.2, hw.1, hw.2, Option.bind_some, q_push_some, q_push_none, b01_eq0, b01_eq1, decide_eq_false_iff_not, decide_eq_true_eq, ite_not, b01_t, b01_f, one_ne0, zero_eq0, Bool.true_eq_false, Bool.false_eq_true, ite_true, ite_false, and_self, and_true, true_and, not_true_eq_false, not_false_eq_true]
          have e24 : hour % 24 = hour := by omega
          have ef : p_fb σ g hour (σ 51 (6 + g).toNat) = σ 57 g.toNat + σ 54 (σ 51 g.toNat).toNat + σ 51 (6 + g).toNat + if hour < σ 50 3 then 0 else σ 58 g.toNat := by unfold p_fb; rw [e24]
          by_cases hn : hour < σ 50 3
          · rw [if_pos hn, b964_73]
            exact key _ (by rw [ef, if_pos hn]; omega)
          · rw [if_neg hn, b964_61 (by omega)]
            exact key _ (by rw [ef, if_neg hn]; omega)
      · refine Op.ro h hN (a := -1000000002) ?_ ?_
        · by_cases w1 : w < 0
          · simp (disch := first | omega | exact b01_or _) only [b831_0, b831_8, b831_14, b831_18, b831_21, b831_25, b831_30, c_hasGirl h, c_isHour, hg.1, hg.2, hh'.1, hh'.2, w1, Option.bind_some, q_push_some, q_push_none, b01_eq0, b01_eq1, decide_eq_false_iff_not, decide_eq_true_eq, ite_not, b01_t, b01_f, one_ne0, zero_eq0, Bool.true_eq_false, Bool.false_eq_true, ite_true, ite_false, and_self, and_true, true_and, not_true_eq_false, not_false_eq_true]
          · have w2 : 1 < w := by omega
            simp (disch := first | omega | exact b01_or _) only [b831_0, b831_8, b831_14, b831_18, b831_21, b831_25, b831_30, c_hasGirl h, c_isHour, hg.1, hg.2, hh'.1, hh'.2, w1, w2, Option.bind_some, q_push_some, q_push_none, b01_eq0, b01_eq1, decide_eq_false_iff_not, decide_eq_true_eq, ite_not, b01_t, b01_f, one_ne0, zero_eq0, Bool.true_eq_false, Bool.false_eq_true, ite_true, ite_false, and_self, and_true, true_and, not_true_eq_false, not_false_eq_true]
        · simp (disch := first | omega | exact b01_or _) only [b964_0, b964_5, b964_11, b964_20, b964_23, b964_30, b964_33, m_isGirl h, m_in, hg.1, hg.2, hh.1, hh.2, hw, Option.bind_some, q_push_some, q_push_none, b01_eq0, b01_eq1, decide_eq_false_iff_not, decide_eq_true_eq, ite_not, b01_t, b01_f, one_ne0, zero_eq0, Bool.true_eq_false, Bool.false_eq_true, ite_true, ite_false, and_self, and_true, true_and, not_true_eq_false, not_false_eq_true]
    · have hh' : ¬ (0 ≤ hour ∧ hour < 24) := by omega
      refine Op.ro h hN (a := -1000000002) ?_ ?_
      · simp (disch := first | omega | exact b01_or _) only [b831_0, b831_8, b831_14, b831_18, b831_30, c_hasGirl h, c_isHour, hg.1, hg.2, hh', Option.bind_some, q_push_some, q_push_none, b01_eq0, b01_eq1, decide_eq_false_iff_not, decide_eq_true_eq, ite_not, b01_t, b01_f, one_ne0, zero_eq0, Bool.true_eq_false, Bool.false_eq_true, ite_true, ite_false, and_self, and_true, true_and, not_true_eq_false, not_false_eq_true]
      · simp (disch := first | omega | exact b01_or _) only [b964_0, b964_5, b964_11, b964_20, b964_33, m_isGirl h, m_in, hg.1, hg.2, hh, Option.bind_some, q_push_some, q_push_none, b01_eq0, b01_eq1, decide_eq_false_iff_not, decide_eq_true_eq, ite_not, b01_t, b01_f, one_ne0, zero_eq0, Bool.true_eq_false, Bool.false_eq_true, ite_true, ite_false, and_self, and_true, true_and, not_true_eq_false, not_false_eq_true]
  · refine Op.ro h hN (a := -1000000001) ?_ ?_
    · simp (disch := first | omega | exact b01_or _) only [b831_0, b831_8, b831_11, c_hasGirl h, hg, Option.bind_some, q_push_some, q_push_none, b01_eq0, b01_eq1, decide_eq_false_iff_not, decide_eq_true_eq, ite_not, b01_t, b01_f, one_ne0, zero_eq0, Bool.true_eq_false, Bool.false_eq_true, ite_true, ite_false, and_self, and_true, true_and, not_true_eq_false, not_false_eq_true]
    · simp (disch := first | omega | exact b01_or _) only [b964_0, b964_5, b964_8, m_isGirl h, hg, Option.bind_some, q_push_some, q_push_none, b01_eq0, b01_eq1, decide_eq_false_iff_not, decide_eq_true_eq, ite_not, b01_t, b01_f, one_ne0, zero_eq0, Bool.true_eq_false, Bool.false_eq_true, ite_true, ite_false, and_self, and_true, true_and, not_true_eq_false, not_false_eq_true]
/-- all that was seen is so of her -/
def p_seen (σ : SS) (g : Int) : Nat → Int → Bool
  | 0, _ => true
  | k + 1, i => decide (b01 (p_fit σ (p_fb σ g (σ 66 i.toNat) 0) (σ 53 0)) = σ 67 i.toNat) && p_seen σ g k (i + 1)
def p_could (σ : SS) (g : Nat) : Bool := p_seen σ g (σ 50 35).toNat 0
theorem c_seenL {g : Int} (h : RR σ N) (hg : 0 ≤ g ∧ g < σ 50 14) : ∀ (k : Nat) (i : Int), 0 ≤ i → i + k = σ 50 35 → ev 835 2 [qR 0, qI g, qI i] [] σ = some (some (qI (b01 (p_seen σ g k i))), σ)
  | 0, i, h0, hk => by
    have hb := h.b
    rw [b835_2, if_neg (by omega), b835_50]; rfl
  | k + 1, i, h0, hk => by
    have hb := h.b
    have hB := h.2.2.2.1.2.1 i.toNat (by omega)
    obtain ⟨e1, e2, r1, r2, -⟩ := hB
    rw [b835_2, if_pos (by omega), p_seen, b835_13 (by omega), e1, c_fitsBare h hg (by omega)]
    simp (disch := first | omega | exact b01_or _) only [Option.bind_some, q_push_some, q_push_none, b835_30, e2]
    by_cases hc : b01 (p_fit σ (p_fb σ g (σ 66 i.toNat) 0) (σ 53 0)) = σ 67 i.toNat
    · rw [if_pos hc, b835_44 (by omega), decide_eq_true hc, Bool.true_and]
      exact c_seenL h hg k (i + 1) (by omega) (by omega)
    · rw [if_neg hc, b835_42, decide_eq_false hc, Bool.false_and]; rfl
theorem c_seen {g : Int} (h : RR σ N) (hg : 0 ≤ g ∧ g < σ 50 14) : ev 835 0 [qR 0, qI g, qU] [] σ = some (some (qI (b01 (p_could σ g.toNat))), σ) := by
  have hb := h.b
  rw [b835_0, p_could, show ((g.toNat : Nat) : Int) = g by omega]
  exact c_seenL h hg _ 0 (by omega) (by omega)
theorem c_couldL (h : RR σ N) : ∀ (k : Nat) (g : Int), 0 ≤ g → g + k = σ 50 14 → ev 834 4 [qR 0, qI (bset (p_could σ) g.toNat : Nat), qI g] [] σ = some (some (qI (bset (p_could σ) (σ 50 14).toNat : Nat)), σ)
  | 0, g, h0, hk => by
    have ht := h.t
    have e : g = σ 50 14 := by omega
    rw [b834_4, if_neg (by omega), b834_35, e]
  | k + 1, g, h0, hk => by
    have ht := h.t
    rw [b834_4, if_pos (by omega), b834_15, c_seen h (by omega)]
    by_cases hc : p_could σ g.toNat = true
    · simp (disch := first | omega | exact b01_or _) only [Option.bind_some, q_push_some, q_push_none, hc, b834_20, b834_23, b834_29, b01_eq0, b01_eq1, decide_eq_false_iff_not, decide_eq_true_eq, ite_not, b01_t, b01_f, one_ne0, zero_eq0, Bool.true_eq_false, Bool.false_eq_true, ite_true, ite_false, and_self, and_true, true_and, not_true_eq_false, not_false_eq_true]
      rw [bsI_yes (by omega) hc]
      exact c_couldL h k (g + 1) (by omega) (by omega)
    · simp (disch := first | omega | exact b01_or _) only [Option.bind_some, q_push_some, q_push_none, hc, b834_20, b834_23, b834_29, b01_eq0, b01_eq1, decide_eq_false_iff_not, decide_eq_true_eq, ite_not, b01_t, b01_f, one_ne0, zero_eq0, Bool.true_eq_false, Bool.false_eq_true, ite_true, ite_false, and_self, and_true, true_and, not_true_eq_false, not_false_eq_true]
      rw [bsI_no h0 hc]
      exact c_couldL h k (g + 1) (by omega) (by omega)
theorem c_could (h : RR σ N) : ev 834 0 [qR 0, qU, qU] [] σ = some (some (qI (bset (p_could σ) (σ 50 14).toNat : Nat)), σ) := by
  have ht := h.t
  rw [b834_0]
  exact c_couldL h (σ 50 14).toNat 0 (by omega) (by omega)
theorem m_seenL {g m : Int} (h : RR σ N) (hg : 0 ≤ g ∧ g < σ 50 14) : ∀ (k : Nat) (i : Int) (s : Bool), 0 ≤ i → i + k = σ 50 35 → ev 966 17 [qR 50, qI m, qI g, qI (b01 s), qI i] [] σ = ev 966 75 [qR 50, qI m, qI g, qI (b01 (s && p_seen σ g k i)), qI (σ 50 35)] [] σ
  | 0, i, s, h0, hk => by
    have e : i = σ 50 35 := by omega
    rw [b966_17, if_neg (by omega), p_seen, Bool.and_true, e]
  | k + 1, i, s, h0, hk => by
    have hb := h.b
    have ht := h.t
    obtain ⟨e1, e2, r1, r2, -⟩ := h.2.2.2.1.2.1 i.toNat (by omega)
    have r3 := p_fb_rng (hour := σ 66 i.toNat) (pad := 0) h hg (by omega)
    rw [b966_17, if_pos (by omega), p_seen]
    cases s
    · simp (disch := first | omega | exact b01_or _) only [b966_26, b966_67, b966_68, b01_eq0, b01_eq1, decide_eq_false_iff_not, decide_eq_true_eq, ite_not, b01_t, b01_f, one_ne0, zero_eq0, Bool.true_eq_false, Bool.false_eq_true, ite_true, ite_false, and_self, and_true, true_and, not_true_eq_false, not_false_eq_true, Bool.false_and]
      have := m_seenL (m := m) h hg k (i + 1) false (by omega) (by omega)
      rw [Bool.false_and] at this
      exact this
    · simp (disch := first | omega | exact b01_or _) only [b966_26, b966_30, b966_44, b966_53, m_footBy h hg (hour := σ 66 i.toNat) (pad := 0) (by omega) (by omega), m_fits h (v := p_fb σ g (σ 66 i.toNat) 0) (gl := σ 53 0) (by omega) (by omega), Option.bind_some, q_push_some, q_push_none, b01_eq0, b01_eq1, decide_eq_false_iff_not, decide_eq_true_eq, ite_not, b01_t, b01_f, one_ne0, zero_eq0, Bool.true_eq_false, Bool.false_eq_true, ite_true, ite_false, and_self, and_true, true_and, not_true_eq_false, not_false_eq_true, Bool.true_and]
      by_cases hc : b01 (p_fit σ (p_fb σ g (σ 66 i.toNat) 0) (σ 53 0)) = σ 67 i.toNat
      · rw [if_pos hc, b966_63, b966_68 (by omega), decide_eq_true hc, Bool.true_and]
        have := m_seenL (m := m) h hg k (i + 1) true (by omega) (by omega)
        rw [Bool.true_and] at this
        exact this
      · rw [if_neg hc, b966_67, b966_68 (by omega), decide_eq_false hc, Bool.false_and]
        have := m_seenL (m := m) h hg k (i + 1) false (by omega) (by omega)
        rw [Bool.false_and] at this
        exact this
theorem m_couldL (h : RR σ N) : ∀ (k : Nat) (g : Int) (v w : AV), 0 ≤ g → g + k = σ 50 14 → ev 966 4 [qR 50, qI (bset (p_could σ) g.toNat : Nat), qI g, v, w] [] σ = some (some (qI (bset (p_could σ) (σ 50 14).toNat : Nat)), σ)
  | 0, g, v, w, h0, hk => by
    have e : g = σ 50 14 := by omega
    rw [b966_4, if_neg (by omega), b966_90, e]
  | k + 1, g, v, w, h0, hk => by
    have ht := h.t
    have hb := h.b
    rw [b966_4, if_pos (by omega), b966_12, show (1 : Int) = b01 true from rfl, m_seenL h (by omega) (σ 50 35).toNat 0 true (by omega) (by omega), Bool.true_and]
    simp (disch := first | omega | exact b01_or _) only [b966_75, b966_80, m_one, Option.bind_some, q_push_some, q_push_none]
    rw [bsI_one (by omega) (by rw [p_could, show ((g.toNat : Nat) : Int) = g by omega])]
    exact m_couldL h k (g + 1) _ _ (by omega) (by omega)
theorem m_could (h : RR σ N) : ev 966 0 [qR 50, qU, qU, qU, qU] [] σ = some (some (qI (bset (p_could σ) (σ 50 14).toNat : Nat)), σ) := by
  have ht := h.t
  rw [b966_0]
  exact m_couldL h (σ 50 14).toNat 0 _ _ (by omega) (by omega)
theorem op_could (h : RR σ N) (hN : N + 999 ≤ 100000) : Op 833 966 [qR 0] [qR 50, qU, qU, qU, qU] σ N := by
  refine Op.ro h hN (a := (bset (p_could σ) (σ 50 14).toNat : Nat)) ?_ (m_could h)
  simp (disch := first | omega | exact b01_or _) only [b833_0, b833_4, c_could h, Option.bind_some, q_push_some, q_push_none]
end O6
