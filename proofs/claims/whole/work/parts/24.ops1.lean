/-! ===== operations: told, girl, foot, pass, go, soak, pad, move, see, step, write, tear, seed ===== -/
section O1
variable {σ : SS} {N : Int}
theorem op_pass {n : Int} (h : RR σ N) (hN : N + 999 ≤ 100000) : Op 810 935 [qR 0, qI n] [qR 50, qI n] σ N := by
  have hn := h.n
  by_cases hc : 1 ≤ n ∧ n ≤ 999
  · have c1 : ¬ n < 1 := by omega
    have c2 : ¬ 999 < n := by omega
    have e1 : σ 21 3 = σ 51 21 := by omega
    refine ⟨σ 51 21 + n, q_put σ 21 3 (σ 51 21 + n), q_put σ 51 21 (σ 51 21 + n), ?_, ?_, ?_⟩
    · simp (disch := first | omega | exact b01_or _) only [b810_0, b810_5, b810_12, b810_15, c1, c2, e1, b01_eq0, b01_eq1, decide_eq_false_iff_not, decide_eq_true_eq, ite_not, b01_t, b01_f, one_ne0, zero_eq0, Bool.true_eq_false, Bool.false_eq_true, ite_true, ite_false, and_self, and_true, true_and, not_true_eq_false, not_false_eq_true]
    · simp (disch := first | omega | exact b01_or _) only [b935_0, b935_9, b935_12, b935_15, m_in, Option.bind_some, q_push_some, q_push_none, b01_eq0, b01_eq1, decide_eq_false_iff_not, decide_eq_true_eq, ite_not, b01_t, b01_f, one_ne0, zero_eq0, Bool.true_eq_false, Bool.false_eq_true, ite_true, ite_false, and_self, and_true, true_and, not_true_eq_false, not_false_eq_true, hc.1, hc.2, rw_eq]
    · refine h.night (by omega) hN (by intro k hk; (repeat rw [put_ne (by rintro rfl; revert hk; decide)])) (by intro k hk; (repeat rw [put_ne (by rintro rfl; revert hk; decide)])) ?_ ?_
      · intro j hj
        rw [rw_sl (by omega)]
      · refine RN_mk ?_ (fun g hg => ?_)
        · simp (disch := decide) only [mix_c, mix_m, rw_ne, rw_sl, rw_eq, true_and, and_true]
          omega
        · revert hg
          simp (disch := decide) only [mix_c, mix_m, rw_ne, rw_sl, rw_eq, true_and, and_true]
          intro hg
          have := h.ng hg
          have ht := h.t
          rw [rw_sl (show g ≠ 21 by omega), rw_sl (show 6 + g ≠ 21 by omega), rw_sl (show 12 + g ≠ 21 by omega)]
          omega
  · refine Op.ro h hN (a := -1000000002) ?_ ?_
    · by_cases c1 : n < 1
      · simp (disch := first | omega | exact b01_or _) only [b810_0, b810_5, b810_12, b810_15, c1, b01_eq0, b01_eq1, decide_eq_false_iff_not, decide_eq_true_eq, ite_not, b01_t, b01_f, one_ne0, zero_eq0, Bool.true_eq_false, Bool.false_eq_true, ite_true, ite_false, and_self, and_true, true_and, not_true_eq_false, not_false_eq_true]
      · have c2 : 999 < n := by omega
        simp (disch := first | omega | exact b01_or _) only [b810_0, b810_5, b810_12, b810_15, c1, c2, b01_eq0, b01_eq1, decide_eq_false_iff_not, decide_eq_true_eq, ite_not, b01_t, b01_f, one_ne0, zero_eq0, Bool.true_eq_false, Bool.false_eq_true, ite_true, ite_false, and_self, and_true, true_and, not_true_eq_false, not_false_eq_true]
    · simp (disch := first | omega | exact b01_or _) only [b935_0, b935_9, b935_12, b935_15, m_in, Option.bind_some, q_push_some, q_push_none, b01_eq0, b01_eq1, decide_eq_false_iff_not, decide_eq_true_eq, ite_not, b01_t, b01_f, one_ne0, zero_eq0, Bool.true_eq_false, Bool.false_eq_true, ite_true, ite_false, and_self, and_true, true_and, not_true_eq_false, not_false_eq_true, hc]
theorem op_foot {g hour : Int} (h : RR σ N) (hN : N + 999 ≤ 100000) : Op 809 934 [qR 0, qI g, qI hour] [qR 50, qI g, qI hour] σ N := by
  by_cases hg : 0 ≤ g ∧ g < σ 50 14
  · by_cases hh : 0 ≤ hour ∧ hour ≤ 99999
    · have c1 : ¬ hour < 0 := by omega
      have c2 : ¬ 99999 < hour := by omega
      refine Op.ro h hN (a := p_ft σ g hour) ?_ ?_
      · simp (disch := first | omega | exact b01_or _) only [b809_0, b809_8, b809_11, b809_14, b809_18, b809_24, b809_27, b809_36, c_hasGirl h, c_footThen h hg (hour := hour) (by omega), Option.bind_some, q_push_some, q_push_none, b01_eq0, b01_eq1, decide_eq_false_iff_not, decide_eq_true_eq, ite_not, b01_t, b01_f, one_ne0, zero_eq0, Bool.true_eq_false, Bool.false_eq_true, ite_true, ite_false, and_self, and_true, true_and, not_true_eq_false, not_false_eq_true, hg.1, hg.2, c1, c2]
      · simp (disch := first | omega | exact b01_or _) only [b934_0, b934_5, b934_8, b934_13, b934_22, b934_25, b934_31, b934_34, b934_36, m_isGirl h, m_footAt h hg (hour := hour) (by omega), m_in, Option.bind_some, q_push_some, q_push_none, b01_eq0, b01_eq1, decide_eq_false_iff_not, decide_eq_true_eq, ite_not, b01_t, b01_f, one_ne0, zero_eq0, Bool.true_eq_false, Bool.false_eq_true, ite_true, ite_false, and_self, and_true, true_and, not_true_eq_false, not_false_eq_true, hg.1, hg.2, hh.1, hh.2]
    · refine Op.ro h hN (a := -1000000002) ?_ ?_
      · by_cases c1 : hour < 0
        · simp (disch := first | omega | exact b01_or _) only [b809_0, b809_8, b809_11, b809_14, b809_18, b809_24, b809_27, b809_36, c_hasGirl h, Option.bind_some, q_push_some, q_push_none, b01_eq0, b01_eq1, decide_eq_false_iff_not, decide_eq_true_eq, ite_not, b01_t, b01_f, one_ne0, zero_eq0, Bool.true_eq_false, Bool.false_eq_true, ite_true, ite_false, and_self, and_true, true_and, not_true_eq_false, not_false_eq_true, hg.1, hg.2, c1]
        · have c2 : 99999 < hour := by omega
          simp (disch := first | omega | exact b01_or _) only [b809_0, b809_8, b809_11, b809_14, b809_18, b809_24, b809_27, b809_36, c_hasGirl h, Option.bind_some, q_push_some, q_push_none, b01_eq0, b01_eq1, decide_eq_false_iff_not, decide_eq_true_eq, ite_not, b01_t, b01_f, one_ne0, zero_eq0, Bool.true_eq_false, Bool.false_eq_true, ite_true, ite_false, and_self, and_true, true_and, not_true_eq_false, not_false_eq_true, hg.1, hg.2, c1, c2]
      · simp (disch := first | omega | exact b01_or _) only [b934_0, b934_5, b934_8, b934_13, b934_22, b934_25, b934_31, b934_34, b934_36, m_isGirl h, m_in, Option.bind_some, q_push_some, q_push_none, b01_eq0, b01_eq1, decide_eq_false_iff_not, decide_eq_true_eq, ite_not, b01_t, b01_f, one_ne0, zero_eq0, Bool.true_eq_false, Bool.false_eq_true, ite_true, ite_false, and_self, and_true, true_and, not_true_eq_false, not_false_eq_true, hg.1, hg.2, hh]
  · refine Op.ro h hN (a := -1000000001) ?_ ?_
    · simp (disch := first | omega | exact b01_or _) only [b809_0, b809_8, b809_11, b809_14, b809_18, b809_24, b809_27, b809_36, c_hasGirl h, Option.bind_some, q_push_some, q_push_none, b01_eq0, b01_eq1, decide_eq_false_iff_not, decide_eq_true_eq, ite_not, b01_t, b01_f, one_ne0, zero_eq0, Bool.true_eq_false, Bool.false_eq_true, ite_true, ite_false, and_self, and_true, true_and, not_true_eq_false, not_false_eq_true, hg]
    · simp (disch := first | omega | exact b01_or _) only [b934_0, b934_5, b934_8, b934_13, b934_22, b934_25, b934_31, b934_34, b934_36, m_isGirl h, Option.bind_some, q_push_some, q_push_none, b01_eq0, b01_eq1, decide_eq_false_iff_not, decide_eq_true_eq, ite_not, b01_t, b01_f, one_ne0, zero_eq0, Bool.true_eq_false, Bool.false_eq_true, ite_true, ite_false, and_self, and_true, true_and, not_true_eq_false, not_false_eq_true, hg]
theorem op_soak {g : Int} (h : RR σ N) (hN : N + 999 ≤ 100000) : Op 814 938 [qR 0, qI g, qU] [qR 50, qI g, qU] σ N := by
  have hn := h.n
  have ht := h.t
  by_cases hg : 0 ≤ g ∧ g < σ 50 14
  · have hG := h.g hg.1 hg.2
    have e1 : σ 21 3 = σ 51 21 := by omega
    refine ⟨b01 (p_soak σ g (σ 51 21)), q_put σ 24 g.toNat (σ 51 21), q_put σ 51 (12 + g).toNat (σ 51 21), ?_, ?_, ?_⟩
    · simp (disch := first | omega | exact b01_or _) only [b814_0, b814_8, b814_11, b814_14, b814_29, b814_32, b814_36, b814_37, c_hasGirl h, e1, c_isWet h hg (hour := σ 51 21) (by omega), Option.bind_some, q_push_some, q_push_none, b01_eq0, b01_eq1, decide_eq_false_iff_not, decide_eq_true_eq, ite_not, b01_t, b01_f, one_ne0, zero_eq0, Bool.true_eq_false, Bool.false_eq_true, ite_true, ite_false, and_self, and_true, true_and, not_true_eq_false, not_false_eq_true, hg.1, hg.2]
      cases p_soak σ g (σ 51 21) <;> simp (disch := first | omega | exact b01_or _) only [b814_0, b814_8, b814_11, b814_14, b814_29, b814_32, b814_36, b814_37, e1, b01_eq0, b01_eq1, decide_eq_false_iff_not, decide_eq_true_eq, ite_not, b01_t, b01_f, one_ne0, zero_eq0, Bool.true_eq_false, Bool.false_eq_true, ite_true, ite_false, and_self, and_true, true_and, not_true_eq_false, not_false_eq_true]
    · simp (disch := first | omega | exact b01_or _) only [b938_0, b938_5, b938_8, b938_11, b938_23, b938_26, m_isGirl h, m_isSoaked h hg (hour := σ 51 21), m_one, Option.bind_some, q_push_some, q_push_none, b01_eq0, b01_eq1, decide_eq_false_iff_not, decide_eq_true_eq, ite_not, b01_t, b01_f, one_ne0, zero_eq0, Bool.true_eq_false, Bool.false_eq_true, ite_true, ite_false, and_self, and_true, true_and, not_true_eq_false, not_false_eq_true, hg.1, hg.2]
    · refine h.night (by omega) hN (by intro k hk; (repeat rw [put_ne (by rintro rfl; revert hk; decide)])) (by intro k hk; (repeat rw [put_ne (by rintro rfl; revert hk; decide)])) ?_ ?_
      · intro j hj
        rw [rw_sl (by omega)]
      · have e12 : (12 + g).toNat = 12 + g.toNat := by omega
        rw [e12]
        refine RN_mk ?_ (fun x hx => ?_)
        · simp (disch := decide) only [mix_c, mix_m, rw_ne, rw_sl, rw_eq, true_and, and_true]
          rw [rw_sl (show 21 ≠ 12 + g.toNat by omega), rw_sl (show 22 ≠ 12 + g.toNat by omega), rw_sl (show 18 ≠ 12 + g.toNat by omega), rw_sl (show 19 ≠ 12 + g.toNat by omega), rw_sl (show 20 ≠ 12 + g.toNat by omega), rw_sl (show 23 ≠ 12 + g.toNat by omega)]
          omega
        · revert hx
          simp (disch := decide) only [mix_c, mix_m, rw_ne, rw_sl, rw_eq, true_and, and_true]
          intro hx
          have := h.ng hx
          rw [rw_sl (show x ≠ 12 + g.toNat by omega), rw_sl (show 6 + x ≠ 12 + g.toNat by omega), rw_sl (show 21 ≠ 12 + g.toNat by omega)]
          by_cases hxg : x = g.toNat
          · subst hxg
            rw [rw_eq, rw_eq]
            omega
          · rw [rw_sl hxg, rw_sl (show 12 + x ≠ 12 + g.toNat by omega)]
            omega
  · refine Op.ro h hN (a := -1000000001) ?_ ?_
    · simp (disch := first | omega | exact b01_or _) only [b814_0, b814_8, b814_11, b814_14, b814_29, b814_32, b814_36, b814_37, c_hasGirl h, Option.bind_some, q_push_some, q_push_none, b01_eq0, b01_eq1, decide_eq_false_iff_not, decide_eq_true_eq, ite_not, b01_t, b01_f, one_ne0, zero_eq0, Bool.true_eq_false, Bool.false_eq_true, ite_true, ite_false, and_self, and_true, true_and, not_true_eq_false, not_false_eq_true, hg]
    · simp (disch := first | omega | exact b01_or _) only [b938_0, b938_5, b938_8, b938_11, b938_23, b938_26, m_isGirl h, Option.bind_some, q_push_some, q_push_none, b01_eq0, b01_eq1, decide_eq_false_iff_not, decide_eq_true_eq, ite_not, b01_t, b01_f, one_ne0, zero_eq0, Bool.true_eq_false, Bool.false_eq_true, ite_true, ite_false, and_self, and_true, true_and, not_true_eq_false, not_false_eq_true, hg]
theorem op_pad {g n : Int} (h : RR σ N) (hN : N + 999 ≤ 100000) : Op 815 939 [qR 0, qI g, qI n, qU] [qR 50, qI g, qI n, qU] σ N := by
  have hn := h.n
  have ht := h.t
  by_cases hg : 0 ≤ g ∧ g < σ 50 14
  · have hG := h.g hg.1 hg.2
    by_cases hc : 0 ≤ n ∧ n ≤ 5
    · have c1 : ¬ n < 0 := by omega
      have c2 : ¬ 5 < n := by omega
      have e1 : σ 23 g.toNat = σ 51 (6 + g).toNat := by omega
      refine ⟨σ 51 (6 + g).toNat, q_put σ 23 g.toNat n, q_put σ 51 (6 + g).toNat n, ?_, ?_, ?_⟩
      · simp (disch := first | omega | exact b01_or _) only [b815_0, b815_8, b815_11, b815_14, b815_18, b815_23, b815_26, c_hasGirl h, e1, Option.bind_some, q_push_some, q_push_none, b01_eq0, b01_eq1, decide_eq_false_iff_not, decide_eq_true_eq, ite_not, b01_t, b01_f, one_ne0, zero_eq0, Bool.true_eq_false, Bool.false_eq_true, ite_true, ite_false, and_self, and_true, true_and, not_true_eq_false, not_false_eq_true, hg.1, hg.2, c1, c2]
      · simp (disch := first | omega | exact b01_or _) only [b939_0, b939_5, b939_8, b939_11, b939_20, b939_23, b939_26, m_isGirl h, m_in, Option.bind_some, q_push_some, q_push_none, b01_eq0, b01_eq1, decide_eq_false_iff_not, decide_eq_true_eq, ite_not, b01_t, b01_f, one_ne0, zero_eq0, Bool.true_eq_false, Bool.false_eq_true, ite_true, ite_false, and_self, and_true, true_and, not_true_eq_false, not_false_eq_true, hg.1, hg.2, hc.1, hc.2]
      · refine h.night (by omega) hN (by intro k hk; (repeat rw [put_ne (by rintro rfl; revert hk; decide)])) (by intro k hk; (repeat rw [put_ne (by rintro rfl; revert hk; decide)])) ?_ ?_
        · intro j hj
          rw [rw_sl (by omega)]
        · have e6 : (6 + g).toNat = 6 + g.toNat := by omega
          rw [e6]
          refine RN_mk ?_ (fun x hx => ?_)
          · simp (disch := decide) only [mix_c, mix_m, rw_ne, rw_sl, rw_eq, true_and, and_true]
            rw [rw_sl (show 21 ≠ 6 + g.toNat by omega), rw_sl (show 22 ≠ 6 + g.toNat by omega), rw_sl (show 18 ≠ 6 + g.toNat by omega), rw_sl (show 19 ≠ 6 + g.toNat by omega), rw_sl (show 20 ≠ 6 + g.toNat by omega), rw_sl (show 23 ≠ 6 + g.toNat by omega)]
            omega
          · revert hx
            simp (disch := decide) only [mix_c, mix_m, rw_ne, rw_sl, rw_eq, true_and, and_true]
            intro hx
            have := h.ng hx
            rw [rw_sl (show x ≠ 6 + g.toNat by omega), rw_sl (show 12 + x ≠ 6 + g.toNat by omega), rw_sl (show 21 ≠ 6 + g.toNat by omega)]
            by_cases hxg : x = g.toNat
            · subst hxg
              rw [rw_eq, rw_eq]
              omega
            · rw [rw_sl hxg, rw_sl (show 6 + x ≠ 6 + g.toNat by omega)]
              omega
    · refine Op.ro h hN (a := -1000000002) ?_ ?_
      · by_cases c1 : n < 0
        · simp (disch := first | omega | exact b01_or _) only [b815_0, b815_8, b815_11, b815_14, b815_18, b815_23, b815_26, c_hasGirl h, Option.bind_some, q_push_some, q_push_none, b01_eq0, b01_eq1, decide_eq_false_iff_not, decide_eq_true_eq, ite_not, b01_t, b01_f, one_ne0, zero_eq0, Bool.true_eq_false, Bool.false_eq_true, ite_true, ite_false, and_self, and_true, true_and, not_true_eq_false, not_false_eq_true, hg.1, hg.2, c1]
        · have c2 : 5 < n := by omega
          simp (disch := first | omega | exact b01_or _) only [b815_0, b815_8, b815_11, b815_14, b815_18, b815_23, b815_26, c_hasGirl h, Option.bind_some, q_push_some, q_push_none, b01_eq0, b01_eq1, decide_eq_false_iff_not, decide_eq_true_eq, ite_not, b01_t, b01_f, one_ne0, zero_eq0, Bool.true_eq_false, Bool.false_eq_true, ite_true, ite_false, and_self, and_true, true_and, not_true_eq_false, not_false_eq_true, hg.1, hg.2, c1, c2]
      · simp (disch := first | omega | exact b01_or _) only [b939_0, b939_5, b939_8, b939_11, b939_20, b939_23, b939_26, m_isGirl h, m_in, Option.bind_some, q_push_some, q_push_none, b01_eq0, b01_eq1, decide_eq_false_iff_not, decide_eq_true_eq, ite_not, b01_t, b01_f, one_ne0, zero_eq0, Bool.true_eq_false, Bool.false_eq_true, ite_true, ite_false, and_self, and_true, true_and, not_true_eq_false, not_false_eq_true, hg.1, hg.2, hc]
  · refine Op.ro h hN (a := -1000000001) ?_ ?_
    · simp (disch := first | omega | exact b01_or _) only [b815_0, b815_8, b815_11, b815_14, b815_18, b815_23, b815_26, c_hasGirl h, Option.bind_some, q_push_some, q_push_none, b01_eq0, b01_eq1, decide_eq_false_iff_not, decide_eq_true_eq, ite_not, b01_t, b01_f, one_ne0, zero_eq0, Bool.true_eq_false, Bool.false_eq_true, ite_true, ite_false, and_self, and_true, true_and, not_true_eq_false, not_false_eq_true, hg]
    · simp (disch := first | omega | exact b01_or _) only [b939_0, b939_5, b939_8, b939_11, b939_20, b939_23, b939_26, m_isGirl h, Option.bind_some, q_push_some, q_push_none, b01_eq0, b01_eq1, decide_eq_false_iff_not, decide_eq_true_eq, ite_not, b01_t, b01_f, one_ne0, zero_eq0, Bool.true_eq_false, Bool.false_eq_true, ite_true, ite_false, and_self, and_true, true_and, not_true_eq_false, not_false_eq_true, hg]
theorem op_move {g x : Int} (h : RR σ N) (hN : N + 999 ≤ 100000) : Op 816 940 [qR 0, qI g, qI x, qU] [qR 50, qI g, qI x, qU] σ N := by
  have hn := h.n
  have ht := h.t
  by_cases hg : 0 ≤ g ∧ g < σ 50 14
  · have hG := h.g hg.1 hg.2
    by_cases hc : 0 ≤ x ∧ x < σ 50 13
    · have e1 : σ 22 g.toNat = σ 51 g.toNat := by omega
      refine ⟨σ 51 g.toNat, q_put σ 22 g.toNat x, q_put σ 51 g.toNat x, ?_, ?_, ?_⟩
      · simp (disch := first | omega | exact b01_or _) only [b816_0, b816_8, b816_11, b816_19, b816_22, b816_25, c_hasGirl h, c_hasHouse h, e1, Option.bind_some, q_push_some, q_push_none, b01_eq0, b01_eq1, decide_eq_false_iff_not, decide_eq_true_eq, ite_not, b01_t, b01_f, one_ne0, zero_eq0, Bool.true_eq_false, Bool.false_eq_true, ite_true, ite_false, and_self, and_true, true_and, not_true_eq_false, not_false_eq_true, hg.1, hg.2, hc.1, hc.2]
      · simp (disch := first | omega | exact b01_or _) only [b940_0, b940_5, b940_8, b940_13, b940_16, b940_19, m_isGirl h, m_isHouse h, Option.bind_some, q_push_some, q_push_none, b01_eq0, b01_eq1, decide_eq_false_iff_not, decide_eq_true_eq, ite_not, b01_t, b01_f, one_ne0, zero_eq0, Bool.true_eq_false, Bool.false_eq_true, ite_true, ite_false, and_self, and_true, true_and, not_true_eq_false, not_false_eq_true, hg.1, hg.2, hc.1, hc.2]
      · refine h.night (by omega) hN (by intro k hk; (repeat rw [put_ne (by rintro rfl; revert hk; decide)])) (by intro k hk; (repeat rw [put_ne (by rintro rfl; revert hk; decide)])) ?_ ?_
        · intro j hj
          rw [rw_sl (by omega)]
        · refine RN_mk ?_ (fun y hx => ?_)
          · simp (disch := decide) only [mix_c, mix_m, rw_ne, rw_sl, rw_eq, true_and, and_true]
            rw [rw_sl (show 21 ≠ g.toNat by omega), rw_sl (show 22 ≠ g.toNat by omega), rw_sl (show 18 ≠ g.toNat by omega), rw_sl (show 19 ≠ g.toNat by omega), rw_sl (show 20 ≠ g.toNat by omega), rw_sl (show 23 ≠ g.toNat by omega)]
            omega
          · revert hx
            simp (disch := decide) only [mix_c, mix_m, rw_ne, rw_sl, rw_eq, true_and, and_true]
            intro hx
            have := h.ng hx
            rw [rw_sl (show 6 + y ≠ g.toNat by omega), rw_sl (show 12 + y ≠ g.toNat by omega), rw_sl (show 21 ≠ g.toNat by omega)]
            by_cases hxg : y = g.toNat
            · subst hxg
              rw [rw_eq, rw_eq]
              omega
            · rw [rw_sl hxg, rw_sl hxg]
              omega
    · refine Op.ro h hN (a := -1000000001) ?_ ?_
      · simp (disch := first | omega | exact b01_or _) only [b816_0, b816_8, b816_11, b816_19, b816_22, b816_25, c_hasGirl h, c_hasHouse h, Option.bind_some, q_push_some, q_push_none, b01_eq0, b01_eq1, decide_eq_false_iff_not, decide_eq_true_eq, ite_not, b01_t, b01_f, one_ne0, zero_eq0, Bool.true_eq_false, Bool.false_eq_true, ite_true, ite_false, and_self, and_true, true_and, not_true_eq_false, not_false_eq_true, hg.1, hg.2, hc]
      · simp (disch := first | omega | exact b01_or _) only [b940_0, b940_5, b940_8, b940_13, b940_16, b940_19, m_isGirl h, m_isHouse h, Option.bind_some, q_push_some, q_push_none, b01_eq0, b01_eq1, decide_eq_false_iff_not, decide_eq_true_eq, ite_not, b01_t, b01_f, one_ne0, zero_eq0, Bool.true_eq_false, Bool.false_eq_true, ite_true, ite_false, and_self, and_true, true_and, not_true_eq_false, not_false_eq_true, hg.1, hg.2, hc]
  · refine Op.ro h hN (a := -1000000001) ?_ ?_
    · simp (disch := first | omega | exact b01_or _) only [b816_0, b816_8, b816_11, b816_19, b816_22, b816_25, c_hasGirl h, Option.bind_some, q_push_some, q_push_none, b01_eq0, b01_eq1, decide_eq_false_iff_not, decide_eq_true_eq, ite_not, b01_t, b01_f, one_ne0, zero_eq0, Bool.true_eq_false, Bool.false_eq_true, ite_true, ite_false, and_self, and_true, true_and, not_true_eq_false, not_false_eq_true, hg]
    · simp (disch := first | omega | exact b01_or _) only [b940_0, b940_5, b940_8, b940_13, b940_16, b940_19, m_isGirl h, Option.bind_some, q_push_some, q_push_none, b01_eq0, b01_eq1, decide_eq_false_iff_not, decide_eq_true_eq, ite_not, b01_t, b01_f, one_ne0, zero_eq0, Bool.true_eq_false, Bool.false_eq_true, ite_true, ite_false, and_self, and_true, true_and, not_true_eq_false, not_false_eq_true, hg]
theorem op_seed {v : Int} (h : RR σ N) (hN : N + 999 ≤ 100000) (hv : v ≤ 2147483647) : Op 845 974 [qR 0, qI v, qU] [qR 50, qI v, qU] σ N := by
  have hn := h.n
  have ht := h.t
  by_cases hc : v < 0
  · refine Op.ro h hN (a := -1000000002) ?_ ?_
    · simp (disch := first | omega | exact b01_or _) only [b845_0, b845_4, b845_7, hc, b01_eq0, b01_eq1, decide_eq_false_iff_not, decide_eq_true_eq, ite_not, b01_t, b01_f, one_ne0, zero_eq0, Bool.true_eq_false, Bool.false_eq_true, ite_true, ite_false, and_self, and_true, true_and, not_true_eq_false, not_false_eq_true]
    · simp (disch := first | omega | exact b01_or _) only [b974_0, b974_4, b974_7, hc, b01_eq0, b01_eq1, decide_eq_false_iff_not, decide_eq_true_eq, ite_not, b01_t, b01_f, one_ne0, zero_eq0, Bool.true_eq_false, Bool.false_eq_true, ite_true, ite_false, and_self, and_true, true_and, not_true_eq_false, not_false_eq_true]
  · have e1 : σ 21 8 = σ 51 23 := by omega
    refine ⟨σ 51 23, q_put σ 21 8 v, q_put σ 51 23 v, ?_, ?_, ?_⟩
    · simp (disch := first | omega | exact b01_or _) only [b845_0, b845_4, b845_7, e1, hc, b01_eq0, b01_eq1, decide_eq_false_iff_not, decide_eq_true_eq, ite_not, b01_t, b01_f, one_ne0, zero_eq0, Bool.true_eq_false, Bool.false_eq_true, ite_true, ite_false, and_self, and_true, true_and, not_true_eq_false, not_false_eq_true]
    · simp (disch := first | omega | exact b01_or _) only [b974_0, b974_4, b974_7, hc, b01_eq0, b01_eq1, decide_eq_false_iff_not, decide_eq_true_eq, ite_not, b01_t, b01_f, one_ne0, zero_eq0, Bool.true_eq_false, Bool.false_eq_true, ite_true, ite_false, and_self, and_true, true_and, not_true_eq_false, not_false_eq_true]
    · refine h.night (by omega) hN (by intro k hk; (repeat rw [put_ne (by rintro rfl; revert hk; decide)])) (by intro k hk; (repeat rw [put_ne (by rintro rfl; revert hk; decide)])) ?_ ?_
      · intro j hj
        rw [rw_sl (by omega)]
      · refine RN_mk ?_ (fun g hg => ?_)
        · simp (disch := decide) only [mix_c, mix_m, rw_ne, rw_sl, rw_eq, true_and, and_true]
          omega
        · revert hg
          simp (disch := decide) only [mix_c, mix_m, rw_ne, rw_sl, rw_eq, true_and, and_true]
          intro hg
          have := h.ng hg
          rw [rw_sl (show g ≠ 23 by omega), rw_sl (show 6 + g ≠ 23 by omega), rw_sl (show 12 + g ≠ 23 by omega)]
          omega
theorem op_tear (h : RR σ N) (hN : N + 999 ≤ 100000) : Op 843 972 [qR 0, qU] [qR 50, qU] σ N := by
  have hb := h.b
  have e1 : σ 35 2 = σ 50 35 := by omega
  have e2 : σ 35 4 = σ 50 37 := by omega
  have e3 : σ 35 8 = σ 50 41 := by omega
  refine ⟨σ 50 35 + σ 50 37 + σ 50 41, q_put (q_put (q_put σ 35 2 0) 35 4 0) 35 8 0, q_put (q_put (q_put σ 50 35 0) 50 37 0) 50 41 0, ?_, ?_, ?_⟩
  · simp (disch := first | omega | exact b01_or _) only [b843_0, b843_31, b400_0, e1, e2, e3, Option.bind_some, q_push_some, q_push_none]
  · simp (disch := first | omega | exact b01_or _) only [b972_0]
  · refine h.book (by omega) hN (by intro k hk; (repeat rw [put_ne (by rintro rfl; revert hk; decide)])) (by intro k hk; (repeat rw [put_ne (by rintro rfl; revert hk; decide)])) ?_ ?_
    · intro j hj
      rw [rw_sl (by rintro rfl; revert hj; decide), rw_sl (by rintro rfl; revert hj; decide), rw_sl (by rintro rfl; revert hj; decide)]
    · unfold R_B
      simp (disch := decide) only [mix_c, mix_m, rw_ne, rw_sl, rw_eq, true_and, and_true]
      exact ⟨by omega, fun i hi => by omega, fun i hi => by omega, fun i hi => by omega⟩
theorem op_step {l : Int} (h : RR σ N) (hN : N + 999 ≤ 100000) : Op 838 968 [qR 0, qI l] [qR 50, qI l] σ N := by
  have hb := h.b
  by_cases hc : 0 ≤ l ∧ l ≤ 2
  · have c1 : ¬ l < 0 := by omega
    have c2 : ¬ 2 < l := by omega
    have e2 : σ 35 4 = σ 50 37 := by omega
    by_cases hf : σ 50 37 = 12
    · refine Op.ro h hN (a := -1000000004) ?_ ?_
      · have h1 : ¬ σ 50 37 < 12 := by omega
        simp (disch := first | omega | exact b01_or _) only [b838_0, b838_4, b838_9, b838_12, b838_24, b838_27, c1, c2, e2, h1, b01_eq0, b01_eq1, decide_eq_false_iff_not, decide_eq_true_eq, ite_not, b01_t, b01_f, one_ne0, zero_eq0, Bool.true_eq_false, Bool.false_eq_true, ite_true, ite_false, and_self, and_true, true_and, not_true_eq_false, not_false_eq_true]
      · simp (disch := first | omega | exact b01_or _) only [b968_0, b968_9, b968_12, b968_15, b968_24, b968_27, m_in, Option.bind_some, q_push_some, q_push_none, b01_eq0, b01_eq1, decide_eq_false_iff_not, decide_eq_true_eq, ite_not, b01_t, b01_f, one_ne0, zero_eq0, Bool.true_eq_false, Bool.false_eq_true, ite_true, ite_false, and_self, and_true, true_and, not_true_eq_false, not_false_eq_true, hc.1, hc.2, hf]
    · have h1 : σ 50 37 < 12 := by omega
      refine ⟨σ 50 37 + 1, q_put (q_put σ 38 (σ 50 37).toNat l) 35 4 (σ 50 37 + 1), q_put (q_put σ 68 (σ 50 37).toNat l) 50 37 (σ 50 37 + 1), ?_, ?_, ?_⟩
      · simp (disch := first | omega | exact b01_or _) only [b838_0, b838_4, b838_9, b838_12, b838_24, b838_27, c1, c2, e2, h1, b01_eq0, b01_eq1, decide_eq_false_iff_not, decide_eq_true_eq, ite_not, b01_t, b01_f, one_ne0, zero_eq0, Bool.true_eq_false, Bool.false_eq_true, ite_true, ite_false, and_self, and_true, true_and, not_true_eq_false, not_false_eq_true]
      · simp (disch := first | omega | exact b01_or _) only [b968_0, b968_9, b968_12, b968_15, b968_24, b968_27, m_in, Option.bind_some, q_push_some, q_push_none, b01_eq0, b01_eq1, decide_eq_false_iff_not, decide_eq_true_eq, ite_not, b01_t, b01_f, one_ne0, zero_eq0, Bool.true_eq_false, Bool.false_eq_true, ite_true, ite_false, and_self, and_true, true_and, not_true_eq_false, not_false_eq_true, hc.1, hc.2, hf]
      · refine h.book (by omega) hN (by intro k hk; (repeat rw [put_ne (by rintro rfl; revert hk; decide)])) (by intro k hk; (repeat rw [put_ne (by rintro rfl; revert hk; decide)])) ?_ ?_
        · intro j hj
          rw [rw_sl (by rintro rfl; revert hj; decide), put_ne (by decide)]
        · obtain ⟨-, b1, b2, b3⟩ := h.2.2.2.1
          unfold R_B
          simp (disch := decide) only [mix_c, mix_m, rw_ne, rw_sl, rw_eq, true_and, and_true]
          refine ⟨by omega, b1, fun i hi => ?_, b3⟩
          by_cases hi2 : i = (σ 50 37).toNat
          · subst hi2
            rw [rw_eq, rw_eq]
            omega
          · rw [rw_sl hi2, rw_sl hi2]
            exact b2 i (by omega)
  · refine Op.ro h hN (a := -1000000002) ?_ ?_
    · by_cases c1 : l < 0
      · simp (disch := first | omega | exact b01_or _) only [b838_0, b838_4, b838_9, b838_12, b838_24, b838_27, c1, b01_eq0, b01_eq1, decide_eq_false_iff_not, decide_eq_true_eq, ite_not, b01_t, b01_f, one_ne0, zero_eq0, Bool.true_eq_false, Bool.false_eq_true, ite_true, ite_false, and_self, and_true, true_and, not_true_eq_false, not_false_eq_true]
      · have c2 : 2 < l := by omega
        simp (disch := first | omega | exact b01_or _) only [b838_0, b838_4, b838_9, b838_12, b838_24, b838_27, c1, c2, b01_eq0, b01_eq1, decide_eq_false_iff_not, decide_eq_true_eq, ite_not, b01_t, b01_f, one_ne0, zero_eq0, Bool.true_eq_false, Bool.false_eq_true, ite_true, ite_false, and_self, and_true, true_and, not_true_eq_false, not_false_eq_true]
    · simp (disch := first | omega | exact b01_or _) only [b968_0, b968_9, b968_12, b968_15, b968_24, b968_27, m_in, Option.bind_some, q_push_some, q_push_none, b01_eq0, b01_eq1, decide_eq_false_iff_not, decide_eq_true_eq, ite_not, b01_t, b01_f, one_ne0, zero_eq0, Bool.true_eq_false, Bool.false_eq_true, ite_true, ite_false, and_self, and_true, true_and, not_true_eq_false, not_false_eq_true, hc]
theorem op_see {hour f : Int} (h : RR σ N) (hN : N + 999 ≤ 100000) (hf01 : f = 0 ∨ f = 1) : Op 832 965 [qR 0, qI hour, qI f] [qR 50, qI hour, qI f] σ N := by
  have hb := h.b
  by_cases hc : 0 ≤ hour ∧ hour < 24
  · have hc2 : 0 ≤ hour ∧ hour ≤ 23 := by omega
    have e2 : σ 35 2 = σ 50 35 := by omega
    by_cases hf : σ 50 35 = 20
    · refine Op.ro h hN (a := -1000000004) ?_ ?_
      · have h1 : ¬ σ 50 35 < 20 := by omega
        simp (disch := first | omega | exact b01_or _) only [b832_0, b832_4, b832_7, b832_10, b832_22, b832_25, c_isHour, Option.bind_some, q_push_some, q_push_none, hc.1, hc.2, e2, h1, b01_eq0, b01_eq1, decide_eq_false_iff_not, decide_eq_true_eq, ite_not, b01_t, b01_f, one_ne0, zero_eq0, Bool.true_eq_false, Bool.false_eq_true, ite_true, ite_false, and_self, and_true, true_and, not_true_eq_false, not_false_eq_true]
      · simp (disch := first | omega | exact b01_or _) only [b965_0, b965_9, b965_12, b965_15, b965_24, b965_27, m_in, Option.bind_some, q_push_some, q_push_none, b01_eq0, b01_eq1, decide_eq_false_iff_not, decide_eq_true_eq, ite_not, b01_t, b01_f, one_ne0, zero_eq0, Bool.true_eq_false, Bool.false_eq_true, ite_true, ite_false, and_self, and_true, true_and, not_true_eq_false, not_false_eq_true, hc2.1, hc2.2, hf]
    · have h1 : σ 50 35 < 20 := by omega
      refine ⟨σ 50 35 + 1, q_put (q_put (q_put σ 36 (σ 50 35).toNat hour) 37 (σ 50 35).toNat f) 35 2 (σ 50 35 + 1), q_put (q_put (q_put σ 66 (σ 50 35).toNat hour) 67 (σ 50 35).toNat f) 50 35 (σ 50 35 + 1), ?_, ?_, ?_⟩
      · simp (disch := first | omega | exact b01_or _) only [b832_0, b832_4, b832_7, b832_10, b832_22, b832_25, c_isHour, Option.bind_some, q_push_some, q_push_none, hc.1, hc.2, e2, h1, b01_eq0, b01_eq1, decide_eq_false_iff_not, decide_eq_true_eq, ite_not, b01_t, b01_f, one_ne0, zero_eq0, Bool.true_eq_false, Bool.false_eq_true, ite_true, ite_false, and_self, and_true, true_and, not_true_eq_false, not_false_eq_true]
      · simp (disch := first | omega | exact b01_or _) only [b965_0, b965_9, b965_12, b965_15, b965_24, b965_27, m_in, Option.bind_some, q_push_some, q_push_none, b01_eq0, b01_eq1, decide_eq_false_iff_not, decide_eq_true_eq, ite_not, b01_t, b01_f, one_ne0, zero_eq0, Bool.true_eq_false, Bool.false_eq_true, ite_true, ite_false, and_self, and_true, true_and, not_true_eq_false, not_false_eq_true, hc2.1, hc2.2, hf]
      · refine h.book (by omega) hN (by intro k hk; (repeat rw [put_ne (by rintro rfl; revert hk; decide)])) (by intro k hk; (repeat rw [put_ne (by rintro rfl; revert hk; decide)])) ?_ ?_
        · intro j hj
          rw [rw_sl (by rintro rfl; revert hj; decide), put_ne (by decide), put_ne (by decide)]
        · obtain ⟨-, b1, b2, b3⟩ := h.2.2.2.1
          unfold R_B
          simp (disch := decide) only [mix_c, mix_m, rw_ne, rw_sl, rw_eq, true_and, and_true]
          refine ⟨by omega, fun i hi => ?_, b2, b3⟩
          by_cases hi2 : i = (σ 50 35).toNat
          · subst hi2
            rw [rw_eq, rw_eq, rw_eq, rw_eq]
            omega
          · rw [rw_sl hi2, rw_sl hi2, rw_sl hi2, rw_sl hi2]
            exact b1 i (by omega)
  · have hc2 : ¬ (0 ≤ hour ∧ hour ≤ 23) := by omega
    refine Op.ro h hN (a := -1000000002) ?_ ?_
    · simp (disch := first | omega | exact b01_or _) only [b832_0, b832_4, b832_7, b832_10, b832_22, b832_25, c_isHour, Option.bind_some, q_push_some, q_push_none, hc, b01_eq0, b01_eq1, decide_eq_false_iff_not, decide_eq_true_eq, ite_not, b01_t, b01_f, one_ne0, zero_eq0, Bool.true_eq_false, Bool.false_eq_true, ite_true, ite_false, and_self, and_true, true_and, not_true_eq_false, not_false_eq_true]
    · simp (disch := first | omega | exact b01_or _) only [b965_0, b965_9, b965_12, b965_15, b965_24, b965_27, m_in, Option.bind_some, q_push_some, q_push_none, b01_eq0, b01_eq1, decide_eq_false_iff_not, decide_eq_true_eq, ite_not, b01_t, b01_f, one_ne0, zero_eq0, Bool.true_eq_false, Bool.false_eq_true, ite_true, ite_false, and_self, and_true, true_and, not_true_eq_false, not_false_eq_true, hc2]
theorem op_write {hour g f : Int} (h : RR σ N) (hN : N + 999 ≤ 100000) (hf01 : f = 0 ∨ f = 1) : Op 842 971 [qR 0, qI hour, qI g, qI f] [qR 50, qI hour, qI g, qI f] σ N := by
  have hb := h.b
  by_cases hg : 0 ≤ g ∧ g < σ 50 14
  · by_cases hc : 0 ≤ hour ∧ hour ≤ 99999
    · have c1 : ¬ hour < 0 := by omega
      have c2 : ¬ 99999 < hour := by omega
      have e2 : σ 35 8 = σ 50 41 := by omega
      by_cases hf : σ 50 41 = 30
      · refine Op.ro h hN (a := -1000000004) ?_ ?_
        · have h1 : ¬ σ 50 41 < 30 := by omega
          simp (disch := first | omega | exact b01_or _) only [b842_0, b842_8, b842_11, b842_14, b842_18, b842_24, b842_27, b842_39, b842_42, c_hasGirl h, Option.bind_some, q_push_some, q_push_none, hg.1, hg.2, c1, c2, e2, h1, b01_eq0, b01_eq1, decide_eq_false_iff_not, decide_eq_true_eq, ite_not, b01_t, b01_f, one_ne0, zero_eq0, Bool.true_eq_false, Bool.false_eq_true, ite_true, ite_false, and_self, and_true, true_and, not_true_eq_false, not_false_eq_true]
        · simp (disch := first | omega | exact b01_or _) only [b971_0, b971_5, b971_8, b971_11, b971_20, b971_23, b971_26, b971_35, b971_38, m_isGirl h, m_in, Option.bind_some, q_push_some, q_push_none, b01_eq0, b01_eq1, decide_eq_false_iff_not, decide_eq_true_eq, ite_not, b01_t, b01_f, one_ne0, zero_eq0, Bool.true_eq_false, Bool.false_eq_true, ite_true, ite_false, and_self, and_true, true_and, not_true_eq_false, not_false_eq_true, hg.1, hg.2, hc.1, hc.2, hf]
      · have h1 : σ 50 41 < 30 := by omega
        refine ⟨σ 50 41 + 1, q_put (q_put (q_put (q_put σ 39 (σ 50 41).toNat hour) 40 (σ 50 41).toNat g) 41 (σ 50 41).toNat f) 35 8 (σ 50 41 + 1), q_put (q_put (q_put (q_put σ 69 (σ 50 41).toNat hour) 70 (σ 50 41).toNat g) 71 (σ 50 41).toNat f) 50 41 (σ 50 41 + 1), ?_, ?_, ?_⟩
        · simp (disch := first | omega | exact b01_or _) only [b842_0, b842_8, b842_11, b842_14, b842_18, b842_24, b842_27, b842_39, b842_42, c_hasGirl h, Option.bind_some, q_push_some, q_push_none, hg.1, hg.2, c1, c2, e2, h1, b01_eq0, b01_eq1, decide_eq_false_iff_not, decide_eq_true_eq, ite_not, b01_t, b01_f, one_ne0, zero_eq0, Bool.true_eq_false, Bool.false_eq_true, ite_true, ite_false, and_self, and_true, true_and, not_true_eq_false, not_false_eq_true]
        · simp (disch := first | omega | exact b01_or _) only [b971_0, b971_5, b971_8, b971_11, b971_20, b971_23, b971_26, b971_35, b971_38, m_isGirl h, m_in, Option.bind_some, q_push_some, q_push_none, b01_eq0, b01_eq1, decide_eq_false_iff_not, decide_eq_true_eq, ite_not, b01_t, b01_f, one_ne0, zero_eq0, Bool.true_eq_false, Bool.false_eq_true, ite_true, ite_false, and_self, and_true, true_and, not_true_eq_false, not_false_eq_true, hg.1, hg.2, hc.1, hc.2, hf]
        · refine h.book (by omega) hN (by intro k hk; (repeat rw [put_ne (by rintro rfl; revert hk; decide)])) (by intro k hk; (repeat rw [put_ne (by rintro rfl; revert hk; decide)])) ?_ ?_
          · intro j hj
            rw [rw_sl (by rintro rfl; revert hj; decide), put_ne (by decide), put_ne (by decide), put_ne (by decide)]
          · obtain ⟨-, b1, b2, b3⟩ := h.2.2.2.1
            unfold R_B
            simp (disch := decide) only [mix_c, mix_m, rw_ne, rw_sl, rw_eq, true_and, and_true]
            refine ⟨by omega, b1, b2, fun i hi => ?_⟩
            by_cases hi2 : i = (σ 50 41).toNat
            · subst hi2
              rw [rw_eq, rw_eq, rw_eq, rw_eq, rw_eq, rw_eq]
              omega
            · rw [rw_sl hi2, rw_sl hi2, rw_sl hi2, rw_sl hi2, rw_sl hi2, rw_sl hi2]
              exact b3 i (by omega)
    · refine Op.ro h hN (a := -1000000002) ?_ ?_
      · by_cases c1 : hour < 0
        · simp (disch := first | omega | exact b01_or _) only [b842_0, b842_8, b842_11, b842_14, b842_18, b842_24, b842_27, b842_39, b842_42, c_hasGirl h, Option.bind_some, q_push_some, q_push_none, hg.1, hg.2, c1, b01_eq0, b01_eq1, decide_eq_false_iff_not, decide_eq_true_eq, ite_not, b01_t, b01_f, one_ne0, zero_eq0, Bool.true_eq_false, Bool.false_eq_true, ite_true, ite_false, and_self, and_true, true_and, not_true_eq_false, not_false_eq_true]
        · have c2 : 99999 < hour := by omega
          simp (disch := first | omega | exact b01_or _) only [b842_0, b842_8, b842_11, b842_14, b842_18, b842_24, b842_27, b842_39, b842_42, c_hasGirl h, Option.bind_some, q_push_some, q_push_none, hg.1, hg.2, c1, c2, b01_eq0, b01_eq1, decide_eq_false_iff_not, decide_eq_true_eq, ite_not, b01_t, b01_f, one_ne0, zero_eq0, Bool.true_eq_false, Bool.false_eq_true, ite_true, ite_false, and_self, and_true, true_and, not_true_eq_false, not_false_eq_true]
      · simp (disch := first | omega | exact b01_or _) only [b971_0, b971_5, b971_8, b971_11, b971_20, b971_23, b971_26, b971_35, b971_38, m_isGirl h, m_in, Option.bind_some, q_push_some, q_push_none, b01_eq0, b01_eq1, decide_eq_false_iff_not, decide_eq_true_eq, ite_not, b01_t, b01_f, one_ne0, zero_eq0, Bool.true_eq_false, Bool.false_eq_true, ite_true, ite_false, and_self, and_true, true_and, not_true_eq_false, not_false_eq_true, hg.1, hg.2, hc]
  · refine Op.ro h hN (a := -1000000001) ?_ ?_
    · simp (disch := first | omega | exact b01_or _) only [b842_0, b842_8, b842_11, b842_14, b842_18, b842_24, b842_27, b842_39, b842_42, c_hasGirl h, Option.bind_some, q_push_some, q_push_none, hg, b01_eq0, b01_eq1, decide_eq_false_iff_not, decide_eq_true_eq, ite_not, b01_t, b01_f, one_ne0, zero_eq0, Bool.true_eq_false, Bool.false_eq_true, ite_true, ite_false, and_self, and_true, true_and, not_true_eq_false, not_false_eq_true]
    · simp (disch := first | omega | exact b01_or _) only [b971_0, b971_5, b971_8, b971_11, b971_20, b971_23, b971_26, b971_35, b971_38, m_isGirl h, Option.bind_some, q_push_some, q_push_none, b01_eq0, b01_eq1, decide_eq_false_iff_not, decide_eq_true_eq, ite_not, b01_t, b01_f, one_ne0, zero_eq0, Bool.true_eq_false, Bool.false_eq_true, ite_true, ite_false, and_self, and_true, true_and, not_true_eq_false, not_false_eq_true, hg]
end O1
