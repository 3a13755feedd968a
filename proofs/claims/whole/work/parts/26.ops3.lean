/-! ===== operations with plain loops: house, passes, rule, apart, worn ===== -/
theorem bsI_yes {p : Nat → Bool} {g : Int} (hg : 0 ≤ g ∧ g < 31) (hp : p g.toNat = true) : q_or (bset p g.toNat : Int) (q_shl 1 g) = (bset p (g + 1).toNat : Int) := by
  obtain ⟨n, rfl⟩ : ∃ n : Nat, g = n := ⟨g.toNat, by omega⟩
  rw [Int.toNat_natCast] at hp ⊢
  rw [show ((n : Int) + 1).toNat = n + 1 by omega]
  exact bset_yes (by omega) hp
theorem bsI_no {p : Nat → Bool} {g : Int} (hg : 0 ≤ g) (hp : ¬ p g.toNat = true) : (bset p g.toNat : Int) = (bset p (g + 1).toNat : Int) := by
  rw [show (g + 1).toNat = g.toNat + 1 by omega]
  exact bset_no hp
theorem bsI_one {p : Nat → Bool} {g z : Int} (hg : 0 ≤ g ∧ g < 31) (hz : z = b01 (p g.toNat)) : q_or (bset p g.toNat : Int) (q_shl z g) = (bset p (g + 1).toNat : Int) := by
  obtain ⟨n, rfl⟩ : ∃ n : Nat, g = n := ⟨g.toNat, by omega⟩
  rw [Int.toNat_natCast] at hz ⊢
  rw [show ((n : Int) + 1).toNat = n + 1 by omega]
  exact bset_one (by omega) hz
/-- the first one from g on, else -1 -/
def fst1 (Q : Int → Bool) : Nat → Int → Int
  | 0, _ => -1
  | k + 1, g => if Q g then g else fst1 Q k (g + 1)
theorem fst1_rng (Q : Int → Bool) : ∀ (k : Nat) (g : Int), fst1 Q k g = -1 ∨ (g ≤ fst1 Q k g ∧ fst1 Q k g < g + k)
  | 0, g => Or.inl rfl
  | k + 1, g => by
    unfold fst1
    split
    · right; omega
    · rcases fst1_rng Q k (g + 1) with h | h
      · exact Or.inl h
      · right; omega
def p_in (σ : SS) (hs : Int) (i : Nat) : Bool := decide (σ 51 i = hs)
section O3
variable {σ : SS} {N : Int}
theorem c_girlsInL {hs : Int} (h : RR σ N) : ∀ (k : Nat) (g : Int), 0 ≤ g → g + k = σ 50 14 → ev 807 4 [qR 0, qI hs, qI (bset (p_in σ hs) g.toNat : Nat), qI g] [] σ = some (some (qI (bset (p_in σ hs) (σ 50 14).toNat : Nat)), σ)
  | 0, g, h0, hk => by
    have ht := h.t
    have e : g = σ 50 14 := by omega
    rw [b807_4, if_neg (by omega), b807_40, e]
  | k + 1, g, h0, hk => by
    have ht := h.t
    have hG := h.g h0 (by omega)
    rw [b807_4, if_pos (by omega)]
    by_cases hc : σ 51 g.toNat = hs
    · have e : σ 22 g.toNat = hs := by omega
      simp (disch := first | omega | exact b01_or _) only [b807_0, b807_15, b807_28, b807_34, b807_40, e, if_true]
      rw [bsI_yes (by omega) (by simp [p_in, hc])]
      exact c_girlsInL h k (g + 1) (by omega) (by omega)
    · have e : ¬ σ 22 g.toNat = hs := by omega
      simp (disch := first | omega | exact b01_or _) only [b807_0, b807_15, b807_28, b807_34, b807_40, e, if_false]
      rw [bsI_no h0 (by simp [p_in, hc])]
      exact c_girlsInL h k (g + 1) (by omega) (by omega)
theorem c_girlsIn {hs : Int} (h : RR σ N) : ev 807 0 [qR 0, qI hs, qU, qU] [] σ = some (some (qI (bset (p_in σ hs) (σ 50 14).toNat : Nat)), σ) := by
  have ht := h.t
  rw [b807_0]
  exact c_girlsInL h (σ 50 14).toNat 0 (by omega) (by omega)
theorem m_inHouseL {hs : Int} (h : RR σ N) : ∀ (k : Nat) (g : Int), 0 ≤ g → g + k = σ 50 14 → ev 930 4 [qR 50, qI hs, qI (bset (p_in σ hs) g.toNat : Nat), qI g] [] σ = some (some (qI (bset (p_in σ hs) (σ 50 14).toNat : Nat)), σ)
  | 0, g, h0, hk => by
    have e : g = σ 50 14 := by omega
    rw [b930_4, if_neg (by omega), b930_41, e]
  | k + 1, g, h0, hk => by
    have ht := h.t
    rw [b930_4, if_pos (by omega)]
    by_cases hc : σ 51 g.toNat = hs
    · simp (disch := first | omega | exact b01_or _) only [b930_0, b930_12, b930_23, b930_27, b930_28, b930_31, b930_41, hc, if_true, m_one (b := true), Option.bind_some, q_push_some, q_push_none, show (1 : Int) = b01 true from rfl]
      rw [bsI_one (by omega) (by simp [p_in, hc])]
      exact m_inHouseL h k (g + 1) (by omega) (by omega)
    · rw [b930_12 (by omega), if_neg hc, b930_27, b930_28, show (0 : Int) = b01 false from rfl, m_one]
      simp (disch := first | omega | exact b01_or _) only [b930_0, b930_12, b930_23, b930_27, b930_28, b930_31, b930_41, Option.bind_some, q_push_some, q_push_none]
      rw [bsI_one (by omega) (by simp [p_in, hc])]
      exact m_inHouseL h k (g + 1) (by omega) (by omega)
theorem m_inHouse {hs : Int} (h : RR σ N) : ev 930 0 [qR 50, qI hs, qU, qU] [] σ = some (some (qI (bset (p_in σ hs) (σ 50 14).toNat : Nat)), σ) := by
  have ht := h.t
  rw [b930_0]
  exact m_inHouseL h (σ 50 14).toNat 0 (by omega) (by omega)
theorem op_house {x w : Int} (h : RR σ N) (hN : N + 999 ≤ 100000) : Op 806 931 [qR 0, qI x, qI w] [qR 50, qI x, qI w] σ N := by
  have ht := h.t
  by_cases hx : 0 ≤ x ∧ x < σ 50 13
  · have hH := h.h hx.1 hx.2
    have e1 : σ 13 x.toNat = σ 54 x.toNat := by omega
    have e2 : σ 14 x.toNat = σ 55 x.toNat := by omega
    by_cases hw : 0 ≤ w ∧ w ≤ 2
    · have hw2 : w = 0 ∨ w = 1 ∨ w = 2 := by omega
      rcases hw2 with rfl | rfl | rfl
      · refine Op.ro h hN (a := σ 54 x.toNat) ?_ ?_
        · simp (disch := first | omega | exact b01_or _) only [b806_0, b806_8, b806_11, b806_14_c0, b806_14_c1, b806_14_c2, b806_14_cd, b806_40, b806_50, b806_60, b806_65, b806_66, c_hasHouse h, hx.1, hx.2, e1, e2, Option.bind_some, q_push_some, q_push_none, b01_eq0, b01_eq1, decide_eq_false_iff_not, decide_eq_true_eq, ite_not, b01_t, b01_f, one_ne0, zero_eq0, Bool.true_eq_false, Bool.false_eq_true, ite_true, ite_false, and_self, and_true, true_and, not_true_eq_false, not_false_eq_true]
        · simp (disch := first | omega | exact b01_or _) only [b931_0, b931_5, b931_8, b931_11, b931_15, b931_24, b931_29, b931_38, b931_43, b931_48, b931_51, b931_53, m_isHouse h, hx.1, hx.2, Option.bind_some, q_push_some, q_push_none, b01_eq0, b01_eq1, decide_eq_false_iff_not, decide_eq_true_eq, ite_not, b01_t, b01_f, one_ne0, zero_eq0, Bool.true_eq_false, Bool.false_eq_true, ite_true, ite_false, and_self, and_true, true_and, not_true_eq_false, not_false_eq_true]
      · refine Op.ro h hN (a := σ 55 x.toNat) ?_ ?_
        · simp (disch := first | omega | exact b01_or _) only [b806_0, b806_8, b806_11, b806_14_c0, b806_14_c1, b806_14_c2, b806_14_cd, b806_40, b806_50, b806_60, b806_65, b806_66, c_hasHouse h, hx.1, hx.2, e1, e2, Option.bind_some, q_push_some, q_push_none, b01_eq0, b01_eq1, decide_eq_false_iff_not, decide_eq_true_eq, ite_not, b01_t, b01_f, one_ne0, zero_eq0, Bool.true_eq_false, Bool.false_eq_true, ite_true, ite_false, and_self, and_true, true_and, not_true_eq_false, not_false_eq_true]
        · simp (disch := first | omega | exact b01_or _) only [b931_0, b931_5, b931_8, b931_11, b931_15, b931_24, b931_29, b931_38, b931_43, b931_48, b931_51, b931_53, m_isHouse h, hx.1, hx.2, Option.bind_some, q_push_some, q_push_none, b01_eq0, b01_eq1, decide_eq_false_iff_not, decide_eq_true_eq, ite_not, b01_t, b01_f, one_ne0, zero_eq0, Bool.true_eq_false, Bool.false_eq_true, ite_true, ite_false, and_self, and_true, true_and, not_true_eq_false, not_false_eq_true]
      · refine Op.ro h hN (a := (bset (p_in σ x) (σ 50 14).toNat : Nat)) ?_ ?_
        · simp (disch := first | omega | exact b01_or _) only [b806_0, b806_8, b806_11, b806_14_c0, b806_14_c1, b806_14_c2, b806_14_cd, b806_40, b806_50, b806_60, b806_65, b806_66, c_hasHouse h, hx.1, hx.2, c_girlsIn h, Option.bind_some, q_push_some, q_push_none, b01_eq0, b01_eq1, decide_eq_false_iff_not, decide_eq_true_eq, ite_not, b01_t, b01_f, one_ne0, zero_eq0, Bool.true_eq_false, Bool.false_eq_true, ite_true, ite_false, and_self, and_true, true_and, not_true_eq_false, not_false_eq_true]
        · simp (disch := first | omega | exact b01_or _) only [b931_0, b931_5, b931_8, b931_11, b931_15, b931_24, b931_29, b931_38, b931_43, b931_48, b931_51, b931_53, m_isHouse h, hx.1, hx.2, m_inHouse h, Option.bind_some, q_push_some, q_push_none, b01_eq0, b01_eq1, decide_eq_false_iff_not, decide_eq_true_eq, ite_not, b01_t, b01_f, one_ne0, zero_eq0, Bool.true_eq_false, Bool.false_eq_true, ite_true, ite_false, and_self, and_true, true_and, not_true_eq_false, not_false_eq_true, Int.reduceEq]
    · have w0 : ¬ w = 0 := by omega
      have w1 : ¬ w = 1 := by omega
      have w2 : ¬ w = 2 := by omega
      refine Op.ro h hN (a := -1000000002) ?_ ?_
      · simp (disch := first | omega | exact b01_or _) only [b806_0, b806_8, b806_11, b806_14_c0, b806_14_c1, b806_14_c2, b806_14_cd, b806_40, b806_50, b806_60, b806_65, b806_66, c_hasHouse h, hx.1, hx.2, Option.bind_some, q_push_some, q_push_none, b01_eq0, b01_eq1, decide_eq_false_iff_not, decide_eq_true_eq, ite_not, b01_t, b01_f, one_ne0, zero_eq0, Bool.true_eq_false, Bool.false_eq_true, ite_true, ite_false, and_self, and_true, true_and, not_true_eq_false, not_false_eq_true]
      · simp (disch := first | omega | exact b01_or _) only [b931_0, b931_5, b931_8, b931_11, b931_15, b931_24, b931_29, b931_38, b931_43, b931_48, b931_51, b931_53, m_isHouse h, hx.1, hx.2, w0, w1, w2, Option.bind_some, q_push_some, q_push_none, b01_eq0, b01_eq1, decide_eq_false_iff_not, decide_eq_true_eq, ite_not, b01_t, b01_f, one_ne0, zero_eq0, Bool.true_eq_false, Bool.false_eq_true, ite_true, ite_false, and_self, and_true, true_and, not_true_eq_false, not_false_eq_true]
  · refine Op.ro h hN (a := -1000000001) ?_ ?_
    · simp (disch := first | omega | exact b01_or _) only [b806_0, b806_8, b806_11, b806_14_c0, b806_14_c1, b806_14_c2, b806_14_cd, b806_40, b806_50, b806_60, b806_65, b806_66, c_hasHouse h, Option.bind_some, q_push_some, q_push_none, b01_eq0, b01_eq1, decide_eq_false_iff_not, decide_eq_true_eq, ite_not, b01_t, b01_f, one_ne0, zero_eq0, Bool.true_eq_false, Bool.false_eq_true, ite_true, ite_false, and_self, and_true, true_and, not_true_eq_false, not_false_eq_true, hx]
    · simp (disch := first | omega | exact b01_or _) only [b931_0, b931_5, b931_8, b931_11, b931_15, b931_24, b931_29, b931_38, b931_43, b931_48, b931_51, b931_53, m_isHouse h, Option.bind_some, q_push_some, q_push_none, b01_eq0, b01_eq1, decide_eq_false_iff_not, decide_eq_true_eq, ite_not, b01_t, b01_f, one_ne0, zero_eq0, Bool.true_eq_false, Bool.false_eq_true, ite_true, ite_false, and_self, and_true, true_and, not_true_eq_false, not_false_eq_true, hx]
/-- the padding that fits by day and by night -/
def p_two (σ : SS) (g a b pad : Int) : Bool := p_fit σ (p_fb σ g a pad) (σ 53 0) && p_fit σ (p_fb σ g b pad) (σ 53 0)
theorem c_leastL {g a b : Int} (h : RR σ N) (hg : 0 ≤ g ∧ g < σ 50 14) : ∀ (k : Nat) (p : Int), 0 ≤ p → p + k = 6 → ev 211 19 [qR 34, qI g, qI a, qI b, qI (p_fb σ g a 0), qI (p_fb σ g b 0), qI p] [] σ = some (some (qI (fst1 (p_two σ g a b) k p)), σ)
  | 0, p, h0, hk => by
    rw [b211_19, if_pos (by omega), b211_78]; rfl
  | k + 1, p, h0, hk => by
    have ht := h.t
    have r1 := p_fb_rng (hour := a) (pad := p) h hg (by omega)
    have r2 := p_fb_rng (hour := b) (pad := p) h hg (by omega)
    have e3 : σ 12 11 = σ 53 0 := by omega
    rw [b211_19, if_neg (by omega), fst1, p_two]
    have q1 := p_fb_pad (σ := σ) (g := g) (hour := a) (pad := p)
    have q2 := p_fb_pad (σ := σ) (g := g) (hour := b) (pad := p)
    rw [b211_25 (by omega), q1, e3, c_fitsGlass h (by omega) (by omega)]
    cases c1 : p_fit σ (p_fb σ g a p) (σ 53 0)
    · simp (disch := first | omega | exact b01_or _) only [b211_0, b211_6, b211_14, b211_25, b211_44, b211_47, b211_66, b211_69, b211_72, b211_78, Option.bind_some, q_push_some, q_push_none, b01_eq0, b01_eq1, decide_eq_false_iff_not, decide_eq_true_eq, ite_not, b01_t, b01_f, one_ne0, zero_eq0, Bool.true_eq_false, Bool.false_eq_true, ite_true, ite_false, and_self, and_true, true_and, not_true_eq_false, not_false_eq_true, Bool.false_and]
      exact c_leastL h hg k (p + 1) (by omega) (by omega)
    · simp (disch := first | omega | exact b01_or _) only [Option.bind_some, q_push_some, q_push_none, b211_44, b01_eq0, b01_eq1, decide_eq_false_iff_not, decide_eq_true_eq, ite_not, b01_t, b01_f, one_ne0, zero_eq0, Bool.true_eq_false, Bool.false_eq_true, ite_true, ite_false, and_self, and_true, true_and, not_true_eq_false, not_false_eq_true, Bool.true_and]
      rw [b211_47 (by omega), q2, e3, c_fitsGlass h (by omega) (by omega)]
      cases c2 : p_fit σ (p_fb σ g b p) (σ 53 0)
      · simp (disch := first | omega | exact b01_or _) only [b211_0, b211_6, b211_14, b211_25, b211_44, b211_47, b211_66, b211_69, b211_72, b211_78, Option.bind_some, q_push_some, q_push_none, b01_eq0, b01_eq1, decide_eq_false_iff_not, decide_eq_true_eq, ite_not, b01_t, b01_f, one_ne0, zero_eq0, Bool.true_eq_false, Bool.false_eq_true, ite_true, ite_false, and_self, and_true, true_and, not_true_eq_false, not_false_eq_true]
        exact c_leastL h hg k (p + 1) (by omega) (by omega)
      · simp (disch := first | omega | exact b01_or _) only [b211_0, b211_6, b211_14, b211_25, b211_44, b211_47, b211_66, b211_69, b211_72, b211_78, Option.bind_some, q_push_some, q_push_none, b01_eq0, b01_eq1, decide_eq_false_iff_not, decide_eq_true_eq, ite_not, b01_t, b01_f, one_ne0, zero_eq0, Bool.true_eq_false, Bool.false_eq_true, ite_true, ite_false, and_self, and_true, true_and, not_true_eq_false, not_false_eq_true]
theorem c_least {g a b : Int} (h : RR σ N) (hg : 0 ≤ g ∧ g < σ 50 14) (ha : 0 ≤ a ∧ a ≤ 1000000) (hb : 0 ≤ b ∧ b ≤ 1000000) : ev 211 0 [qR 34, qI g, qI a, qI b, qU, qU, qU] [] σ = some (some (qI (fst1 (p_two σ g a b) 6 0)), σ) := by
  simp (disch := first | omega | exact b01_or _) only [b211_0, b211_6, b211_14, c_bareFoot h hg ha, c_bareFoot h hg hb, Option.bind_some, q_push_some, q_push_none]
  exact c_leastL h hg 6 0 (by omega) (by omega)
theorem m_passesL {g a b : Int} (h : RR σ N) (hg : 0 ≤ g ∧ g < σ 50 14) (ha : 0 ≤ a ∧ a ≤ 1000000) (hb : 0 ≤ b ∧ b ≤ 1000000) : ∀ (k : Nat) (p : Int), 0 ≤ p → p + k = 6 → ev 955 41 [qR 50, qI g, qI a, qI b, qI p] [] σ = some (some (qI (fst1 (p_two σ g a b) k p)), σ)
  | 0, p, h0, hk => by
    rw [b955_41, if_pos (by omega), b955_98]; rfl
  | k + 1, p, h0, hk => by
    have ht := h.t
    have r1 := p_fb_rng (hour := a) (pad := p) h hg (by omega)
    have r2 := p_fb_rng (hour := b) (pad := p) h hg (by omega)
    rw [b955_41, if_neg (by omega), fst1, p_two]
    simp (disch := first | omega | exact b01_or _) only [b955_47, b955_56, m_footBy h hg ha (pad := p) (by omega), m_fits h (v := p_fb σ g a p) (by omega) (gl := σ 53 0) (by omega), Option.bind_some, q_push_some, q_push_none]
    cases c1 : p_fit σ (p_fb σ g a p) (σ 53 0)
    · simp (disch := first | omega | exact b01_or _) only [b955_0, b955_5, b955_8, b955_11, b955_20, b955_23, b955_32, b955_35, b955_38, b955_47, b955_56, b955_65, b955_68, b955_77, b955_86, b955_89, b955_92, b955_98, Option.bind_some, q_push_some, q_push_none, b01_eq0, b01_eq1, decide_eq_false_iff_not, decide_eq_true_eq, ite_not, b01_t, b01_f, one_ne0, zero_eq0, Bool.true_eq_false, Bool.false_eq_true, ite_true, ite_false, and_self, and_true, true_and, not_true_eq_false, not_false_eq_true, Bool.false_and]
      exact m_passesL h hg ha hb k (p + 1) (by omega) (by omega)
    · simp (disch := first | omega | exact b01_or _) only [b955_65, b955_68, b955_77, m_footBy h hg hb (pad := p) (by omega), m_fits h (v := p_fb σ g b p) (by omega) (gl := σ 53 0) (by omega), Option.bind_some, q_push_some, q_push_none, b01_eq0, b01_eq1, decide_eq_false_iff_not, decide_eq_true_eq, ite_not, b01_t, b01_f, one_ne0, zero_eq0, Bool.true_eq_false, Bool.false_eq_true, ite_true, ite_false, and_self, and_true, true_and, not_true_eq_false, not_false_eq_true, Bool.true_and]
      cases c2 : p_fit σ (p_fb σ g b p) (σ 53 0)
      · simp (disch := first | omega | exact b01_or _) only [b955_0, b955_5, b955_8, b955_11, b955_20, b955_23, b955_32, b955_35, b955_38, b955_47, b955_56, b955_65, b955_68, b955_77, b955_86, b955_89, b955_92, b955_98, Option.bind_some, q_push_some, q_push_none, b01_eq0, b01_eq1, decide_eq_false_iff_not, decide_eq_true_eq, ite_not, b01_t, b01_f, one_ne0, zero_eq0, Bool.true_eq_false, Bool.false_eq_true, ite_true, ite_false, and_self, and_true, true_and, not_true_eq_false, not_false_eq_true]
        exact m_passesL h hg ha hb k (p + 1) (by omega) (by omega)
      · simp (disch := first | omega | exact b01_or _) only [b955_0, b955_5, b955_8, b955_11, b955_20, b955_23, b955_32, b955_35, b955_38, b955_47, b955_56, b955_65, b955_68, b955_77, b955_86, b955_89, b955_92, b955_98, Option.bind_some, q_push_some, q_push_none, b01_eq0, b01_eq1, decide_eq_false_iff_not, decide_eq_true_eq, ite_not, b01_t, b01_f, one_ne0, zero_eq0, Bool.true_eq_false, Bool.false_eq_true, ite_true, ite_false, and_self, and_true, true_and, not_true_eq_false, not_false_eq_true]
theorem m_passes {g a b : Int} (h : RR σ N) (hg : 0 ≤ g ∧ g < σ 50 14) (ha : 0 ≤ a ∧ a ≤ 23) (hb : 0 ≤ b ∧ b ≤ 23) : ev 955 0 [qR 50, qI g, qI a, qI b, qU] [] σ = some (some (qI (fst1 (p_two σ g a b) 6 0)), σ) := by
  simp (disch := first | omega | exact b01_or _) only [b955_0, b955_5, b955_8, b955_11, b955_20, b955_23, b955_32, b955_35, b955_38, b955_47, b955_56, b955_65, b955_68, b955_77, b955_86, b955_89, b955_92, b955_98, m_isGirl h, m_in, hg.1, hg.2, ha.1, ha.2, hb.1, hb.2, Option.bind_some, q_push_some, q_push_none, b01_eq0, b01_eq1, decide_eq_false_iff_not, decide_eq_true_eq, ite_not, b01_t, b01_f, one_ne0, zero_eq0, Bool.true_eq_false, Bool.false_eq_true, ite_true, ite_false, and_self, and_true, true_and, not_true_eq_false, not_false_eq_true]
  exact m_passesL h hg (by omega) (by omega) 6 0 (by omega) (by omega)
theorem op_passes {g a b : Int} (h : RR σ N) (hN : N + 999 ≤ 100000) : Op 826 955 [qR 0, qI g, qI a, qI b] [qR 50, qI g, qI a, qI b, qU] σ N := by
  by_cases hg : 0 ≤ g ∧ g < σ 50 14
  · by_cases ha : 0 ≤ a ∧ a ≤ 23
    · have ha' : 0 ≤ a ∧ a < 24 := by omega
      by_cases hb : 0 ≤ b ∧ b ≤ 23
      · have hb' : 0 ≤ b ∧ b < 24 := by omega
        refine Op.ro h hN (a := fst1 (p_two σ g a b) 6 0) ?_ (m_passes h hg ha hb)
        simp (disch := first | omega | exact b01_or _) only [b826_0, b826_8, b826_11, b826_14, b826_18, b826_21, b826_25, b826_28, b826_31, b826_41, c_hasGirl h, c_isHour, c_least h hg (a := a) (b := b) (by omega) (by omega), hg.1, hg.2, ha'.1, ha'.2, hb'.1, hb'.2, Option.bind_some, q_push_some, q_push_none, b01_eq0, b01_eq1, decide_eq_false_iff_not, decide_eq_true_eq, ite_not, b01_t, b01_f, one_ne0, zero_eq0, Bool.true_eq_false, Bool.false_eq_true, ite_true, ite_false, and_self, and_true, true_and, not_true_eq_false, not_false_eq_true]
      · have hb' : ¬ (0 ≤ b ∧ b < 24) := by omega
        refine Op.ro h hN (a := -1000000002) ?_ ?_
        · simp (disch := first | omega | exact b01_or _) only [b826_0, b826_8, b826_11, b826_14, b826_18, b826_21, b826_25, b826_28, b826_31, b826_41, c_hasGirl h, c_isHour, hg.1, hg.2, ha'.1, ha'.2, hb', Option.bind_some, q_push_some, q_push_none, b01_eq0, b01_eq1, decide_eq_false_iff_not, decide_eq_true_eq, ite_not, b01_t, b01_f, one_ne0, zero_eq0, Bool.true_eq_false, Bool.false_eq_true, ite_true, ite_false, and_self, and_true, true_and, not_true_eq_false, not_false_eq_true]
        · simp (disch := first | omega | exact b01_or _) only [b955_0, b955_5, b955_8, b955_11, b955_20, b955_23, b955_32, b955_35, b955_38, b955_47, b955_56, b955_65, b955_68, b955_77, b955_86, b955_89, b955_92, b955_98, m_isGirl h, m_in, hg.1, hg.2, ha.1, ha.2, hb, Option.bind_some, q_push_some, q_push_none, b01_eq0, b01_eq1, decide_eq_false_iff_not, decide_eq_true_eq, ite_not, b01_t, b01_f, one_ne0, zero_eq0, Bool.true_eq_false, Bool.false_eq_true, ite_true, ite_false, and_self, and_true, true_and, not_true_eq_false, not_false_eq_true]
    · have ha' : ¬ (0 ≤ a ∧ a < 24) := by omega
      refine Op.ro h hN (a := -1000000002) ?_ ?_
      · simp (disch := first | omega | exact b01_or _) only [b826_0, b826_8, b826_11, b826_14, b826_18, b826_21, b826_25, b826_28, b826_31, b826_41, c_hasGirl h, c_isHour, hg.1, hg.2, ha', Option.bind_some, q_push_some, q_push_none, b01_eq0, b01_eq1, decide_eq_false_iff_not, decide_eq_true_eq, ite_not, b01_t, b01_f, one_ne0, zero_eq0, Bool.true_eq_false, Bool.false_eq_true, ite_true, ite_false, and_self, and_true, true_and, not_true_eq_false, not_false_eq_true]
      · simp (disch := first | omega | exact b01_or _) only [b955_0, b955_5, b955_8, b955_11, b955_20, b955_23, b955_32, b955_35, b955_38, b955_47, b955_56, b955_65, b955_68, b955_77, b955_86, b955_89, b955_92, b955_98, m_isGirl h, m_in, hg.1, hg.2, ha, Option.bind_some, q_push_some, q_push_none, b01_eq0, b01_eq1, decide_eq_false_iff_not, decide_eq_true_eq, ite_not, b01_t, b01_f, one_ne0, zero_eq0, Bool.true_eq_false, Bool.false_eq_true, ite_true, ite_false, and_self, and_true, true_and, not_true_eq_false, not_false_eq_true]
  · refine Op.ro h hN (a := -1000000001) ?_ ?_
    · simp (disch := first | omega | exact b01_or _) only [b826_0, b826_8, b826_11, b826_14, b826_18, b826_21, b826_25, b826_28, b826_31, b826_41, c_hasGirl h, hg, Option.bind_some, q_push_some, q_push_none, b01_eq0, b01_eq1, decide_eq_false_iff_not, decide_eq_true_eq, ite_not, b01_t, b01_f, one_ne0, zero_eq0, Bool.true_eq_false, Bool.false_eq_true, ite_true, ite_false, and_self, and_true, true_and, not_true_eq_false, not_false_eq_true]
    · simp (disch := first | omega | exact b01_or _) only [b955_0, b955_5, b955_8, b955_11, b955_20, b955_23, b955_32, b955_35, b955_38, b955_47, b955_56, b955_65, b955_68, b955_77, b955_86, b955_89, b955_92, b955_98, m_isGirl h, hg, Option.bind_some, q_push_some, q_push_none, b01_eq0, b01_eq1, decide_eq_false_iff_not, decide_eq_true_eq, ite_not, b01_t, b01_f, one_ne0, zero_eq0, Bool.true_eq_false, Bool.false_eq_true, ite_true, ite_false, and_self, and_true, true_and, not_true_eq_false, not_false_eq_true]
end O3
