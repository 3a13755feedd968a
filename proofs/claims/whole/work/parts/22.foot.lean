/-! ===== FOOT, GLASS, FITS: both sides ===== -/
def p_soak (σ : SS) (g hour : Int) : Bool := decide (σ 51 (12 + g).toNat ≤ hour ∧ hour ≤ σ 51 (12 + g).toNat + 3)
def p_ft (σ : SS) (g hour : Int) : Int := if p_fb σ g hour (σ 51 (6 + g).toNat) - (if p_soak σ g hour = true then 3 else 0) < 0 then 0 else p_fb σ g hour (σ 51 (6 + g).toNat) - (if p_soak σ g hour = true then 3 else 0)
def p_gl (σ : SS) (tries : Int) : Int := σ 53 0 + if σ 53 2 = 0 then 0 else tries / σ 53 2
def p_fit (σ : SS) (v glass : Int) : Bool := decide (0 ≤ glass - v ∧ glass - v ≤ σ 53 1)
section FT
variable {σ : SS} {N : Int}
theorem p_fb_rng {g hour pad : Int} (h : RR σ N) (hg : 0 ≤ g ∧ g < σ 50 14) (hp : 0 ≤ pad ∧ pad ≤ 5) : 1 ≤ p_fb σ g hour pad ∧ p_fb σ g hour pad ≤ 122 := by
  have hG := h.g hg.1 hg.2
  unfold p_fb
  split <;> omega
theorem p_gl_rng {t : Int} (h : RR σ N) (ht : 0 ≤ t ∧ t ≤ 100000) : 1 ≤ p_gl σ t ∧ p_gl σ t ≤ 100099 := by
  have hT := h.t
  unfold p_gl
  split
  · omega
  · have h1 : 0 ≤ t / σ 53 2 := Int.ediv_nonneg (by omega) (by omega)
    have h2 : t / σ 53 2 ≤ t := Int.ediv_le_self _ (by omega)
    omega
theorem m_isSoaked {g hour : Int} (h : RR σ N) (hg : 0 ≤ g ∧ g < σ 50 14) : ev 924 0 [qR 50, qI g, qI hour] [] σ = some (some (qI (b01 (p_soak σ g hour))), σ) := by
  have ht := h.t
  have hn := h.n
  have hG := h.g hg.1 hg.2
  simp (disch := first | omega | exact b01_or _) only [b924_0, b924_27, m_in, Option.bind_some, q_push_some, q_push_none, p_soak]
theorem m_footAt {g hour : Int} (h : RR σ N) (hg : 0 ≤ g ∧ g < σ 50 14) (hh : 0 ≤ hour ∧ hour ≤ 1000000) : ev 925 0 [qR 50, qI g, qI hour, qU] [] σ = some (some (qI (p_ft σ g hour)), σ) := by
  have ht := h.t
  have hG := h.g hg.1 hg.2
  have hf := p_fb_rng (hour := hour) (pad := σ 51 (6 + g).toNat) h hg (by omega)
  simp (disch := first | omega | exact b01_or _) only [b925_0, b925_15, b925_21, b925_24, b925_28, b925_29, b925_35, b925_39, b925_40, m_footBy h hg hh, m_isSoaked h hg, Option.bind_some, q_push_some, q_push_none]
  unfold p_ft
  cases p_soak σ g hour
  · simp (disch := first | omega | exact b01_or _) only [b01_eq0, b01_eq1, decide_eq_false_iff_not, decide_eq_true_eq, ite_not, b01_t, b01_f, one_ne0, zero_eq0, ite_true, ite_false, and_self, and_true, true_and, not_true_eq_false, not_false_eq_true, Bool.false_eq_true]
    split <;> rfl
  · simp (disch := first | omega | exact b01_or _) only [b01_eq0, b01_eq1, decide_eq_false_iff_not, decide_eq_true_eq, ite_not, b01_t, b01_f, one_ne0, zero_eq0, ite_true, ite_false, and_self, and_true, true_and, not_true_eq_false, not_false_eq_true]
    split <;> rfl
theorem m_glassBy {t : Int} (h : RR σ N) (ht : 0 ≤ t ∧ t ≤ 100000) : ev 926 0 [qR 50, qI t] [] σ = some (some (qI (p_gl σ t)), σ) := by
  have hT := h.t
  have hr := p_gl_rng h ht
  unfold p_gl at hr ⊢
  by_cases h0 : σ 53 2 = 0
  · rw [if_pos h0] at hr ⊢
    simp (disch := first | omega | exact b01_or _) only [b926_0, b926_15, b926_19, b926_27, h0, b01_eq0, b01_eq1, decide_eq_false_iff_not, decide_eq_true_eq, ite_not, b01_t, b01_f, one_ne0, zero_eq0, ite_true, ite_false, and_self, and_true, true_and, not_true_eq_false, not_false_eq_true]
  · rw [if_neg h0] at hr ⊢
    simp (disch := first | omega | exact b01_or _) only [b926_0, b926_15, b926_19, b926_27, h0, b01_eq0, b01_eq1, decide_eq_false_iff_not, decide_eq_true_eq, ite_not, b01_t, b01_f, one_ne0, zero_eq0, ite_true, ite_false, and_self, and_true, true_and, not_true_eq_false, not_false_eq_true]
theorem m_glassNow (h : RR σ N) : ev 928 0 [qR 50] [] σ = some (some (qI (p_gl σ (σ 51 20))), σ) := by
  have hn := h.n
  simp (disch := first | omega | exact b01_or _) only [b928_0, b928_11, m_glassBy h (t := σ 51 20) (by omega), Option.bind_some, q_push_some, q_push_none]
theorem m_fits {v gl : Int} (h : RR σ N) (hv : -1000000 ≤ v ∧ v ≤ 1000000) (hg : -1000000 ≤ gl ∧ gl ≤ 1000000) : ev 927 0 [qR 50, qI v, qI gl] [] σ = some (some (qI (b01 (p_fit σ v gl))), σ) := by
  have hT := h.t
  simp (disch := first | omega | exact b01_or _) only [b927_0, b927_15, m_in, Option.bind_some, q_push_some, q_push_none, p_fit]
theorem m_fitsDry {g hour gl : Int} (h : RR σ N) (hg : 0 ≤ g ∧ g < σ 50 14) (hh : 0 ≤ hour ∧ hour ≤ 1000000) (hl : -1000000 ≤ gl ∧ gl ≤ 1000000) : ev 958 0 [qR 50, qI g, qI hour, qI gl] [] σ = some (some (qI (b01 (p_fit σ (p_fb σ g hour (σ 51 (6 + g).toNat)) gl))), σ) := by
  have hG := h.g hg.1 hg.2
  have hf := p_fb_rng (hour := hour) (pad := σ 51 (6 + g).toNat) h hg (by omega)
  simp (disch := first | omega | exact b01_or _) only [b958_0, b958_16, b958_20, m_footBy h hg hh, m_fits h, Option.bind_some, q_push_some, q_push_none]
/-! the class -/
theorem j_max {a b : Int} : ev 1201 0 [qI a, qI b] [] σ = some (some (qI (if a < b then b else a)), σ) := by
  simp (disch := first | omega | exact b01_or _) only [b1201_0, b1201_5, b1201_9, b1201_10]
  split <;> rfl
theorem j_min {a b : Int} : ev 1202 0 [qI a, qI b] [] σ = some (some (qI (if b < a then b else a)), σ) := by
  simp (disch := first | omega | exact b01_or _) only [b1202_0, b1202_5, b1202_9, b1202_10]
  split <;> rfl
theorem q_xor_pos {a b : Int} (ha : 0 ≤ a ∧ a ≤ 2147483647) (hb : 0 ≤ b ∧ b ≤ 2147483647) : ¬ q_xor a b < 0 := by
  obtain ⟨x, rfl⟩ : ∃ x : Nat, a = x := ⟨a.toNat, by omega⟩
  obtain ⟨y, rfl⟩ : ∃ y : Nat, b = y := ⟨b.toNat, by omega⟩
  rw [q_xor_nat (by omega) (by omega)]
  omega
theorem j_floorMod {a : Int} (ha : 0 ≤ a ∧ a ≤ 2147483647) : ev 1200 0 [qI a, qI 24, qU] [] σ = some (some (qI (a % 24)), σ) := by
  have hx := q_xor_pos (a := a % 24) (b := 24) (by omega) (by omega)
  rw [b1200_0 (by omega)]
  first
    | rw [if_neg (q_xor_pos (a := a) (b := 24) ha (by omega)), b1200_18, q_rem_id (by omega)]
    | (rw [q_rem_id (by omega), if_neg hx, b1200_18])
theorem c_has {a k : Int} (ha : 0 ≤ a ∧ a ≤ 2147483647) : ev 848 0 [qI a, qI k] [] σ = some (some (qI (b01 (decide (0 ≤ k) && a.toNat.testBit k.toNat))), σ) := by
  by_cases hk : 0 ≤ k ∧ k < 32
  · have e : q_and (q_shr a k) 1 = b01 (a.toNat.testBit k.toNat) := by
      obtain ⟨s, rfl⟩ : ∃ s : Nat, a = s := ⟨a.toNat, by omega⟩
      obtain ⟨j, rfl⟩ : ∃ j : Nat, k = j := ⟨k.toNat, by omega⟩
      rw [q_bit (by omega) (by omega), Int.toNat_natCast, Int.toNat_natCast]
      rfl
    have h0 : ¬ k < 0 := by omega
    have h1 : 0 ≤ k := hk.1
    simp (disch := first | omega | exact b01_or _) only [b848_0, b848_4, b848_10, b848_19, b848_23, b848_24, e, h0, hk.2, h1, if_true, if_false, decide_true, Bool.true_and]
    cases a.toNat.testBit k.toNat <;> simp [b01]
  · have e : (decide (0 ≤ k) && a.toNat.testBit k.toNat) = false := by
      by_cases h0 : 0 ≤ k
      · have : a.toNat.testBit k.toNat = false := Nat.testBit_lt_two_pow (Nat.lt_of_lt_of_le (show a.toNat < 2 ^ 31 by omega) (Nat.pow_le_pow_right (by omega) (by omega)))
        rw [this, Bool.and_false]
      · simp [h0]
    rw [e]
    simp (disch := first | omega | exact b01_or _) only [b848_0, b848_4, b848_10, b848_19, b848_23, b848_24, b01_f]
    split
    · rfl
    · split
      · omega
      · rfl
theorem c_isHour {x : Int} : ev 849 0 [qI x] [] σ = some (some (qI (b01 (decide (0 ≤ x ∧ x < 24)))), σ) := by
  simp (disch := first | omega | exact b01_or _) only [b849_0, b849_4, b849_10, b849_14, b849_15]
  split
  · rw [← dec_b00 (P := 0 ≤ x ∧ x < 24) (by omega)]
  · split
    · rw [← dec_b01 (P := 0 ≤ x ∧ x < 24) (by omega)]
    · rw [← dec_b00 (P := 0 ≤ x ∧ x < 24) (by omega)]
theorem c_hasHouse {x : Int} (h : RR σ N) : ev 602 0 [qR 12, qI x] [] σ = some (some (qI (b01 (decide (0 ≤ x ∧ x < σ 50 13)))), σ) := by
  have ht := h.t
  simp (disch := first | omega | exact b01_or _) only [b602x0_0, b602x0_4, b602x0_12, b602x0_18, b602x0_22, b602x0_23]
  split
  · rw [← dec_b00 (P := 0 ≤ x ∧ x < σ 50 13) (by omega)]
  · split
    · split
      · rw [← dec_b01 (P := 0 ≤ x ∧ x < σ 50 13) (by omega)]
      · omega
    · rw [← dec_b00 (P := 0 ≤ x ∧ x < σ 50 13) (by omega)]
theorem c_hasGirl {x : Int} (h : RR σ N) : ev 603 0 [qR 12, qI x] [] σ = some (some (qI (b01 (decide (0 ≤ x ∧ x < σ 50 14)))), σ) := by
  have ht := h.t
  simp (disch := first | omega | exact b01_or _) only [b603x0_0, b603x0_4, b603x0_12, b603x0_18, b603x0_22, b603x0_23]
  split
  · rw [← dec_b00 (P := 0 ≤ x ∧ x < σ 50 14) (by omega)]
  · split
    · split
      · rw [← dec_b01 (P := 0 ≤ x ∧ x < σ 50 14) (by omega)]
      · omega
    · rw [← dec_b00 (P := 0 ≤ x ∧ x < σ 50 14) (by omega)]
theorem c_waysFrom {x : Int} (h : RR σ N) (hx : 0 ≤ x ∧ x < σ 50 13) : ev 609 0 [qR 12, qI x] [] σ = some (some (qI (σ 55 x.toNat)), σ) := by
  have ht := h.t
  have hH := h.h hx.1 hx.2
  simp (disch := first | omega | exact b01_or _) only [b609x0_0, b609x0_5, b609x0_8, b609x0_17, b609x0_18, c_hasHouse h, Option.bind_some, q_push_some, q_push_none, b01_eq0, b01_eq1, decide_eq_false_iff_not, decide_eq_true_eq, ite_not, b01_t, b01_f, one_ne0, zero_eq0, ite_true, ite_false, and_self, and_true, true_and, not_true_eq_false, not_false_eq_true, hx.1, hx.2, and_self, if_true, hH.2.1]
theorem c_waysFromX {x : Int} (h : RR σ N) (hx : ¬ (0 ≤ x ∧ x < σ 50 13)) : ev 609 0 [qR 12, qI x] [] σ = some (some (qI 0), σ) := by
  simp (disch := first | omega | exact b01_or _) only [b609x0_0, b609x0_5, b609x0_8, b609x0_17, b609x0_18, c_hasHouse h, Option.bind_some, q_push_some, q_push_none, b01_eq0, b01_eq1, decide_eq_false_iff_not, decide_eq_true_eq, ite_not, b01_t, b01_f, one_ne0, zero_eq0, ite_true, ite_false, and_self, and_true, true_and, not_true_eq_false, not_false_eq_true, hx, if_false]
theorem c_isAfternoon {x : Int} (h : RR σ N) (hx : 0 ≤ x ∧ x ≤ 1000000) : ev 611 0 [qR 12, qI x] [] σ = some (some (qI (b01 (decide (¬ x % 24 < σ 50 3)))), σ) := by
  have ht := h.t
  simp (disch := first | omega | exact b01_or _) only [b611_0, b611_6, b611_13, b611_17, b611_18, j_floorMod (a := x) (by omega), Option.bind_some, q_push_some, q_push_none, ht]
  split
  · rw [← dec_b00 (P := ¬ x % 24 < σ 50 3) (by omega)]
  · rw [← dec_b01 (P := ¬ x % 24 < σ 50 3) (by omega)]
theorem c_glassAfter {t : Int} (h : RR σ N) (ht : 0 ≤ t ∧ t ≤ 100000) : ev 612 0 [qR 12, qI t] [] σ = some (some (qI (p_gl σ t)), σ) := by
  have hT := h.t
  have hr := p_gl_rng h ht
  have e13 := hT.2.2.2.2.2.1
  have e11 := hT.2.2.2.1
  unfold p_gl at hr ⊢
  by_cases h0 : σ 53 2 = 0
  · rw [if_pos h0] at hr ⊢
    have h1 : σ 12 13 < 1 := by omega
    simp (disch := first | omega | exact b01_or _) only [b612_0, b612_8, b612_15, b612_26, h1, if_true, e11]
    rw [Int.add_zero]
  · rw [if_neg h0] at hr ⊢
    have h1 : ¬ σ 12 13 < 1 := by omega
    rw [← e13] at hr ⊢
    simp (disch := first | omega | exact b01_or _) only [b612_0, b612_8, b612_15, b612_26, h1, if_false, e11]
theorem c_fitsGlass {v gl : Int} (h : RR σ N) (hv : -1000000 ≤ v ∧ v ≤ 1000000) (hg : -1000000 ≤ gl ∧ gl ≤ 1000000) : ev 613 0 [qR 12, qI v, qI gl] [] σ = some (some (qI (b01 (p_fit σ v gl))), σ) := by
  have hT := h.t
  simp (disch := first | omega | exact b01_or _) only [b613_0, b613_5, b613_15, b613_19, b613_20]
  unfold p_fit
  split
  · rw [← dec_b00 (P := 0 ≤ gl - v ∧ gl - v ≤ σ 53 1) (by omega)]
  · split
    · rw [← dec_b00 (P := 0 ≤ gl - v ∧ gl - v ≤ σ 53 1) (by omega)]
    · rw [← dec_b01 (P := 0 ≤ gl - v ∧ gl - v ≤ σ 53 1) (by omega)]
theorem c_unswollen {g : Int} (h : RR σ N) (hg : 0 ≤ g ∧ g < σ 50 14) : ev 200 0 [qR 34, qI g, qU] [] σ = some (some (qI (σ 57 g.toNat + σ 54 (σ 51 g.toNat).toNat)), σ) := by
  have ht := h.t
  have hG := h.g hg.1 hg.2
  have e1 : σ 22 g.toNat = σ 51 g.toNat := by omega
  have h1 : ¬ g < 0 := by omega
  have h2 : g < 6 := by omega
  have h3 : ¬ σ 51 g.toNat < 0 := by omega
  have h4 : σ 51 g.toNat < 6 := by omega
  have e2 : σ 13 (σ 51 g.toNat).toNat = σ 54 (σ 51 g.toNat).toNat := by omega
  have e3 : σ 16 g.toNat = σ 57 g.toNat := by omega
  simp (disch := first | omega | exact b01_or _) only [b200_0, b200_4, b200_10, b200_12, b200_26, b200_32, b200_44, b200_63, h1, h2, h3, h4, if_true, if_false, e1, e2, e3]
theorem c_bareFoot {g hour : Int} (h : RR σ N) (hg : 0 ≤ g ∧ g < σ 50 14) (hh : 0 ≤ hour ∧ hour ≤ 1000000) : ev 201 0 [qR 34, qI g, qI hour, qU] [] σ = some (some (qI (p_fb σ g hour 0)), σ) := by
  have ht := h.t
  have hG := h.g hg.1 hg.2
  have e3 : σ 17 g.toNat = σ 58 g.toNat := by omega
  simp (disch := first | omega | exact b01_or _) only [b201_0, b201_8, b201_11, b201_19, b201_22, b201_34, b201_35, b201_41, c_hasGirl h, c_isAfternoon h hh, c_unswollen h hg, Option.bind_some, q_push_some, q_push_none, b01_eq0, b01_eq1, decide_eq_false_iff_not, decide_eq_true_eq, ite_not, b01_t, b01_f, one_ne0, zero_eq0, ite_true, ite_false, and_self, and_true, true_and, not_true_eq_false, not_false_eq_true, hg.1, hg.2, and_self, if_true, e3]
  unfold p_fb
  split
  · exact rI (by omega)
  · exact rI (by omega)
theorem c_paddingOf {g : Int} (h : RR σ N) (hg : 0 ≤ g ∧ g < σ 50 14) : ev 202 0 [qR 34, qI g] [] σ = some (some (qI (σ 51 (6 + g).toNat)), σ) := by
  have ht := h.t
  have hG := h.g hg.1 hg.2
  have e3 : σ 23 g.toNat = σ 51 (6 + g).toNat := by omega
  simp (disch := first | omega | exact b01_or _) only [b202_0, b202_8, b202_11, b202_23, b202_24, c_hasGirl h, Option.bind_some, q_push_some, q_push_none, b01_eq0, b01_eq1, decide_eq_false_iff_not, decide_eq_true_eq, ite_not, b01_t, b01_f, one_ne0, zero_eq0, ite_true, ite_false, and_self, and_true, true_and, not_true_eq_false, not_false_eq_true, hg.1, hg.2, and_self, if_true, e3]
theorem p_fb_pad {g hour pad : Int} : p_fb σ g hour 0 + pad = p_fb σ g hour pad := by
  unfold p_fb
  omega
theorem c_dryFoot {g hour : Int} (h : RR σ N) (hg : 0 ≤ g ∧ g < σ 50 14) (hh : 0 ≤ hour ∧ hour ≤ 1000000) : ev 203 0 [qR 34, qI g, qI hour] [] σ = some (some (qI (p_fb σ g hour (σ 51 (6 + g).toNat))), σ) := by
  have hG := h.g hg.1 hg.2
  have hf := p_fb_rng (hour := hour) (pad := 0) h hg (by omega)
  simp (disch := first | omega | exact b01_or _) only [b203_0, b203_6, b203_11, c_bareFoot h hg hh, c_paddingOf h hg, Option.bind_some, q_push_some, q_push_none, p_fb_pad]
theorem c_isWet {g hour : Int} (h : RR σ N) (hg : 0 ≤ g ∧ g < σ 50 14) (hh : 0 ≤ hour ∧ hour ≤ 1000000) : ev 205 0 [qR 34, qI g, qI hour] [] σ = some (some (qI (b01 (p_soak σ g hour))), σ) := by
  have ht := h.t
  have hn := h.n
  have hG := h.g hg.1 hg.2
  simp (disch := first | omega | exact b01_or _) only [b205_0, b205_8, b205_11, b205_24, b205_39, b205_43, b205_44, c_hasGirl h, Option.bind_some, q_push_some, q_push_none, b01_eq0, b01_eq1, decide_eq_false_iff_not, decide_eq_true_eq, ite_not, b01_t, b01_f, one_ne0, zero_eq0, ite_true, ite_false, and_self, and_true, true_and, not_true_eq_false, not_false_eq_true, hg.1, hg.2, and_self, if_true]
  unfold p_soak
  split
  · rw [← dec_b00 (P := σ 51 (12 + g).toNat ≤ hour ∧ hour ≤ σ 51 (12 + g).toNat + 3) (by omega)]
  · split
    · rw [← dec_b01 (P := σ 51 (12 + g).toNat ≤ hour ∧ hour ≤ σ 51 (12 + g).toNat + 3) (by omega)]
    · rw [← dec_b00 (P := σ 51 (12 + g).toNat ≤ hour ∧ hour ≤ σ 51 (12 + g).toNat + 3) (by omega)]
theorem c_footThen {g hour : Int} (h : RR σ N) (hg : 0 ≤ g ∧ g < σ 50 14) (hh : 0 ≤ hour ∧ hour ≤ 1000000) : ev 204 0 [qR 34, qI g, qI hour, qU] [] σ = some (some (qI (p_ft σ g hour)), σ) := by
  have hG := h.g hg.1 hg.2
  have hf := p_fb_rng (hour := hour) (pad := σ 51 (6 + g).toNat) h hg (by omega)
  simp (disch := first | omega | exact b01_or _) only [b204_0, b204_6, b204_9, b204_13, b204_14, b204_22, b204_27, c_isWet h hg hh, Option.bind_some, q_push_some, q_push_none]
  unfold p_ft
  cases p_soak σ g hour
  · simp (disch := first | omega | exact b01_or _) only [b204_0, b204_6, b204_9, b204_13, b204_14, b204_22, b204_27, c_dryFoot h hg hh, Option.bind_some, q_push_some, q_push_none, j_max, Bool.false_eq_true, b01_eq0, b01_eq1, decide_eq_false_iff_not, decide_eq_true_eq, ite_not, b01_t, b01_f, one_ne0, zero_eq0, ite_true, ite_false, and_self, and_true, true_and, not_true_eq_false, not_false_eq_true]
    exact rI (by split <;> split <;> omega)
  · simp (disch := first | omega | exact b01_or _) only [b204_0, b204_6, b204_9, b204_13, b204_14, b204_22, b204_27, c_dryFoot h hg hh, Option.bind_some, q_push_some, q_push_none, j_max, b01_eq0, b01_eq1, decide_eq_false_iff_not, decide_eq_true_eq, ite_not, b01_t, b01_f, one_ne0, zero_eq0, ite_true, ite_false, and_self, and_true, true_and, not_true_eq_false, not_false_eq_true]
    exact rI (by split <;> split <;> omega)
theorem c_glassNow (h : RR σ N) : ev 207 0 [qR 34] [] σ = some (some (qI (p_gl σ (σ 51 20))), σ) := by
  have hn := h.n
  have e : σ 21 7 = σ 51 20 := by omega
  simp (disch := first | omega | exact b01_or _) only [b207_0, b207_14, e, c_glassAfter h (t := σ 51 20) (by omega), Option.bind_some, q_push_some, q_push_none]
theorem p_ft_rng {g hour : Int} (h : RR σ N) (hg : 0 ≤ g ∧ g < σ 50 14) : 0 ≤ p_ft σ g hour ∧ p_ft σ g hour ≤ 122 := by
  have hG := h.g hg.1 hg.2
  have hf := p_fb_rng (hour := hour) (pad := σ 51 (6 + g).toNat) h hg (by omega)
  unfold p_ft
  split <;> split <;> omega
theorem p_gn_rng (h : RR σ N) : 1 ≤ p_gl σ (σ 51 20) ∧ p_gl σ (σ 51 20) ≤ 100099 := by
  have hn := h.n
  exact p_gl_rng h (by omega)
theorem c_fitsThen {g hour : Int} (h : RR σ N) (hg : 0 ≤ g ∧ g < σ 50 14) (hh : 0 ≤ hour ∧ hour ≤ 1000000) : ev 208 0 [qR 34, qI g, qI hour] [] σ = some (some (qI (b01 (p_fit σ (p_ft σ g hour) (p_gl σ (σ 51 20))))), σ) := by
  have h1 := p_ft_rng (hour := hour) h hg
  have h2 := p_gn_rng h
  simp (disch := first | omega | exact b01_or _) only [b208_0, b208_10, b208_14, b208_17, c_footThen h hg hh, c_glassNow h, c_fitsGlass h, Option.bind_some, q_push_some, q_push_none]
theorem c_fitsBare {g hour : Int} (h : RR σ N) (hg : 0 ≤ g ∧ g < σ 50 14) (hh : 0 ≤ hour ∧ hour ≤ 1000000) : ev 210 0 [qR 34, qI g, qI hour] [] σ = some (some (qI (b01 (p_fit σ (p_fb σ g hour 0) (σ 53 0)))), σ) := by
  have ht := h.t
  have e : σ 12 11 = σ 53 0 := by omega
  have h1 := p_fb_rng (hour := hour) (pad := 0) h hg (by omega)
  simp (disch := first | omega | exact b01_or _) only [b210_0, b210_10, b210_20, c_bareFoot h hg hh, c_fitsGlass h, Option.bind_some, q_push_some, q_push_none, e]
end FT
