/-! ===== next, walker, judge ===== -/
section O7
variable {σ : SS} {N : Int}
theorem j_bc {s : Nat} (hs : s < 64) : ev 1100 0 [qI (s : Int)] [] σ = some (some (qI (bcnt (fun i => s.testBit i) 6 : Nat)), σ) := by
  rw [b1100_0]
  apply rI
  revert s
  decide +kernel
theorem m_onesL {s : Nat} (hs : s < 64) : ∀ (k : Nat) (g : Int), 0 ≤ g → g + k = 6 → ev 903 4 [qI (s : Int), qI (bcnt (fun i => s.testBit i) g.toNat : Nat), qI g] [] σ = some (some (qI (bcnt (fun i => s.testBit i) 6 : Nat)), σ)
  | 0, g, h0, hk => by
    have e : g = 6 := by omega
    rw [b903_4, if_neg (by omega), b903_24, e]; rfl
  | k + 1, g, h0, hk => by
    have hl := bcnt_le (fun i => s.testBit i) g.toNat
    have hb : q_and (q_shr (s : Int) g) 1 = if s.testBit g.toNat then 1 else 0 := by
      have := q_bit (s := s) (k := g.toNat) (by omega) (by omega)
      rw [show ((g.toNat : Nat) : Int) = g by omega] at this
      exact this
    have hr : 0 ≤ q_and (q_shr (s : Int) g) 1 ∧ q_and (q_shr (s : Int) g) 1 ≤ 1 := by rw [hb]; split <;> omega
    have e : ((bcnt (fun i => s.testBit i) g.toNat : Nat) : Int) + q_and (q_shr (s : Int) g) 1 = ((bcnt (fun i => s.testBit i) (g + 1).toNat : Nat) : Int) := by
      rw [show (g + 1).toNat = g.toNat + 1 by omega, bcnt, hb]
      split <;> simp [*]
    rw [b903_4, if_pos (by omega), b903_10 (by omega), e]
    exact m_onesL hs k (g + 1) (by omega) (by omega)
theorem m_ones {s : Nat} (hs : s < 64) : ev 903 0 [qI (s : Int), qU, qU] [] σ = some (some (qI (bcnt (fun i => s.testBit i) 6 : Nat)), σ) := by
  rw [b903_0]
  exact m_onesL hs 6 0 (by omega) (by omega)
/-- how many of the set fit at an hour -/
def p_fo (σ : SS) (s : Nat) (hour : Int) (i : Nat) : Bool := s.testBit i && p_fit σ (p_fb σ i hour 0) (σ 53 0)
theorem c_fitOfL {s : Nat} {hour : Int} (h : RR σ N) (hs : s < 64) (hh : 0 ≤ hour ∧ hour ≤ 23) : ∀ (k : Nat) (g : Int), 0 ≤ g → g + k = σ 50 14 → ev 837 5 [qR 0, qI (s : Int), qI hour, qI (bcnt (p_fo σ s hour) g.toNat : Nat), qI g] [] σ = some (some (qI (bcnt (p_fo σ s hour) (σ 50 14).toNat : Nat)), σ)
  | 0, g, h0, hk => by
    have ht := h.t
    have e : g = σ 50 14 := by omega
    rw [b837_5, if_neg (by omega), b837_48, e]
  | k + 1, g, h0, hk => by
    have ht := h.t
    have hl := bcnt_le (p_fo σ s hour) g.toNat
    have eg : ((g.toNat : Nat) : Int) = g := by omega
    have e1 : (g + 1).toNat = g.toNat + 1 := by omega
    rw [b837_5, if_pos (by omega), b837_17, c_has (by omega), decide_eq_true h0, Bool.true_and, Int.toNat_natCast]
    have ih := c_fitOfL h hs hh k (g + 1) (by omega) (by omega)
    rw [e1, bcnt, p_fo, eg] at ih
    cases c1 : s.testBit g.toNat
    · rw [c1, Bool.false_and] at ih
      simp (disch := first | omega | exact b01_or _) only [Option.bind_some, q_push_some, q_push_none, b837_23, b837_42, b01_eq0, b01_eq1, decide_eq_false_iff_not, decide_eq_true_eq, ite_not, b01_t, b01_f, one_ne0, zero_eq0, Bool.true_eq_false, Bool.false_eq_true, ite_true, ite_false, and_self, and_true, true_and, not_true_eq_false, not_false_eq_true]
      exact ih
    · rw [c1, Bool.true_and] at ih
      simp (disch := first | omega | exact b01_or _) only [Option.bind_some, q_push_some, q_push_none, b837_23, b837_26, c_fitsBare h (show 0 ≤ g ∧ g < σ 50 14 by omega) (hour := hour) (by omega), b01_eq0, b01_eq1, decide_eq_false_iff_not, decide_eq_true_eq, ite_not, b01_t, b01_f, one_ne0, zero_eq0, Bool.true_eq_false, Bool.false_eq_true, ite_true, ite_false, and_self, and_true, true_and, not_true_eq_false, not_false_eq_true]
      cases c2 : p_fit σ (p_fb σ g hour 0) (σ 53 0)
      · rw [c2] at ih
        simp (disch := first | omega | exact b01_or _) only [b837_36, b837_42, b01_eq0, b01_eq1, decide_eq_false_iff_not, decide_eq_true_eq, ite_not, b01_t, b01_f, one_ne0, zero_eq0, Bool.true_eq_false, Bool.false_eq_true, ite_true, ite_false, and_self, and_true, true_and, not_true_eq_false, not_false_eq_true]
        exact ih
      · rw [c2] at ih
        simp (disch := first | omega | exact b01_or _) only [b837_36, b837_39, b837_42, b01_eq0, b01_eq1, decide_eq_false_iff_not, decide_eq_true_eq, ite_not, b01_t, b01_f, one_ne0, zero_eq0, Bool.true_eq_false, Bool.false_eq_true, ite_true, ite_false, and_self, and_true, true_and, not_true_eq_false, not_false_eq_true]
        exact ih
theorem c_fitOf {s : Nat} {hour : Int} (h : RR σ N) (hs : s < 64) (hh : 0 ≤ hour ∧ hour ≤ 23) : ev 837 0 [qR 0, qI (s : Int), qI hour, qU, qU] [] σ = some (some (qI (bcnt (p_fo σ s hour) (σ 50 14).toNat : Nat)), σ) := by
  have ht := h.t
  rw [b837_0]
  exact c_fitOfL h hs hh (σ 50 14).toNat 0 (by omega) (by omega)
theorem m_fitOfL {s : Nat} {hour n b l : Int} (h : RR σ N) (hs : s < 64) (hh : 0 ≤ hour ∧ hour ≤ 23) : ∀ (k : Nat) (g : Int), 0 ≤ g → g + k = σ 50 14 → ev 967 31 [qR 50, qI (s : Int), qI n, qI b, qI l, qI hour, qI (bcnt (p_fo σ s hour) g.toNat : Nat), qI g] [] σ = ev 967 90 [qR 50, qI (s : Int), qI n, qI b, qI l, qI hour, qI (bcnt (p_fo σ s hour) (σ 50 14).toNat : Nat), qI (σ 50 14)] [] σ
  | 0, g, h0, hk => by
    have ht := h.t
    have e : g = σ 50 14 := by omega
    rw [b967_31, if_neg (by omega), e]
  | k + 1, g, h0, hk => by
    have ht := h.t
    have hl := bcnt_le (p_fo σ s hour) g.toNat
    have r3 := p_fb_rng (hour := hour) (pad := 0) (g := g) h (by omega) (by omega)
    have eg : ((g.toNat : Nat) : Int) = g := by omega
    have e1 : (g + 1).toNat = g.toNat + 1 := by omega
    have ih := m_fitOfL (n := n) (b := b) (l := l) h hs hh k (g + 1) (by omega) (by omega)
    rw [e1, bcnt, p_fo, eg] at ih
    have key : ∀ z : Bool, z = (s.testBit g.toNat && p_fit σ (p_fb σ g hour 0) (σ 53 0)) → ev 967 78 [qR 50, qI (s : Int), qI n, qI b, qI l, qI hour, qI (bcnt (p_fo σ s hour) g.toNat : Nat), qI g] [qI (b01 z), qI (bcnt (p_fo σ s hour) g.toNat : Nat)] σ = ev 967 90 [qR 50, qI (s : Int), qI n, qI b, qI l, qI hour, qI (bcnt (p_fo σ s hour) (σ 50 14).toNat : Nat), qI (σ 50 14)] [] σ := by
      intro z hz
      have r := b01_rng z
      rw [← hz] at ih
      simp (disch := first | omega | exact b01_or _) only [b967_78, b967_81, m_one, Option.bind_some, q_push_some, q_push_none]
      rw [← ih]
      cases z <;> rfl
    rw [b967_31, if_pos (by omega), b967_40, m_has (by omega), Int.toNat_natCast]
    cases c1 : s.testBit g.toNat
    · simp (disch := first | omega | exact b01_or _) only [Option.bind_some, q_push_some, q_push_none, b967_48, b967_77, b01_eq0, b01_eq1, decide_eq_false_iff_not, decide_eq_true_eq, ite_not, b01_t, b01_f, one_ne0, zero_eq0, Bool.true_eq_false, Bool.false_eq_true, ite_true, ite_false, and_self, and_true, true_and, not_true_eq_false, not_false_eq_true]
      exact key false (by rw [c1]; rfl)
    · simp (disch := first | omega | exact b01_or _) only [Option.bind_some, q_push_some, q_push_none, b967_48, b967_51, b967_61, m_footBy h (show 0 ≤ g ∧ g < σ 50 14 by omega) (hour := hour) (pad := 0) (by omega) (by omega), m_fits h (v := p_fb σ g hour 0) (gl := σ 53 0) (by omega) (by omega), b01_eq0, b01_eq1, decide_eq_false_iff_not, decide_eq_true_eq, ite_not, b01_t, b01_f, one_ne0, zero_eq0, Bool.true_eq_false, Bool.false_eq_true, ite_true, ite_false, and_self, and_true, true_and, not_true_eq_false, not_false_eq_true]
      cases c2 : p_fit σ (p_fb σ g hour 0) (σ 53 0)
      · simp (disch := first | omega | exact b01_or _) only [b967_70, b967_77, b01_eq0, b01_eq1, decide_eq_false_iff_not, decide_eq_true_eq, ite_not, b01_t, b01_f, one_ne0, zero_eq0, Bool.true_eq_false, Bool.false_eq_true, ite_true, ite_false, and_self, and_true, true_and, not_true_eq_false, not_false_eq_true]
        exact key false (by rw [c1, c2]; rfl)
      · simp (disch := first | omega | exact b01_or _) only [b967_70, b967_73, b01_eq0, b01_eq1, decide_eq_false_iff_not, decide_eq_true_eq, ite_not, b01_t, b01_f, one_ne0, zero_eq0, Bool.true_eq_false, Bool.false_eq_true, ite_true, ite_false, and_self, and_true, true_and, not_true_eq_false, not_false_eq_true]
        exact key true (by rw [c1, c2]; rfl)
/-- the hour that tells most: from hour x on, best so far b with l left -/
def p_next (f : Int → Int) (n : Int) : Nat → Int → Int → Int → Int
  | 0, _, b, _ => b
  | k + 1, x, b, l => if (if f x < n - f x then n - f x else f x) < l then p_next f n k (x + 1) x (if f x < n - f x then n - f x else f x) else p_next f n k (x + 1) b l
theorem c_nextL {s : Nat} {n : Int} (h : RR σ N) (hs : s < 64) (hn : 0 ≤ n ∧ n ≤ 6) : ∀ (k : Nat) (x b l : Int) (v w : AV), 0 ≤ x → x + k = 24 → ev 836 18 [qR 0, qI (s : Int), qI n, qI b, qI l, qI x, v, w] [] σ = some (some (qI (p_next (fun x => (bcnt (p_fo σ s x) (σ 50 14).toNat : Nat)) n k x b l)), σ)
  | 0, x, b, l, v, w, h0, hk => by
    rw [b836_18, if_neg (by omega), b836_65]; rfl
  | k + 1, x, b, l, v, w, h0, hk => by
    have ht := h.t
    have hl := bcnt_le (p_fo σ s x) (σ 50 14).toNat
    rw [b836_18, if_pos (by omega), p_next, b836_25, c_fitOf h hs (by omega)]
    simp (disch := first | omega | exact b01_or _) only [Option.bind_some, q_push_some, q_push_none, b836_32, j_max]
    obtain ⟨c, hc⟩ : ∃ c : Int, c = if (bcnt (p_fo σ s x) (σ 50 14).toNat : Int) < n - (bcnt (p_fo σ s x) (σ 50 14).toNat : Int) then n - (bcnt (p_fo σ s x) (σ 50 14).toNat : Int) else (bcnt (p_fo σ s x) (σ 50 14).toNat : Int) := ⟨_, rfl⟩
    rw [← hc, b836_43]
    by_cases hq : c < l
    · rw [if_pos hq, if_pos hq, b836_52, b836_59 (by omega)]
      exact c_nextL h hs hn k (x + 1) _ _ _ _ (by omega) (by omega)
    · rw [if_neg hq, if_neg hq, b836_59 (by omega)]
      exact c_nextL h hs hn k (x + 1) _ _ _ _ (by omega) (by omega)
theorem m_nextL {s : Nat} {n : Int} (h : RR σ N) (hs : s < 64) (hn : 0 ≤ n ∧ n ≤ 6) : ∀ (k : Nat) (x b l : Int) (v w : AV), 0 ≤ x → x + k = 24 → ev 967 18 [qR 50, qI (s : Int), qI n, qI b, qI l, qI x, v, w] [] σ = some (some (qI (p_next (fun x => (bcnt (p_fo σ s x) (σ 50 14).toNat : Nat)) n k x b l)), σ)
  | 0, x, b, l, v, w, h0, hk => by
    rw [b967_18, if_neg (by omega), b967_130]; rfl
  | k + 1, x, b, l, v, w, h0, hk => by
    have ht := h.t
    have hl := bcnt_le (p_fo σ s x) (σ 50 14).toNat
    have hz := m_fitOfL (n := n) (b := b) (l := l) (hour := x) h hs (by omega) (σ 50 14).toNat 0 (by omega) (by omega)
    rw [b967_18, if_pos (by omega), p_next, b967_25]
    refine Eq.trans hz ?_
    obtain ⟨f, hf⟩ : ∃ f : Int, f = (bcnt (p_fo σ s x) (σ 50 14).toNat : Int) := ⟨_, rfl⟩
    simp only [← hf]
    obtain ⟨c, hc⟩ : ∃ c : Int, c = if f < n - f then n - f else f := ⟨_, rfl⟩
    have step : ev 967 90 [qR 50, qI (s : Int), qI n, qI b, qI l, qI x, qI f, qI (σ 50 14)] [] σ = ev 967 108 [qR 50, qI (s : Int), qI n, qI b, qI l, qI x, qI f, qI (σ 50 14)] [qI c] σ := by
      rw [b967_90 (by omega)]
      by_cases hq : n - f < f
      · rw [if_pos hq, b967_99, hc, if_neg (by omega)]
      · rw [if_neg hq, b967_104 (by omega), hc]
        by_cases hq2 : f < n - f
        · rw [if_pos hq2]
        · rw [if_neg hq2, show n - f = f by omega]
    rw [step, ← hc, b967_108]
    by_cases hq : c < l
    · rw [if_pos hq, if_pos hq, b967_117, b967_124 (by omega)]
      exact m_nextL h hs hn k (x + 1) _ _ _ _ (by omega) (by omega)
    · rw [if_neg hq, if_neg hq, b967_124 (by omega)]
      exact m_nextL h hs hn k (x + 1) _ _ _ _ (by omega) (by omega)
theorem bset_64 {p : Nat → Bool} {n : Nat} (hn : n ≤ 6) : bset p n < 64 := by
  have := bset_lt p n
  have h2 := Nat.pow_le_pow_right (n := 2) (by omega) hn
  omega
theorem op_next (h : RR σ N) (hN : N + 999 ≤ 100000) : Op 836 967 [qR 0, qU, qU, qU, qU, qU, qU, qU] [qR 50, qU, qU, qU, qU, qU, qU, qU] σ N := by
  have ht := h.t
  have hs : bset (p_could σ) (σ 50 14).toNat < 64 := bset_64 (by omega)
  have hl := bcnt_le (fun i => (bset (p_could σ) (σ 50 14).toNat).testBit i) 6
  refine Op.ro h hN (a := p_next (fun x => (bcnt (p_fo σ (bset (p_could σ) (σ 50 14).toNat) x) (σ 50 14).toNat : Nat)) (bcnt (fun i => (bset (p_could σ) (σ 50 14).toNat).testBit i) 6 : Nat) 24 0 (-1) (bcnt (fun i => (bset (p_could σ) (σ 50 14).toNat).testBit i) 6 : Nat)) ?_ ?_
  · simp (disch := first | omega | exact b01_or _) only [b836_0, b836_4, b836_9, c_could h, j_bc hs, Option.bind_some, q_push_some, q_push_none]
    exact c_nextL h hs (by omega) 24 0 _ _ _ _ (by omega) (by omega)
  · simp (disch := first | omega | exact b01_or _) only [b967_0, b967_4, b967_9, m_could h, m_ones hs, Option.bind_some, q_push_some, q_push_none]
    exact m_nextL h hs (by omega) 24 0 _ _ _ _ (by omega) (by omega)
/-- her gait from a letter on goes as the steps -/
def p_walk (σ : SS) (g a : Int) : Nat → Int → Bool
  | 0, _ => true
  | k + 1, i => decide (σ 60 (6 * g + (a + i) % σ 61 g.toNat).toNat = σ 68 i.toNat) && p_walk σ g a k (i + 1)
def p_wfrom (σ : SS) (g a : Int) : Bool := p_walk σ g a (σ 50 37).toNat 0
def p_wany (σ : SS) (g : Int) : Nat → Int → Bool
  | 0, _ => false
  | k + 1, a => p_wfrom σ g a || p_wany σ g k (a + 1)
def p_walker (σ : SS) (g : Nat) : Bool := p_wany σ g (σ 61 g).toNat 0
theorem gait_in {g x : Int} (h : RR σ N) (hg : 0 ≤ g ∧ g < σ 50 14) (hx : 0 ≤ x) : 0 ≤ x % σ 61 g.toNat ∧ x % σ 61 g.toNat < σ 61 g.toNat ∧ σ 19 (6 * g + x % σ 61 g.toNat).toNat = σ 60 (6 * g + x % σ 61 g.toNat).toNat := by
  have hG := h.g hg.1 hg.2
  have r1 := Int.emod_nonneg x (b := σ 61 g.toNat) (by omega)
  have r2 := Int.emod_lt_of_pos x (b := σ 61 g.toNat) (by omega)
  refine ⟨r1, r2, ?_⟩
  obtain ⟨-, -, -, -, -, -, -, -, -, -, -, -, q⟩ := h.1.2.2.2.2 g.toNat (by omega)
  have := (q (x % σ 61 g.toNat).toNat (by omega)).1
  rw [show 6 * g.toNat + (x % σ 61 g.toNat).toNat = (6 * g + x % σ 61 g.toNat).toNat by omega] at this
  exact this
theorem c_letter {g x : Int} (h : RR σ N) (hg : 0 ≤ g ∧ g < σ 50 14) (hx : 0 ≤ x ∧ x ≤ 100) : ev 608 0 [qR 12, qI g, qI x] [] σ = some (some (qI (σ 60 (6 * g + x % σ 61 g.toNat).toNat)), σ) := by
  have hG := h.g hg.1 hg.2
  obtain ⟨r1, r2, e⟩ := gait_in h hg hx.1
  have e1 : σ 20 g.toNat = σ 61 g.toNat := by omega
  have c1 : ¬ x < 0 := by omega
  have c2 : ¬ σ 61 g.toNat < 1 := by omega
  have c3 : ¬ 6 < σ 61 g.toNat := by omega
  simp (disch := first | omega | exact b01_or _) only [b608_0, b608_5, b608_8, b608_12, b608_22, c_hasGirl h, hg.1, hg.2, e1, c1, c2, c3, Option.bind_some, q_push_some, q_push_none, b01_eq0, b01_eq1, decide_eq_false_iff_not, decide_eq_true_eq, ite_not, b01_t, b01_f, one_ne0, zero_eq0, Bool.true_eq_false, Bool.false_eq_true, ite_true, ite_false, and_self, and_true, true_and, not_true_eq_false, not_false_eq_true]
  rw [b608_35 (by rw [e1]; omega), e1, ← e, Int.mul_comm g 6]
theorem c_walkL {g a : Int} (h : RR σ N) (hg : 0 ≤ g ∧ g < σ 50 14) (ha : 0 ≤ a ∧ a ≤ 6) : ∀ (k : Nat) (i : Int), 0 ≤ i → i + k = σ 50 37 → ev 841 2 [qR 0, qI g, qI a, qI i] [] σ = some (some (qI (b01 (p_walk σ g a k i))), σ)
  | 0, i, h0, hk => by
    have hb := h.b
    rw [b841_2, if_neg (by omega), b841_44]; rfl
  | k + 1, i, h0, hk => by
    have hb := h.b
    obtain ⟨e1, r1, r2⟩ := h.2.2.2.1.2.2.1 i.toNat (by omega)
    rw [b841_2, if_pos (by omega), p_walk, b841_13 (by omega), c_letter h hg (by omega)]
    simp (disch := first | omega | exact b01_or _) only [Option.bind_some, q_push_some, q_push_none, b841_24, e1]
    by_cases hc : σ 60 (6 * g + (a + i) % σ 61 g.toNat).toNat = σ 68 i.toNat
    · rw [if_pos hc, b841_38 (by omega), decide_eq_true hc, Bool.true_and]
      exact c_walkL h hg ha k (i + 1) (by omega) (by omega)
    · rw [if_neg hc, b841_36, decide_eq_false hc, Bool.false_and]; rfl
theorem c_walk {g a : Int} (h : RR σ N) (hg : 0 ≤ g ∧ g < σ 50 14) (ha : 0 ≤ a ∧ a ≤ 6) : ev 841 0 [qR 0, qI g, qI a, qU] [] σ = some (some (qI (b01 (p_wfrom σ g a))), σ) := by
  have hb := h.b
  rw [b841_0]
  exact c_walkL h hg ha _ 0 (by omega) (by omega)
theorem c_wanyL {g : Int} (h : RR σ N) (hg : 0 ≤ g ∧ g < σ 50 14) : ∀ (k : Nat) (a : Int), 0 ≤ a → a + k = σ 61 g.toNat → ev 840 2 [qR 0, qI g, qI a] [] σ = some (some (qI (b01 (p_wany σ g k a))), σ)
  | 0, a, h0, hk => by
    have hG := h.g hg.1 hg.2
    rw [b840_2 (by omega), if_neg (by omega), b840_32]; rfl
  | k + 1, a, h0, hk => by
    have hG := h.g hg.1 hg.2
    rw [b840_2 (by omega), if_pos (by omega), p_wany, b840_15, c_walk h hg (by omega)]
    cases c1 : p_wfrom σ g a
    · simp (disch := first | omega | exact b01_or _) only [Option.bind_some, q_push_some, q_push_none, b840_21, b840_26, b01_eq0, b01_eq1, decide_eq_false_iff_not, decide_eq_true_eq, ite_not, b01_t, b01_f, one_ne0, zero_eq0, Bool.true_eq_false, Bool.false_eq_true, ite_true, ite_false, and_self, and_true, true_and, not_true_eq_false, not_false_eq_true, Bool.false_or]
      exact c_wanyL h hg k (a + 1) (by omega) (by omega)
    · simp (disch := first | omega | exact b01_or _) only [Option.bind_some, q_push_some, q_push_none, b840_21, b840_24, b01_eq0, b01_eq1, decide_eq_false_iff_not, decide_eq_true_eq, ite_not, b01_t, b01_f, one_ne0, zero_eq0, Bool.true_eq_false, Bool.false_eq_true, ite_true, ite_false, and_self, and_true, true_and, not_true_eq_false, not_false_eq_true, Bool.true_or]
theorem c_wany {g : Int} (h : RR σ N) (hg : 0 ≤ g ∧ g < σ 50 14) : ev 840 0 [qR 0, qI g, qU] [] σ = some (some (qI (b01 (p_walker σ g.toNat))), σ) := by
  have hG := h.g hg.1 hg.2
  rw [b840_0, p_walker, show ((g.toNat : Nat) : Int) = g by omega]
  exact c_wanyL h hg _ 0 (by omega) (by omega)
theorem c_walkerL (h : RR σ N) : ∀ (k : Nat) (g : Int), 0 ≤ g → g + k = σ 50 14 → ev 839 4 [qR 0, qI (bset (p_walker σ) g.toNat : Nat), qI g] [] σ = some (some (qI (bset (p_walker σ) (σ 50 14).toNat : Nat)), σ)
  | 0, g, h0, hk => by
    have ht := h.t
    have e : g = σ 50 14 := by omega
    rw [b839_4, if_neg (by omega), b839_35, e]
  | k + 1, g, h0, hk => by
    have ht := h.t
    rw [b839_4, if_pos (by omega), b839_15, c_wany h (by omega)]
    by_cases hc : p_walker σ g.toNat = true
    · simp (disch := first | omega | exact b01_or _) only [Option.bind_some, q_push_some, q_push_none, hc, b839_20, b839_23, b839_29, b01_eq0, b01_eq1, decide_eq_false_iff_not, decide_eq_true_eq, ite_not, b01_t, b01_f, one_ne0, zero_eq0, Bool.true_eq_false, Bool.false_eq_true, ite_true, ite_false, and_self, and_true, true_and, not_true_eq_false, not_false_eq_true]
      rw [bsI_yes (by omega) hc]
      exact c_walkerL h k (g + 1) (by omega) (by omega)
    · simp (disch := first | omega | exact b01_or _) only [Option.bind_some, q_push_some, q_push_none, hc, b839_20, b839_23, b839_29, b01_eq0, b01_eq1, decide_eq_false_iff_not, decide_eq_true_eq, ite_not, b01_t, b01_f, one_ne0, zero_eq0, Bool.true_eq_false, Bool.false_eq_true, ite_true, ite_false, and_self, and_true, true_and, not_true_eq_false, not_false_eq_true]
      rw [bsI_no h0 hc]
      exact c_walkerL h k (g + 1) (by omega) (by omega)
theorem m_walkL {g a : Int} (h : RR σ N) (hg : 0 ≤ g ∧ g < σ 50 14) (ha : 0 ≤ a ∧ a ≤ 6) : ∀ (k : Nat) (i : Int) (s : Bool), 0 ≤ i → i + k = σ 50 37 → ev 969 5 [qR 50, qI g, qI a, qI (b01 s), qI i] [] σ = some (some (qI (b01 (s && p_walk σ g a k i))), σ)
  | 0, i, s, h0, hk => by
    rw [b969_5, if_neg (by omega), b969_61 (b01_or _), p_walk, Bool.and_true]
  | k + 1, i, s, h0, hk => by
    have hb := h.b
    have hG := h.g hg.1 hg.2
    obtain ⟨r1, r2, -⟩ := gait_in h hg (x := a + i) (by omega)
    rw [b969_5, if_pos (by omega), p_walk]
    cases s
    · simp (disch := first | omega | exact b01_or _) only [b969_14, b969_61, b01_eq0, b01_eq1, decide_eq_false_iff_not, decide_eq_true_eq, ite_not, b01_t, b01_f, one_ne0, zero_eq0, Bool.true_eq_false, Bool.false_eq_true, ite_true, ite_false, and_self, and_true, true_and, not_true_eq_false, not_false_eq_true, Bool.false_and]
    · rw [b969_14, if_neg (by decide), b969_18 (by omega)]
      by_cases hc : σ 60 (6 * g + (a + i) % σ 61 g.toNat).toNat = σ 68 i.toNat
      · rw [if_pos hc, b969_49, b969_54 (by omega), decide_eq_true hc, Bool.true_and]
        exact m_walkL h hg ha k (i + 1) true (by omega) (by omega)
      · rw [if_neg hc, b969_53, b969_54 (by omega), decide_eq_false hc, Bool.false_and]
        exact m_walkL h hg ha k (i + 1) false (by omega) (by omega)
theorem m_walk {g a : Int} (h : RR σ N) (hg : 0 ≤ g ∧ g < σ 50 14) (ha : 0 ≤ a ∧ a ≤ 6) : ev 969 0 [qR 50, qI g, qI a, qU, qU] [] σ = some (some (qI (b01 (p_wfrom σ g a))), σ) := by
  have hb := h.b
  rw [b969_0]
  have := m_walkL h hg ha (σ 50 37).toNat 0 true (by omega) (by omega)
  rw [Bool.true_and] at this
  exact this
/-- the set so far, with one more member or not -/
theorem bs_one {p : Nat → Bool} {g : Int} {s z : Bool} (hg : 0 ≤ g ∧ g < 31) : q_or (q_or (bset p g.toNat : Int) (q_shl (b01 s) g)) (q_shl (b01 z) g) = q_or (bset p g.toNat : Int) (q_shl (b01 (s || z)) g) := by
  obtain ⟨n, rfl⟩ : ∃ n : Nat, g = n := ⟨g.toNat, by omega⟩
  have h2 : 2 ^ n < 2147483648 := by
    have := Nat.pow_lt_pow_right (a := 2) (by omega) (show n < 31 by omega)
    omega
  have hb : bset p n < 2147483648 := bset_31 (by omega)
  rw [Int.toNat_natCast]
  cases s <;> cases z <;> simp only [b01, Bool.false_or, Bool.true_or, if_true, if_false, Bool.false_eq_true]
  · rw [q_shl0 (by omega), q_or_0 hb, q_or_0 hb]
  · rw [q_shl0 (by omega), q_or_0 hb]
  · rw [q_shl0 (by omega), q_shl1 (by omega), q_or_nat hb h2, q_or_0 (Nat.or_lt_two_pow (n := 31) (by omega) (by omega))]
  · rw [q_shl1 (by omega), q_or_nat hb h2, q_or_nat (Nat.or_lt_two_pow (n := 31) (by omega) (by omega)) h2, Nat.or_assoc, Nat.or_self]
theorem m_wanyL {g : Int} (h : RR σ N) (hg : 0 ≤ g ∧ g < σ 50 14) : ∀ (k : Nat) (a : Int) (s : Bool), 0 ≤ a → a + k = σ 61 g.toNat → ev 970 14 [qR 50, qI (q_or (bset (p_walker σ) g.toNat : Int) (q_shl (b01 s) g)), qI g, qI a] [] σ = ev 970 44 [qR 50, qI (q_or (bset (p_walker σ) g.toNat : Int) (q_shl (b01 (s || p_wany σ g k a)) g)), qI g, qI (σ 61 g.toNat)] [] σ
  | 0, a, s, h0, hk => by
    have hG := h.g hg.1 hg.2
    have e : a = σ 61 g.toNat := by omega
    rw [b970_14 (by omega), if_neg (by omega), p_wany, Bool.or_false, e]
  | k + 1, a, s, h0, hk => by
    have hG := h.g hg.1 hg.2
    rw [b970_14 (by omega), if_pos (by omega), p_wany, b970_24, m_walk h hg (by omega)]
    simp (disch := first | omega | exact b01_or _) only [Option.bind_some, q_push_some, q_push_none, b970_31, b970_34, m_one]
    rw [bs_one (by omega), m_wanyL h hg k (a + 1) _ (by omega) (by omega), Bool.or_assoc]
theorem m_walkerL (h : RR σ N) : ∀ (k : Nat) (g : Int) (v : AV), 0 ≤ g → g + k = σ 50 14 → ev 970 4 [qR 50, qI (bset (p_walker σ) g.toNat : Nat), qI g, v] [] σ = some (some (qI (bset (p_walker σ) (σ 50 14).toNat : Nat)), σ)
  | 0, g, v, h0, hk => by
    have e : g = σ 50 14 := by omega
    rw [b970_4, if_neg (by omega), b970_50, e]
  | k + 1, g, v, h0, hk => by
    have ht := h.t
    have hG := h.g h0 (by omega)
    have e0 : (bset (p_walker σ) g.toNat : Int) = q_or (bset (p_walker σ) g.toNat : Int) (q_shl (b01 false) g) := by
      obtain ⟨n, rfl⟩ : ∃ n : Nat, g = n := ⟨g.toNat, by omega⟩
      rw [Int.toNat_natCast, b01_f, q_shl0 (by omega), q_or_0 (bset_31 (by omega))]
    rw [b970_4, if_pos (by omega), b970_12, e0, m_wanyL h (by omega) (σ 61 g.toNat).toNat 0 false (by omega) (by omega), Bool.false_or, bsI_one (by omega) (by rw [p_walker, show ((g.toNat : Nat) : Int) = g by omega]), b970_44 (by omega)]
    exact m_walkerL h k (g + 1) _ (by omega) (by omega)
theorem op_walker (h : RR σ N) (hN : N + 999 ≤ 100000) : Op 839 970 [qR 0, qU, qU] [qR 50, qU, qU, qU] σ N := by
  have ht := h.t
  refine Op.ro h hN (a := (bset (p_walker σ) (σ 50 14).toNat : Nat)) ?_ ?_
  · rw [b839_0]
    exact c_walkerL h (σ 50 14).toNat 0 (by omega) (by omega)
  · rw [b970_0]
    exact m_walkerL h (σ 50 14).toNat 0 _ (by omega) (by omega)
/-- the first line that is not so -/
def p_bad (σ : SS) (i : Int) : Bool := decide (b01 (p_dry σ (σ 70 i.toNat) (σ 69 i.toNat) (σ 53 0)) ≠ σ 71 i.toNat)
theorem c_judgeL (h : RR σ N) : ∀ (k : Nat) (i : Int) (v : AV), 0 ≤ i → i + k = σ 50 41 → ev 844 2 [qR 0, qI i, v] [] σ = some (some (qI (fst1 (p_bad σ) k i)), σ)
  | 0, i, v, h0, hk => by
    have hb := h.b
    rw [b844_2, if_neg (by omega), b844_74]; rfl
  | k + 1, i, v, h0, hk => by
    have hb := h.b
    have ht := h.t
    obtain ⟨e1, e2, e3, r1, r2, r3, r4, -⟩ := h.2.2.2.1.2.2.2 i.toNat (by omega)
    have hG := h.g r3 r4
    have rr := p_fb_rng (hour := σ 69 i.toNat) (pad := σ 51 (6 + σ 70 i.toNat).toNat) h ⟨r3, r4⟩ (by omega)
    have e4 : σ 12 11 = σ 53 0 := by omega
    rw [b844_2, if_pos (by omega), fst1, p_bad, b844_13 (by omega), e1, e2, c_dryFoot h ⟨r3, r4⟩ (by omega)]
    simp (disch := first | omega | exact b01_or _) only [Option.bind_some, q_push_some, q_push_none, b844_38, b844_54, e3, e4, c_fitsGlass h (v := p_fb σ (σ 70 i.toNat) (σ 69 i.toNat) (σ 51 (6 + σ 70 i.toNat).toNat)) (gl := σ 53 0) (by omega) (by omega)]
    unfold p_dry
    by_cases hc : b01 (p_fit σ (p_fb σ (σ 70 i.toNat) (σ 69 i.toNat) (σ 51 (6 + σ 70 i.toNat).toNat)) (σ 53 0)) = σ 71 i.toNat
    · rw [if_pos hc, b844_68 (by omega), if_neg (by simp [hc])]
      exact c_judgeL h k (i + 1) _ (by omega) (by omega)
    · rw [if_neg hc, b844_66, if_pos (by simp [hc])]
theorem m_judgeL (h : RR σ N) : ∀ (k : Nat) (i : Int), 0 ≤ i → i + k = σ 50 41 → ev 973 2 [qR 50, qI i] [] σ = some (some (qI (fst1 (p_bad σ) k i)), σ)
  | 0, i, h0, hk => by
    rw [b973_2, if_neg (by omega), b973_49]; rfl
  | k + 1, i, h0, hk => by
    have hb := h.b
    have ht := h.t
    obtain ⟨e1, e2, e3, r1, r2, r3, r4, -⟩ := h.2.2.2.1.2.2.2 i.toNat (by omega)
    rw [b973_2, if_pos (by omega), fst1, p_bad, b973_10 (by omega), m_fitsDry h ⟨r3, r4⟩ (by omega) (by omega)]
    simp (disch := first | omega | exact b01_or _) only [Option.bind_some, q_push_some, q_push_none, b973_32]
    unfold p_dry
    by_cases hc : b01 (p_fit σ (p_fb σ (σ 70 i.toNat) (σ 69 i.toNat) (σ 51 (6 + σ 70 i.toNat).toNat)) (σ 53 0)) = σ 71 i.toNat
    · rw [if_pos hc, b973_43 (by omega), if_neg (by simp [hc])]
      exact m_judgeL h k (i + 1) (by omega) (by omega)
    · rw [if_neg hc, b973_41, if_pos (by simp [hc])]
theorem op_judge (h : RR σ N) (hN : N + 999 ≤ 100000) : Op 844 973 [qR 0, qU, qU] [qR 50, qU] σ N := by
  have hb := h.b
  refine Op.ro h hN (a := fst1 (p_bad σ) (σ 50 41).toNat 0) ?_ ?_
  · rw [b844_0]
    exact c_judgeL h _ 0 _ (by omega) (by omega)
  · rw [b973_0]
    exact m_judgeL h _ 0 (by omega) (by omega)
end O7
