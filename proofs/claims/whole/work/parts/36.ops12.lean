section O13
variable {σ : SS} {N : Int}
theorem RR.sisM (h : RR σ N) {f : Nat → Int} : RR (sM σ f) N := by
  have hn := h.n
  have := h.cg2 (σ1 := σ) (σ2 := sM σ f) (N' := N) (by omega) (by omega) (fun _ _ => rfl) (fun k hk => sM_ne (by rintro rfl; revert hk; decide))
  have e : mix σ (sM σ f) = sM σ f := by
    funext k
    unfold mix
    split
    · rw [sM_ne (by omega)]
    · rfl
  rw [e] at this
  exact this
theorem c_winL {f t : Nat → Int} (h : RR σ N) (hf : s_ok (σ 50 14).toNat f) (hB : s_B σ t) : ∀ (k : Nat) (g b : Int) (v : AV), 0 ≤ g → g + k = σ 50 14 → (b = -1 ∨ (0 ≤ b ∧ b < g)) → ev 3 4 [qR 47, qI b, qI g, v] [] (sC σ f t) = some (some (qI (s_win (s_F σ) f k g b)), sC σ f t)
  | 0, g, b, v, h0, hk, hb => by
    have ht := h.t
    have e10 : sC σ f t 12 10 = σ 50 14 := by rw [sC_ne (by decide)]; omega
    rw [b3_4, e10, if_neg (by omega), b3_74]; rfl
  | k + 1, g, b, v, h0, hk, hb => by
    have ht := h.t
    have hfg := hf g.toNat (by omega)
    have hbg := hB g.toNat (by omega)
    have hlt := bset_31 (p := fun x => s_F σ g.toNat x) (n := 24) (by omega)
    have e10 : sC σ f t 12 10 = σ 50 14 := by rw [sC_ne (by decide)]; omega
    have e48 : ∀ i, sC σ f t 48 i = f i := fun i => rfl
    have e49 : ∀ i, sC σ f t 49 i = t i := fun i => rfl
    have hbit : (decide (0 ≤ f g.toNat) && (t g.toNat).toNat.testBit (f g.toNat).toNat) = s_F σ g.toNat (f g.toNat) := by
      rw [hbg, Int.toNat_natCast, bset_tb, decide_eq_true hfg.1, decide_eq_true (show (f g.toNat).toNat < 24 by omega), Bool.true_and, Bool.true_and, show (((f g.toNat).toNat : Nat) : Int) = f g.toNat by omega]
    have yes : ev 3 43 [qR 47, qI b, qI g, v] [qI 1] (sC σ f t) = if s_F σ g.toNat (f g.toNat) = true then some (some (qI (s_win (s_F σ) f k (g + 1) g)), sC σ f t) else some (some (qI (s_win (s_F σ) f k (g + 1) b)), sC σ f t) := by
      rw [b3_43, if_neg (by decide), b3_48 (by omega), e48, e49, c_has (by omega), hbit, Option.bind_some, q_push_some]
      dsimp only
      cases hq : s_F σ g.toNat (f g.toNat)
      · rw [b3_63, if_pos b01_f, b3_68 (by omega), if_neg (by decide)]
        exact c_winL h hf hB k (g + 1) b _ (by omega) (by omega) (by omega)
      · rw [b3_63, if_neg (by decide), b3_66, b3_68 (by omega), if_pos rfl]
        exact c_winL h hf hB k (g + 1) g _ (by omega) (by omega) (by omega)
    rw [b3_4, e10, if_pos (by omega), b3_18, s_win]
    by_cases hz : b = -1
    · rw [if_pos hz, b3_38, yes]
      by_cases hq : s_F σ g.toNat (f g.toNat) = true
      · rw [if_pos hq, if_pos ⟨Or.inl hz, hq⟩]
      · rw [if_neg hq, if_neg (fun z => hq z.2)]
    · rw [if_neg hz, b3_23 (by omega), e48, e48]
      by_cases hl : f g.toNat < f b.toNat
      · rw [if_pos hl, b3_38, yes]
        by_cases hq : s_F σ g.toNat (f g.toNat) = true
        · rw [if_pos hq, if_pos ⟨Or.inr hl, hq⟩]
        · rw [if_neg hq, if_neg (fun z => hq z.2)]
      · rw [if_neg hl, b3_42, b3_43, if_pos rfl, b3_68 (by omega), if_neg (fun z => by rcases z.1 with y | y <;> omega)]
        exact c_winL h hf hB k (g + 1) b _ (by omega) (by omega) (by omega)
theorem c_win {f t : Nat → Int} (h : RR σ N) (hf : s_ok (σ 50 14).toNat f) (hB : s_B σ t) : ev 3 0 [qR 47, qU, qU, qU] [] (sC σ f t) = some (some (qI (s_win (s_F σ) f (σ 50 14).toNat 0 (-1))), sC σ f t) := by
  have ht := h.t
  rw [b3_0]
  exact c_winL h hf hB _ 0 _ _ (by omega) (by omega) (Or.inl rfl)
theorem m_winL {f : Nat → Int} (h : RR σ N) (hf : s_ok (σ 50 14).toNat f) : ∀ (k : Nat) (g b : Int) (v : AV), 0 ≤ g → g + k = σ 50 14 → (b = -1 ∨ (0 ≤ b ∧ b < g)) → ev 961 4 [qR 50, qI b, qI g, v] [] (sM σ f) = some (some (qI (s_win (s_F σ) f k g b)), sM σ f)
  | 0, g, b, v, h0, hk, hb => by
    have e14 : sM σ f 50 14 = σ 50 14 := rfl
    rw [b961_4, e14, if_neg (by omega), b961_63]; rfl
  | k + 1, g, b, v, h0, hk, hb => by
    have ht := h.t
    have hfg := hf g.toNat (by omega)
    have e14 : sM σ f 50 14 = σ 50 14 := rfl
    have e65 : ∀ i, sM σ f 65 i = f i := fun i => rfl
    have hR := h.sisM (f := f)
    have r2 := p_gn_rng hR
    have eg : ((g.toNat : Nat) : Int) = g := by omega
    have hq : p_fit (sM σ f) (p_fb (sM σ f) g (f g.toNat) (sM σ f 51 (6 + g).toNat)) (p_gl (sM σ f) (sM σ f 51 20)) = s_F σ g.toNat (f g.toNat) := by
      unfold s_F
      rw [eg]
      rfl
    rw [b961_4, e14, if_pos (by omega), b961_12 (by omega), m_glassNow hR, e65, Option.bind_some, q_push_some]
    dsimp only
    rw [b961_24, m_fitsDry hR (by rw [e14]; omega) (by omega) (by omega), hq, Option.bind_some, q_push_some]
    dsimp only
    rw [b961_27, s_win]
    cases hc : s_F σ g.toNat (f g.toNat)
    · rw [if_pos b01_f, b961_55, b961_56 (by omega), if_neg (fun z => by cases z.2)]
      exact m_winL h hf k (g + 1) b _ (by omega) (by omega) (by omega)
    · rw [if_neg (by decide), b961_32]
      by_cases hz : b = -1
      · rw [if_pos (by omega), b961_51, b961_56 (by omega), if_pos ⟨Or.inl hz, rfl⟩]
        exact m_winL h hf k (g + 1) g _ (by omega) (by omega) (by omega)
      · rw [if_neg (by omega), b961_36 (by omega), e65, e65]
        by_cases hl : f g.toNat < f b.toNat
        · rw [if_pos hl, b961_51, b961_56 (by omega), if_pos ⟨Or.inr hl, rfl⟩]
          exact m_winL h hf k (g + 1) g _ (by omega) (by omega) (by omega)
        · rw [if_neg hl, b961_55, b961_56 (by omega), if_neg (fun z => by rcases z.1 with y | y <;> omega)]
          exact m_winL h hf k (g + 1) b _ (by omega) (by omega) (by omega)
theorem m_win {f : Nat → Int} (h : RR σ N) (hf : s_ok (σ 50 14).toNat f) : ev 961 0 [qR 50, qU, qU, qU] [] (sM σ f) = some (some (qI (s_win (s_F σ) f (σ 50 14).toNat 0 (-1))), sM σ f) := by
  have ht := h.t
  rw [b961_0]
  exact m_winL h hf _ 0 _ _ (by omega) (by omega) (Or.inl rfl)
/-- she takes a winning hour -/
theorem c_takeL {f t : Nat → Int} {g : Int} (h : RR σ N) (hf : s_ok (σ 50 14).toNat f) (hB : s_B σ t) (hg : 0 ≤ g ∧ g < σ 50 14) : ∀ (k : Nat) (x : Int) (f0 : Nat → Int), 0 ≤ x → x + k = 24 → (∀ y, updn f0 g.toNat y = updn f g.toNat y) → ev 2 9 [qR 47, qI g, qI (f g.toNat), qI x] [] (sC σ f0 t) = match s_take (s_F σ) (σ 50 14).toNat f g.toNat k x with
    | some f' => some (some (qI 1), sC σ f' t)
    | none => some (some (qI 0), sC σ f t)
  | 0, x, f0, h0, hk, e => by
    have ht := h.t
    rw [b2_9, if_neg (by omega), b2_38 (by omega), sC_48, e, s_take]
    have : updn f g.toNat (f g.toNat) = f := by
      funext j
      unfold updn
      split
      · subst j; rfl
      · rfl
    rw [this]
  | k + 1, x, f0, h0, hk, e => by
    have ht := h.t
    rw [b2_9, if_pos (by omega), b2_15 (by omega), sC_48, e, c_win h (s_ok_up hf (by omega)) hB, Option.bind_some, q_push_some]
    dsimp only
    rw [b2_26, s_take, show ((g.toNat : Nat) : Int) = g by omega]
    by_cases hc : s_win (s_F σ) (updn f g.toNat x) (σ 50 14).toNat 0 (-1) = g
    · rw [if_pos hc, if_pos hc, b2_30]
    · rw [if_neg hc, if_neg hc, b2_32 (by omega)]
      exact c_takeL h hf hB hg k (x + 1) _ (by omega) (by omega) (fun y => updn_two)
theorem c_oneX {f t : Nat → Int} {g : Int} {c : Bool} (h : RR σ N) (hf : s_ok (σ 50 14).toNat f) (hB : s_B σ t) (hg : 0 ≤ g ∧ g < σ 50 14) : ev 1 18 [qR 47, qI (b01 c), qI g] [] (sC σ f t) = ev 1 4 [qR 47, qI (b01 (c || (s_one (s_F σ) (σ 50 14).toNat f g.toNat).2)), qI (g + 1)] [] (sC σ (s_one (s_F σ) (σ 50 14).toNat f g.toNat).1 t) := by
  have ht := h.t
  rw [b1_18, c_win h hf hB, Option.bind_some, q_push_some]
  dsimp only
  rw [b1_22, s_one, show ((g.toNat : Nat) : Int) = g by omega]
  have no : ev 1 34 [qR 47, qI (b01 c), qI g] [] (sC σ f t) = ev 1 4 [qR 47, qI (b01 c), qI (g + 1)] [] (sC σ f t) := by
    cases c
    · rw [b1_34, if_pos b01_f, b1_42, b1_43 (by omega)]; rfl
    · rw [b1_34, if_neg (by decide), b1_38, b1_43 (by omega)]; rfl
  by_cases hc : s_win (s_F σ) f (σ 50 14).toNat 0 (-1) = g
  · rw [if_pos hc, if_pos hc, no, Bool.or_false]
  · have hT := c_takeL h hf hB hg 24 0 f (by omega) (by omega) (fun _ => rfl)
    rw [if_neg hc, if_neg hc, b1_26, b2_0 (by omega), show sC σ f t 48 g.toNat = f g.toNat from rfl, hT]
    cases s_take (s_F σ) (σ 50 14).toNat f g.toNat 24 0 with
    | none =>
      dsimp only
      rw [Option.bind_some, q_push_some]
      dsimp only
      rw [b1_31, if_pos rfl, no, Bool.or_false]
    | some f' =>
      dsimp only
      rw [Option.bind_some, q_push_some]
      dsimp only
      rw [b1_31, if_neg (by decide), b1_38, b1_43 (by omega), Bool.or_true]; rfl
theorem c_rndL {t : Nat → Int} (h : RR σ N) (hB : s_B σ t) : ∀ (k : Nat) (g : Int) (f : Nat → Int) (c : Bool), s_ok (σ 50 14).toNat f → 0 ≤ g → g + k = σ 50 14 → ev 1 4 [qR 47, qI (b01 c), qI g] [] (sC σ f t) = some (some (qI (b01 (s_rnd (s_F σ) (σ 50 14).toNat k g f c).2)), sC σ (s_rnd (s_F σ) (σ 50 14).toNat k g f c).1 t)
  | 0, g, f, c, hf, h0, hk => by
    have ht := h.t
    have e10 : sC σ f t 12 10 = σ 50 14 := by rw [sC_ne (by decide)]; omega
    rw [b1_4, e10, if_neg (by omega), b1_50 (b01_or _)]; rfl
  | k + 1, g, f, c, hf, h0, hk => by
    have ht := h.t
    have e10 : sC σ f t 12 10 = σ 50 14 := by rw [sC_ne (by decide)]; omega
    rw [b1_4, e10, if_pos (by omega), c_oneX h hf hB (by omega), s_rnd]
    exact c_rndL h hB k (g + 1) _ _ (s_one_ok hf) (by omega) (by omega)
theorem c_playL {t : Nat → Int} (h : RR σ N) (hB : s_B σ t) : ∀ (k : Nat) (r : Int) (f : Nat → Int), s_ok (σ 50 14).toNat f → 0 ≤ r → r + k = 30 → ev 0 45 [qR 47, qI r] [] (sC σ f t) = some (some (qI (s_play (s_F σ) (σ 50 14).toNat k r f).1), sC σ (s_play (s_F σ) (σ 50 14).toNat k r f).2 t)
  | 0, r, f, hf, h0, hk => by
    have e : r = 30 := by omega
    rw [b0_45, if_neg (by omega), b0_66, s_play, e]
  | k + 1, r, f, hf, h0, hk => by
    have ht := h.t
    have hr := c_rndL h hB (σ 50 14).toNat 0 f false hf (by omega) (by omega)
    rw [b0_45, if_pos (by omega), b0_51, b1_0]
    refine Eq.trans (congrArg (fun z => Option.bind z _) hr) ?_
    rw [Option.bind_some, q_push_some, s_play]
    dsimp only
    rw [b0_55]
    by_cases hc : (s_rnd (s_F σ) (σ 50 14).toNat (σ 50 14).toNat 0 f false).2 = true
    · rw [if_pos hc, hc, if_neg (by decide), b0_60 (by omega)]
      exact c_playL h hB k (r + 1) _ (s_rnd_ok hf) (by omega) (by omega)
    · have hc' : (s_rnd (s_F σ) (σ 50 14).toNat (σ 50 14).toNat 0 f false).2 = false := by simpa using hc
      rw [if_neg hc, hc', if_pos b01_f, b0_58]
theorem c_resetL (h : RR σ N) : ∀ (k : Nat) (g : Int) (f t : Nat → Int), 0 ≤ g → g + k = σ 50 14 → (∀ i : Nat, (i : Int) < g → f i = 0 ∧ t i = ((bset (fun x => s_F σ i x) 24 : Nat) : Int)) → ∃ f' t', ev 0 2 [qR 47, qI g] [] (sC σ f t) = ev 0 43 [qR 47, qI (σ 50 14)] [] (sC σ f' t') ∧ (∀ i : Nat, (i : Int) < σ 50 14 → f' i = 0) ∧ s_B σ t'
  | 0, g, f, t, h0, hk, hi => by
    have ht := h.t
    have e10 : sC σ f t 12 10 = σ 50 14 := by rw [sC_ne (by decide)]; omega
    have e : g = σ 50 14 := by omega
    refine ⟨f, t, ?_, fun i hx => (hi i (by omega)).1, fun i hx => (hi i (by omega)).2⟩
    rw [b0_2, e10, if_neg (by omega), e]
  | k + 1, g, f, t, h0, hk, hi => by
    have ht := h.t
    have e10 : sC σ f t 12 10 = σ 50 14 := by rw [sC_ne (by decide)]; omega
    have hR := h.sisC (f := updn f g.toNat 0) (t := t)
    have e14 : sC σ (updn f g.toNat 0) t 50 14 = σ 50 14 := rfl
    have hd := c_dryHours hR (g := g) (by rw [e14]; omega)
    have eB : bset (fun i => p_dry (sC σ (updn f g.toNat 0) t) g i (p_gl (sC σ (updn f g.toNat 0) t) (sC σ (updn f g.toNat 0) t 51 20))) 24 = bset (fun x => s_F σ g.toNat x) 24 := by
      apply bset_congr
      intro i _
      unfold s_F
      rw [show ((g.toNat : Nat) : Int) = g by omega]
      rfl
    rw [eB] at hd
    obtain ⟨f', t', e1, e2, e3⟩ := c_resetL h k (g + 1) (updn f g.toNat 0) (updn t g.toNat ((bset (fun x => s_F σ g.toNat x) 24 : Nat) : Int)) (by omega) (by omega) (fun i hx => by
      by_cases hig : i = g.toNat
      · subst hig
        exact ⟨updn_same, updn_same⟩
      · rw [updn_ne hig, updn_ne hig]
        exact hi i (by omega))
    refine ⟨f', t', ?_, e2, e3⟩
    rw [b0_2, e10, if_pos (by omega), b0_16 (by omega), sC_48, hd, Option.bind_some, q_push_some]
    dsimp only
    rw [b0_36 (by omega), sC_49]
    exact e1
theorem s_play_ok {F : Nat → Int → Bool} {n : Nat} : ∀ {k : Nat} {r : Int} {f : Nat → Int}, s_ok n f → s_ok n (s_play F n k r f).2
  | 0, _, _, h => h
  | k + 1, r, f, h => by
    unfold s_play
    split
    · exact s_play_ok (s_rnd_ok h)
    · exact s_rnd_ok h
theorem updn_self {f : Nat → Int} {g : Nat} : updn f g (f g) = f := by
  funext j
  unfold updn
  split
  · subst j; rfl
  · rfl
theorem m_takeL {f : Nat → Int} {g : Int} (h : RR σ N) (hf : s_ok (σ 50 14).toNat f) (hg : 0 ≤ g ∧ g < σ 50 14) : ∀ (k : Nat) (x : Int) (f0 : Nat → Int), 0 ≤ x → x + k = 24 → s_ok (σ 50 14).toNat f0 → (∀ y, updn f0 g.toNat y = updn f g.toNat y) → s_win (s_F σ) f0 (σ 50 14).toNat 0 (-1) ≠ g → ∃ x' f1, ev 962 9 [qR 50, qI g, qI (f g.toNat), qI x] [] (sM σ f0) = ev 962 36 [qR 50, qI g, qI (f g.toNat), qI x'] [] (sM σ f1) ∧ s_ok (σ 50 14).toNat f1 ∧ (∀ y, updn f1 g.toNat y = updn f g.toNat y) ∧ ((s_take (s_F σ) (σ 50 14).toNat f g.toNat k x = some f1 ∧ s_win (s_F σ) f1 (σ 50 14).toNat 0 (-1) = g) ∨ (s_take (s_F σ) (σ 50 14).toNat f g.toNat k x = none ∧ s_win (s_F σ) f1 (σ 50 14).toNat 0 (-1) ≠ g))
  | 0, x, f0, h0, hk, hf0, e, hw => by
    refine ⟨x, f0, ?_, hf0, e, Or.inr ⟨rfl, hw⟩⟩
    rw [b962_9, if_neg (by omega)]
  | k + 1, x, f0, h0, hk, hf0, e, hw => by
    have ht := h.t
    have st : ev 962 9 [qR 50, qI g, qI (f g.toNat), qI x] [] (sM σ f0) = ev 962 9 [qR 50, qI g, qI (f g.toNat), qI (x + 1)] [] (sM σ (updn f g.toNat x)) := by
      rw [b962_9, if_pos (by omega), b962_15, m_win h hf0, Option.bind_some, q_push_some]
      dsimp only
      rw [b962_19, if_neg hw, b962_23 (by omega), sM_65, e]
    have hok := s_ok_up (g := g.toNat) hf (show 0 ≤ x ∧ x < 24 by omega)
    rw [st, s_take, show ((g.toNat : Nat) : Int) = g by omega]
    by_cases hc : s_win (s_F σ) (updn f g.toNat x) (σ 50 14).toNat 0 (-1) = g
    · rw [if_pos hc]
      refine ⟨x + 1, updn f g.toNat x, ?_, hok, fun y => updn_two, Or.inl ⟨rfl, hc⟩⟩
      by_cases hx : x + 1 < 24
      · rw [b962_9, if_pos hx, b962_15, m_win h hok, Option.bind_some, q_push_some]
        dsimp only
        rw [b962_19, if_pos hc]
      · rw [b962_9, if_neg hx]
    · rw [if_neg hc]
      exact m_takeL h hf hg k (x + 1) _ (by omega) (by omega) hok (fun y => updn_two) hc
theorem m_take {f : Nat → Int} {g : Int} (h : RR σ N) (hf : s_ok (σ 50 14).toNat f) (hg : 0 ≤ g ∧ g < σ 50 14) (hw : s_win (s_F σ) f (σ 50 14).toNat 0 (-1) ≠ g) : ev 962 0 [qR 50, qI g, qU, qU] [] (sM σ f) = match s_take (s_F σ) (σ 50 14).toNat f g.toNat 24 0 with
    | some f' => some (some (qI 1), sM σ f')
    | none => some (some (qI 0), sM σ f) := by
  have ht := h.t
  have hfg := hf g.toNat (by omega)
  obtain ⟨x', f1, e1, ok1, up1, hc⟩ := m_takeL h hf hg 24 0 f (by omega) (by omega) hf (fun _ => rfl) hw
  rw [b962_0 (by omega), show sM σ f 65 g.toNat = f g.toNat from rfl]
  refine Eq.trans e1 ?_
  rw [b962_36, m_win h ok1, Option.bind_some, q_push_some]
  dsimp only
  rw [b962_40]
  rcases hc with ⟨t1, t2⟩ | ⟨t1, t2⟩
  · have hne : ¬ f1 g.toNat = f g.toNat := by
      intro z
      have := up1 (f1 g.toNat)
      rw [updn_self, z, updn_self] at this
      rw [this] at t2
      exact hw t2
    rw [if_pos t2, b962_44, b962_49, if_neg (by decide), b962_59 (by omega), show sM σ f1 65 g.toNat = f1 g.toNat from rfl, b962_69 (by omega), sM_65, updn_self, show sM σ f1 65 g.toNat = f1 g.toNat from rfl, if_neg hne, b962_80, b962_85 (by omega), t1]
  · rw [if_neg t2, b962_48, b962_49, if_pos rfl, b962_68, b962_69 (by omega), sM_65, up1, updn_self, show sM σ f 65 g.toNat = f g.toNat from rfl, if_pos rfl, b962_84, b962_85 (by omega), t1]
theorem m_oneX {f : Nat → Int} {g w y r : Int} {c : Bool} {v : AV} (h : RR σ N) (hf : s_ok (σ 50 14).toNat f) (hg : 0 ≤ g ∧ g < σ 50 14) : ∃ v', ev 963 83 [qR 50, qI w, qI y, qI r, qI (b01 c), qI g, v] [] (sM σ f) = ev 963 74 [qR 50, qI w, qI y, qI r, qI (b01 (c || (s_one (s_F σ) (σ 50 14).toNat f g.toNat).2)), qI (g + 1), v'] [] (sM σ (s_one (s_F σ) (σ 50 14).toNat f g.toNat).1) := by
  have ht := h.t
  have go : ∀ (d : Bool) (f2 : Nat → Int), ev 963 106 [qR 50, qI w, qI y, qI r, qI (b01 c), qI g, v] [qI (b01 d)] (sM σ f2) = ev 963 74 [qR 50, qI w, qI y, qI r, qI (b01 (c || d)), qI (g + 1), qI (b01 d)] [] (sM σ f2) := by
    intro d f2
    cases c
    · cases d
      · rw [b963_106, if_pos b01_f, b963_113, if_pos b01_f, b963_122, b963_123 (by omega)]; rfl
      · rw [b963_106, if_pos b01_f, b963_113, if_neg (by decide), b963_118, b963_123 (by omega)]; rfl
    · rw [b963_106, if_neg (by decide), b963_118, b963_123 (by omega)]; rfl
  rw [b963_83, m_win h hf, Option.bind_some, q_push_some]
  dsimp only
  rw [b963_87, s_one, show ((g.toNat : Nat) : Int) = g by omega]
  by_cases hc : s_win (s_F σ) f (σ 50 14).toNat 0 (-1) = g
  · refine ⟨qI (b01 false), ?_⟩
    rw [if_pos hc, if_pos hc, b963_105]
    exact go false f
  · rw [if_neg hc, if_neg hc, b963_92, m_take h hf hg hc]
    cases s_take (s_F σ) (σ 50 14).toNat f g.toNat 24 0 with
    | none =>
      refine ⟨qI (b01 false), ?_⟩
      dsimp only
      rw [Option.bind_some, q_push_some]
      dsimp only
      rw [b963_98, if_pos rfl, b963_105]
      exact go false f
    | some f' =>
      refine ⟨qI (b01 true), ?_⟩
      dsimp only
      rw [Option.bind_some, q_push_some]
      dsimp only
      rw [b963_98, if_neg (by decide), b963_101]
      exact go true f'
theorem m_rndL {w y r : Int} (h : RR σ N) : ∀ (k : Nat) (g : Int) (f : Nat → Int) (c : Bool) (v : AV), s_ok (σ 50 14).toNat f → 0 ≤ g → g + k = σ 50 14 → ∃ v', ev 963 74 [qR 50, qI w, qI y, qI r, qI (b01 c), qI g, v] [] (sM σ f) = ev 963 131 [qR 50, qI w, qI y, qI r, qI (b01 (s_rnd (s_F σ) (σ 50 14).toNat k g f c).2), qI (σ 50 14), v'] [] (sM σ (s_rnd (s_F σ) (σ 50 14).toNat k g f c).1)
  | 0, g, f, c, v, hf, h0, hk => by
    have e : g = σ 50 14 := by omega
    refine ⟨v, ?_⟩
    rw [b963_74, show sM σ f 50 14 = σ 50 14 from rfl, if_neg (by omega), e]; rfl
  | k + 1, g, f, c, v, hf, h0, hk => by
    obtain ⟨v1, e1⟩ := m_oneX (w := w) (y := y) (r := r) (c := c) (v := v) (g := g) h hf (by omega)
    obtain ⟨v2, e2⟩ := m_rndL (w := w) (y := y) (r := r) h k (g + 1) _ (c || (s_one (s_F σ) (σ 50 14).toNat f g.toNat).2) v1 (s_one_ok (F := s_F σ) hf (g := g.toNat)) (by omega) (by omega)
    refine ⟨v2, ?_⟩
    rw [b963_74, show sM σ f 50 14 = σ 50 14 from rfl, if_pos (by omega), e1, s_rnd]
    exact e2
theorem m_playL {w y : Int} (h : RR σ N) : ∀ (k : Nat) (r : Int) (f : Nat → Int) (v5 v6 : AV), s_ok (σ 50 14).toNat f → 0 ≤ r → r + k = 30 → ∃ c' v5' v6', ev 963 57 [qR 50, qI w, qI y, qI r, qI 1, v5, v6] [] (sM σ f) = ev 963 142 [qR 50, qI w, qI y, qI (s_play (s_F σ) (σ 50 14).toNat k r f).1, qI c', v5', v6'] [] (sM σ (s_play (s_F σ) (σ 50 14).toNat k r f).2)
  | 0, r, f, v5, v6, hf, h0, hk => by
    refine ⟨1, v5, v6, ?_⟩
    rw [b963_57, if_neg (by decide), b963_62, if_neg (by omega)]; rfl
  | k + 1, r, f, v5, v6, hf, h0, hk => by
    have ht := h.t
    obtain ⟨v1, e1⟩ := m_rndL (w := w) (y := y) (r := r) h (σ 50 14).toNat 0 f false v6 hf (by omega) (by omega)
    rw [b963_57, if_neg (by decide), b963_62, if_pos (by omega), b963_68, s_play]
    have st : ∀ c : Bool, ev 963 131 [qR 50, qI w, qI y, qI r, qI (b01 c), qI (σ 50 14), v1] [] (sM σ (s_rnd (s_F σ) (σ 50 14).toNat (σ 50 14).toNat 0 f false).1) = ev 963 57 [qR 50, qI w, qI y, qI (r + b01 c), qI (b01 c), qI (σ 50 14), v1] [] (sM σ (s_rnd (s_F σ) (σ 50 14).toNat (σ 50 14).toNat 0 f false).1) := by
      intro c
      have rc := b01_rng c
      rw [b963_131, m_one, Option.bind_some, q_push_some]
      dsimp only
      rw [b963_137 (by omega)]
    by_cases hc : (s_rnd (s_F σ) (σ 50 14).toNat (σ 50 14).toNat 0 f false).2 = true
    · rw [if_pos hc]
      rw [hc, st true] at e1
      obtain ⟨c2, a2, b2, e2⟩ := m_playL (w := w) (y := y) h k (r + 1) _ (qI (σ 50 14)) v1 (s_rnd_ok (F := s_F σ) (n := (σ 50 14).toNat) (k := (σ 50 14).toNat) (g := 0) (c := false) hf) (by omega) (by omega)
      exact ⟨c2, a2, b2, Eq.trans e1 e2⟩
    · have hc' : (s_rnd (s_F σ) (σ 50 14).toNat (σ 50 14).toNat 0 f false).2 = false := by simpa using hc
      rw [if_neg hc]
      rw [hc', st false] at e1
      refine ⟨b01 false, qI (σ 50 14), v1, Eq.trans e1 ?_⟩
      rw [b963_57, if_pos b01_f, b01_f, Int.add_zero]
theorem m_resetL {σ : SS} {w y : Int} : ∀ (k : Nat) (x : Int) (f : Nat → Int), 0 ≤ x → x + k = 6 → (∀ i : Nat, (i : Int) < x → f i = 0) → ∃ f', ev 963 33 [qR 50, qI w, qI y, qI x, qU, qU, qU] [] (sM σ f) = ev 963 52 [qR 50, qI w, qI y, qI 6, qU, qU, qU] [] (sM σ f') ∧ ∀ i : Nat, i < 6 → f' i = 0
  | 0, x, f, h0, hk, hi => by
    have e : x = 6 := by omega
    refine ⟨f, ?_, fun i hx => hi i (by omega)⟩
    rw [b963_33, if_neg (by omega), e]
  | k + 1, x, f, h0, hk, hi => by
    obtain ⟨f', e1, e2⟩ := m_resetL k (x + 1) (updn f x.toNat 0) (by omega) (by omega) (fun i hx => by
      by_cases hix : i = x.toNat
      · subst hix
        exact updn_same
      · rw [updn_ne hix]
        exact hi i (by omega))
    refine ⟨f', ?_, e2⟩
    rw [b963_33, if_pos (by omega), b963_39 (by omega), sM_65]
    exact e1
theorem op_sisters {w g : Int} (h : RR σ N) (hN : N + 999 ≤ 100000) : Op 830 963 [qR 0, qI w, qI g, qU] [qR 50, qI w, qI g, qU, qU, qU, qU] σ N := by
  have ht := h.t
  have bad : (w = 2 → 0 ≤ g ∧ g < σ 50 14) → (0 ≤ w ∧ w ≤ 2) → Op 830 963 [qR 0, qI w, qI g, qU] [qR 50, qI w, qI g, qU, qU, qU, qU] σ N := by
    intro hg hw
    have c1 : ¬ w < 0 := by omega
    have c2 : ¬ 2 < w := by omega
    have cA : ev 830 0 [qR 0, qI w, qI g, qU] [] σ = ev 830 31 [qR 0, qI w, qI g, qU] [] σ := by
      by_cases h2 : w = 2
      · have hg' := hg h2
        simp (disch := first | omega | exact b01_or _) only [b830_0, b830_5, b830_13, b830_19, b830_23, c_hasGirl h, hg'.1, hg'.2, h2, Option.bind_some, q_push_some, q_push_none, b01_eq0, b01_eq1, decide_eq_false_iff_not, decide_eq_true_eq, ite_not, b01_t, b01_f, one_ne0, zero_eq0, Bool.true_eq_false, Bool.false_eq_true, ite_true, ite_false, and_self, and_true, true_and, not_true_eq_false, not_false_eq_true, Int.reduceLT]
      · simp (disch := first | omega | exact b01_or _) only [b830_0, b830_19, b830_23, h2, c1, c2, if_false]
    have mA : ev 963 0 [qR 50, qI w, qI g, qU, qU, qU, qU] [] σ = ev 963 33 [qR 50, qI w, qI g, qI 0, qU, qU, qU] [] σ := by
      by_cases h2 : w = 2
      · have hg' := hg h2
        simp (disch := first | omega | exact b01_or _) only [b963_0, b963_5, b963_10, b963_16, b963_25, b963_31, m_isGirl h, m_in, hg'.1, hg'.2, h2, Option.bind_some, q_push_some, q_push_none, b01_eq0, b01_eq1, decide_eq_false_iff_not, decide_eq_true_eq, ite_not, b01_t, b01_f, one_ne0, zero_eq0, Bool.true_eq_false, Bool.false_eq_true, ite_true, ite_false, and_self, and_true, true_and, not_true_eq_false, not_false_eq_true, Int.reduceLE]
      · simp (disch := first | omega | exact b01_or _) only [b963_0, b963_16, b963_25, b963_31, m_in, h2, hw.1, hw.2, Option.bind_some, q_push_some, q_push_none, b01_eq0, b01_eq1, decide_eq_false_iff_not, decide_eq_true_eq, ite_not, b01_t, b01_f, one_ne0, zero_eq0, Bool.true_eq_false, Bool.false_eq_true, ite_true, ite_false, and_self, and_true, true_and, not_true_eq_false, not_false_eq_true]
    obtain ⟨f, t, ce1, ce2, hB⟩ := c_resetL h (σ 50 14).toNat 0 (σ 48) (σ 49) (by omega) (by omega) (fun i hi => by omega)
    obtain ⟨f', me1, me2⟩ := m_resetL (σ := σ) (w := w) (y := g) 6 0 (σ 65) (by omega) (by omega) (fun i hi => by omega)
    rw [sC_id] at ce1
    rw [sM_id] at me1
    have hf : s_ok (σ 50 14).toNat f := fun i hi => by rw [ce2 i (by omega)]; omega
    have hf' : s_ok (σ 50 14).toNat f' := fun i hi => by rw [me2 i (by omega)]; omega
    have heq : s_eq (σ 50 14).toNat f f' := fun i hi => by rw [ce2 i (by omega), me2 i (by omega)]
    obtain ⟨p1, p2⟩ := s_play_cg (F := s_F σ) (n := (σ 50 14).toNat) (k := 30) (r := 0) heq
    have cP := c_playL h hB 30 0 f hf (by omega) (by omega)
    obtain ⟨c', v5, v6, mP⟩ := m_playL (w := w) (y := g) h 30 0 f' qU qU hf' (by omega) (by omega)
    have okc := s_play_ok (F := s_F σ) (n := (σ 50 14).toNat) (k := 30) (r := 0) hf
    have okm := s_play_ok (F := s_F σ) (n := (σ 50 14).toNat) (k := 30) (r := 0) hf'
    have cB : ev 830 31 [qR 0, qI w, qI g, qU] [] σ = ev 830 38 [qR 0, qI w, qI g, qU] [qI (s_play (s_F σ) (σ 50 14).toNat 30 0 f).1] (sC σ (s_play (s_F σ) (σ 50 14).toNat 30 0 f).2 t) := by
      rw [b830_31, b0_0, ce1, b0_43, cP, Option.bind_some, q_push_some]
    have mB : ev 963 33 [qR 50, qI w, qI g, qI 0, qU, qU, qU] [] σ = ev 963 142 [qR 50, qI w, qI g, qI (s_play (s_F σ) (σ 50 14).toNat 30 0 f).1, qI c', v5, v6] [] (sM σ (s_play (s_F σ) (σ 50 14).toNat 30 0 f').2) := by
      rw [me1, b963_52, p1]
      exact mP
    have fin : RR (mix (sC σ (s_play (s_F σ) (σ 50 14).toNat 30 0 f).2 t) (sM σ (s_play (s_F σ) (σ 50 14).toNat 30 0 f').2)) (N + 999) := h.cg2 (by omega) hN (fun k hk => sC_ne (by constructor <;> (rintro rfl; revert hk; decide))) (fun k hk => sM_ne (by rintro rfl; revert hk; decide))
    have hw3 : w = 0 ∨ w = 1 ∨ w = 2 := by omega
    rcases hw3 with rfl | rfl | rfl
    · refine ⟨(s_play (s_F σ) (σ 50 14).toNat 30 0 f).1, _, _, ?_, ?_, fin⟩
      · rw [cA, cB, b830_38, if_pos rfl, b830_43]
      · rw [mA, mB, b963_142, if_pos rfl, b963_146, b963_168]
    · refine ⟨s_win (s_F σ) (s_play (s_F σ) (σ 50 14).toNat 30 0 f).2 (σ 50 14).toNat 0 (-1), _, _, ?_, ?_, fin⟩
      · rw [cA, cB, b830_38, if_neg (by decide), b830_45, if_pos rfl, b830_50, c_win h okc hB, Option.bind_some, q_push_some]
        dsimp only
        rw [b830_57, b830_69]
      · rw [mA, mB, b963_142, if_neg (by decide), b963_150, if_pos rfl, b963_155, m_win h okm, Option.bind_some, q_push_some]
        dsimp only
        rw [b963_159, b963_168, s_win_cg p2 (by omega) (by omega) (Or.inl rfl)]
    · have hg' := hg rfl
      refine ⟨(s_play (s_F σ) (σ 50 14).toNat 30 0 f).2 g.toNat, _, _, ?_, ?_, fin⟩
      · rw [cA, cB, b830_38, if_neg (by decide), b830_45, if_neg (by decide), b830_60 (by omega), b830_69]; rfl
      · rw [mA, mB, b963_142, if_neg (by decide), b963_150, if_neg (by decide), b963_162 (by omega), b963_168, p2 g.toNat (by omega)]; rfl
  by_cases hg : w = 2 → 0 ≤ g ∧ g < σ 50 14
  · by_cases hw : 0 ≤ w ∧ w ≤ 2
    · exact bad hg hw
    · have w2 : ¬ w = 2 := by omega
      refine Op.ro h hN (a := -1000000002) ?_ ?_
      · by_cases c1 : w < 0
        · simp (disch := first | omega | exact b01_or _) only [b830_0, b830_19, b830_28, w2, c1, if_true, if_false]
        · have c2 : 2 < w := by omega
          simp (disch := first | omega | exact b01_or _) only [b830_0, b830_19, b830_23, b830_28, w2, c1, c2, if_true, if_false]
      · simp (disch := first | omega | exact b01_or _) only [b963_0, b963_16, b963_25, b963_28, m_in, w2, hw, Option.bind_some, q_push_some, q_push_none, b01_eq0, b01_eq1, decide_eq_false_iff_not, decide_eq_true_eq, ite_not, b01_t, b01_f, one_ne0, zero_eq0, Bool.true_eq_false, Bool.false_eq_true, ite_true, ite_false, and_self, and_true, true_and, not_true_eq_false, not_false_eq_true]
  · have w2 : w = 2 := Classical.byContradiction fun z => hg (fun y => absurd y z)
    have hg' : ¬ (0 ≤ g ∧ g < σ 50 14) := fun z => hg (fun _ => z)
    refine Op.ro h hN (a := -1000000001) ?_ ?_
    · simp (disch := first | omega | exact b01_or _) only [b830_0, b830_5, b830_13, b830_16, w2, c_hasGirl h, hg', Option.bind_some, q_push_some, q_push_none, b01_eq0, b01_eq1, decide_eq_false_iff_not, decide_eq_true_eq, ite_not, b01_t, b01_f, one_ne0, zero_eq0, Bool.true_eq_false, Bool.false_eq_true, ite_true, ite_false, and_self, and_true, true_and, not_true_eq_false, not_false_eq_true]
    · simp (disch := first | omega | exact b01_or _) only [b963_0, b963_5, b963_10, b963_13, w2, m_isGirl h, hg', Option.bind_some, q_push_some, q_push_none, b01_eq0, b01_eq1, decide_eq_false_iff_not, decide_eq_true_eq, ite_not, b01_t, b01_f, one_ne0, zero_eq0, Bool.true_eq_false, Bool.false_eq_true, ite_true, ite_false, and_self, and_true, true_and, not_true_eq_false, not_false_eq_true]
end O13
