/-! ===== round ===== -/
theorem fst1_skip {Q : Int → Bool} : ∀ {m k : Nat} {g : Int}, (∀ x, g ≤ x → x < g + m → Q x = false) → fst1 Q (m + k) g = fst1 Q k (g + m)
  | 0, k, g, h => by rw [Nat.zero_add, show g + ((0 : Nat) : Int) = g by omega]
  | m + 1, k, g, h => by
    rw [show m + 1 + k = (m + k) + 1 by omega, fst1, h g (by omega) (by omega), if_neg (by simp), fst1_skip (fun x h1 h2 => h x (by omega) (by omega)), show g + 1 + (m : Int) = g + ((m + 1 : Nat) : Int) by omega]
theorem fst1_congr {Q R : Int → Bool} : ∀ {k : Nat} {g : Int}, (∀ x, g ≤ x → x < g + k → Q x = R x) → fst1 Q k g = fst1 R k g
  | 0, _, _ => rfl
  | k + 1, g, h => by
    unfold fst1
    rw [h g (by omega) (by omega), fst1_congr (fun x h1 h2 => h x (by omega) (by omega))]
theorem fst1_spec {Q : Int → Bool} : ∀ {k : Nat} {g : Int}, 0 ≤ g → fst1 Q k g ≠ -1 → Q (fst1 Q k g) = true
  | 0, _, _, h => absurd rfl h
  | k + 1, g, h0, h => by
    unfold fst1 at h ⊢
    by_cases hq : Q g = true
    · rw [if_pos hq]; exact hq
    · rw [if_neg hq] at h ⊢
      exact fst1_spec (by omega) h
theorem fst1_ex {Q : Int → Bool} : ∀ {k : Nat} {g x : Int}, 0 ≤ g → g ≤ x → x < g + k → Q x = true → fst1 Q k g ≠ -1
  | 0, _, _, _, _, _, _ => by omega
  | k + 1, g, x, h0, h1, h2, hq => by
    unfold fst1
    by_cases hg : Q g = true
    · rw [if_pos hg]; omega
    · rw [if_neg hg]
      by_cases e : g = x
      · subst e; exact absurd hq hg
      · exact fst1_ex (by omega) (by omega) (by omega) hq
section O17
variable {σ : SS} {N : Int}
/-- both distances say the same to an hour of the round -/
theorem g_dd {A : Nat → Nat → Bool} {goal i : Nat} {x : Int} (hx : x ≤ 48) : g_D A goal 49 i 5 ≤ x ↔ g_D A goal 99999999 i 5 ≤ x := by
  by_cases hS : g_S A goal 5 i = true
  · obtain ⟨a1, a2, a3, a4⟩ := g_D_in (d := 49) hS
    obtain ⟨b1, b2, b3, b4⟩ := g_D_in (d := 99999999) hS
    have q1 := a4 _ b3
    have q2 := b4 _ a3
    omega
  · rw [g_D_out hS, g_D_out hS]
    omega
theorem g_D_0 {A : Nat → Nat → Bool} {goal i : Nat} {d : Int} (hd : 0 ≤ d) : 0 ≤ g_D A goal d i 5 := by
  by_cases hS : g_S A goal 5 i = true
  · exact (g_D_in (d := d) hS).1
  · rw [g_D_out hS]; exact hd
def r_fit (σ : SS) (g x : Int) : Bool := p_fit σ (p_ft σ g (σ 51 21 + x)) (p_gl σ (σ 51 20))
def r_goal (σ : SS) (g : Int) : Nat := (σ 51 g.toNat).toNat
def r_d (σ : SS) (g : Int) (i : Nat) : Int := g_D (g_A σ) (r_goal σ g) 99999999 i 5
def r_Q (σ : SS) (g x : Int) : Bool := decide (r_d σ g (σ 51 22).toNat ≤ x) && r_fit σ g x
def r_h (σ : SS) (g : Int) : Int := fst1 (r_Q σ g) 49 0
theorem c_hoursL {g : Int} {f : Nat → Int} (h : RR σ N) (hg : 0 ≤ g ∧ g < σ 50 14) : ∀ (k : Nat) (x : Int), 0 ≤ x → x + k = 49 → ev 700 58 [qR 42, qI g, qR 12, qR 21, qI x] [] (tC σ f) = some (some (qI (fst1 (r_fit σ g) k x)), tC σ f)
  | 0, x, h0, hk => by
    rw [b700_58, if_pos (by omega), b700_92]; rfl
  | k + 1, x, h0, hk => by
    have hn := h.n
    have e3 : tC σ f 21 3 = σ 51 21 := by rw [tC_ne (by decide)]; omega
    have c := c_fitsThen (h.tourC (f := f)) (g := g) (hour := σ 51 21 + x) hg (by omega)
    rw [b700_58, if_neg (by omega), b700_65 (by rw [e3]; omega), e3, c, Option.bind_some, q_push_some]
    dsimp only
    rw [b700_80, fst1]
    have e : p_fit (tC σ f) (p_ft (tC σ f) g (σ 51 21 + x)) (p_gl (tC σ f) (tC σ f 51 20)) = r_fit σ g x := rfl
    rw [e]
    cases r_fit σ g x
    · rw [if_pos b01_f, b700_86 (by omega), if_neg (by decide)]
      exact c_hoursL h hg k (x + 1) (by omega) (by omega)
    · rw [if_neg (by decide), b700_83, if_pos rfl]
theorem c_hours {g : Int} (h : RR σ N) (hg : 0 ≤ g ∧ g < σ 50 14) : ∃ f, ev 700 0 [qR 42, qI g, qU, qU, qU] [] σ = some (some (qI (r_h σ g)), tC σ f) ∧ ∀ i : Nat, i < 6 → f i = g_D (g_A σ) (r_goal σ g) 49 i 5 := by
  have hn := h.n
  have ht := h.t
  have hG := h.g hg.1 hg.2
  obtain ⟨f, e1, e2⟩ := c_dist (goal := r_goal σ g) h (by unfold r_goal; omega)
  refine ⟨f, ?_, e2⟩
  have e22 : σ 22 g.toNat = ((r_goal σ g : Nat) : Int) := by unfold r_goal; omega
  have e4 : σ 21 4 = σ 51 22 := by omega
  have e4' : tC σ f 21 4 = σ 51 22 := by rw [tC_ne (by decide)]; omega
  have e43 : tC σ f 43 (σ 51 22).toNat = f (σ 51 22).toNat := rfl
  rw [b700_0, c_hasGirl h, decide_eq_true hg, Option.bind_some, q_push_some]
  dsimp only
  rw [b700_21, if_neg (by decide), b700_24, e4, c_hasHouse h, decide_eq_true (show 0 ≤ σ 51 22 ∧ σ 51 22 < σ 50 13 by omega), Option.bind_some, q_push_some]
  dsimp only
  rw [b700_32, if_neg (by decide), b700_37 (by omega), e22, e1, Option.bind_some, q_push_none]
  dsimp only
  rw [b700_47 (by rw [e4']; omega), e4', e43, e2 _ (by omega)]
  have d0 := g_D_0 (A := g_A σ) (goal := r_goal σ g) (i := (σ 51 22).toNat) (d := 49) (by omega)
  by_cases hS : g_S (g_A σ) (r_goal σ g) 5 (σ 51 22).toNat = true
  · obtain ⟨a1, a2, a3, a4⟩ := g_D_in (d := 49) hS
    obtain ⟨d, hd⟩ : ∃ d : Nat, g_D (g_A σ) (r_goal σ g) 49 (σ 51 22).toNat 5 = d := ⟨_, (Int.toNat_of_nonneg a1).symm⟩
    rw [hd, c_hoursL h hg (49 - d) d (by omega) (by omega)]
    apply rI
    unfold r_h
    rw [show 49 = d + (49 - d) by omega, fst1_skip (fun x h1 h2 => by
      unfold r_Q r_d
      have := (g_dd (A := g_A σ) (goal := r_goal σ g) (i := (σ 51 22).toNat) (x := x) (by omega))
      rw [decide_eq_false (by omega), Bool.false_and])]
    rw [show (0 : Int) + (d : Int) = d by omega, show d + (49 - d) - d = 49 - d by omega]
    apply fst1_congr
    intro x h1 h2
    unfold r_Q r_d
    have := (g_dd (A := g_A σ) (goal := r_goal σ g) (i := (σ 51 22).toNat) (x := x) (by omega))
    rw [decide_eq_true (by omega), Bool.true_and]
  · rw [g_D_out hS, b700_58, if_pos (by omega), b700_92]
    apply rI
    unfold r_h
    rw [fst1_none (fun x h1 h2 => by
      unfold r_Q r_d
      rw [g_D_out hS, decide_eq_false (by omega), Bool.false_and])]
theorem m_soonL {g : Int} {f : Nat → Int} (h : RR σ N) (hg : 0 ≤ g ∧ g < σ 50 14) (hf : ∀ i : Nat, i < 6 → f i = r_d σ g i) : ∀ (k : Nat) (x : Int), 0 ≤ x → x + k = 49 → ev 945 12 [qR 50, qI g, qI x] [] (tM σ f) = some (some (qI (fst1 (r_Q σ g) k x)), tM σ f)
  | 0, x, h0, hk => by
    rw [b945_12, if_pos (by omega), b945_67]; rfl
  | k + 1, x, h0, hk => by
    have hn := h.n
    have hR := h.tourM (f := f)
    have r1 := p_ft_rng (hour := σ 51 21 + x) hR hg
    have r2 := p_gn_rng hR
    have e22 : tM σ f 51 22 = σ 51 22 := rfl
    have e21 : tM σ f 51 21 = σ 51 21 := rfl
    have e63 : tM σ f 63 (σ 51 22).toNat = r_d σ g (σ 51 22).toNat := by show f _ = _; exact hf _ (by omega)
    rw [b945_12, if_neg (by omega), b945_18 (by rw [e22]; omega), e22, e63, fst1]
    unfold r_Q
    by_cases hd : x < r_d σ g (σ 51 22).toNat
    · rw [if_pos hd, b945_61 (by omega), decide_eq_false (show ¬ r_d σ g (σ 51 22).toNat ≤ x by omega), Bool.false_and, if_neg (by decide)]
      exact m_soonL h hg hf k (x + 1) (by omega) (by omega)
    · rw [if_neg hd, b945_34 (by rw [e21]; omega), e21, m_footAt hR hg (by omega), Option.bind_some, q_push_some]
      dsimp only
      rw [b945_49, m_glassNow hR, Option.bind_some, q_push_some]
      dsimp only
      rw [b945_53, m_fits hR (by omega) (by omega), Option.bind_some, q_push_some]
      dsimp only
      have e : p_fit (tM σ f) (p_ft (tM σ f) g (σ 51 21 + x)) (p_gl (tM σ f) (tM σ f 51 20)) = r_fit σ g x := rfl
      rw [e, b945_56, decide_eq_true (show r_d σ g (σ 51 22).toNat ≤ x by omega), Bool.true_and]
      cases r_fit σ g x
      · rw [if_pos b01_f, b945_61 (by omega), if_neg (by decide)]
        exact m_soonL h hg hf k (x + 1) (by omega) (by omega)
      · rw [if_neg (by decide), b945_59, if_pos rfl]
theorem m_soon {g : Int} (h : RR σ N) (hg : 0 ≤ g ∧ g < σ 50 14) : ∃ f, ev 945 0 [qR 50, qI g, qU] [] σ = some (some (qI (r_h σ g)), tM σ f) ∧ ∀ i : Nat, i < 6 → f i = r_d σ g i := by
  have hG := h.g hg.1 hg.2
  obtain ⟨f, e1, e2⟩ := m_far (goal := r_goal σ g) h (by unfold r_goal; omega)
  refine ⟨f, ?_, e2⟩
  have e51 : σ 51 g.toNat = ((r_goal σ g : Nat) : Int) := by unfold r_goal; omega
  rw [b945_0 (by omega), e51, e1, Option.bind_some, q_push_none]
  dsimp only
  rw [b945_10]
  exact m_soonL h hg e2 49 0 (by omega) (by omega)
/-- where he may go in an hour and still be in time -/
def r_P (σ : SS) (g a left x : Int) : Bool := (decide (x = a) || g_A σ a.toNat x.toNat) && decide (r_d σ g x.toNat ≤ left)
theorem c_leastL2 {g a left : Int} {f : Nat → Int} (h : RR σ N) (ha : 0 ≤ a ∧ a < σ 50 13) (hl : left ≤ 48) (hf : ∀ i : Nat, i < 6 → f i = g_D (g_A σ) (r_goal σ g) 49 i 5) {re : Nat} (hre : re < 64) (hb : ∀ i : Nat, i < 6 → re.testBit i = (decide ((i : Int) = a) || g_A σ a.toNat i)) : ∀ (k : Nat) (x : Int), 0 ≤ x → x + k = 6 → fst1 (r_P σ g a left) k x ≠ -1 → ev 704 15 [qR 42, qI a, qI left, qI (re : Int), qI x] [] (tC σ f) = some (some (qI (fst1 (r_P σ g a left) k x)), tC σ f)
  | 0, x, h0, hk, hne => absurd rfl hne
  | k + 1, x, h0, hk, hne => by
    have ex : ((x.toNat : Nat) : Int) = x := by omega
    have hq : (re.testBit x.toNat && decide (f x.toNat ≤ left)) = r_P σ g a left x := by
      unfold r_P r_d
      rw [hb _ (by omega), hf _ (by omega), ex, dec_iff (g_dd hl)]
    have e43 : tC σ f 43 x.toNat = f x.toNat := rfl
    rw [b704_15, if_pos (by omega), b704_22, c_has (by omega), decide_eq_true h0, Bool.true_and, Int.toNat_natCast, Option.bind_some, q_push_some]
    dsimp only
    unfold fst1 at hne ⊢
    rw [← hq] at hne ⊢
    cases hbt : re.testBit x.toNat
    · rw [hbt, Bool.false_and, if_neg (by decide)] at hne
      rw [b704_28, if_pos b01_f, b704_45 (by omega), Bool.false_and, if_neg (by decide)]
      exact c_leastL2 h ha hl hf hre hb k (x + 1) (by omega) (by omega) hne
    · rw [hbt, Bool.true_and] at hne
      rw [b704_28, if_neg (by decide), b704_31 (by omega), e43, Bool.true_and]
      by_cases hd : left < f x.toNat
      · rw [decide_eq_false (show ¬ f x.toNat ≤ left by omega), if_neg (by decide)] at hne
        rw [if_pos hd, b704_45 (by omega), decide_eq_false (show ¬ f x.toNat ≤ left by omega), if_neg (by decide)]
        exact c_leastL2 h ha hl hf hre hb k (x + 1) (by omega) (by omega) hne
      · rw [if_neg hd, b704_42, decide_eq_true (show f x.toNat ≤ left by omega), if_pos rfl]
theorem c_reached {a : Int} {f : Nat → Int} (h : RR σ N) (ha : 0 ≤ a ∧ a < σ 50 13) : ∃ re : Nat, ev 610 0 [qR 12, qI a] [] (tC σ f) = some (some (qI (re : Int)), tC σ f) ∧ re < 64 ∧ ∀ i : Nat, i < 6 → re.testBit i = (decide ((i : Int) = a) || g_A σ a.toNat i) := by
  have ht := h.t
  have hH := h.h ha.1 ha.2
  have hR := h.tourC (f := f)
  have hp : 2 ^ a.toNat < 64 := by
    have := Nat.pow_lt_pow_right (a := 2) (by omega) (show a.toNat < 6 by omega)
    omega
  have e14 : tC σ f 14 a.toNat = (((σ 55 a.toNat).toNat : Nat) : Int) := by rw [tC_ne (by decide)]; omega
  have es : q_shl 1 a = ((2 ^ a.toNat : Nat) : Int) := by
    have := q_shl1 (k := a.toNat) (by omega)
    rw [show ((a.toNat : Nat) : Int) = a by omega] at this
    exact this
  refine ⟨(σ 55 a.toNat).toNat ||| 2 ^ a.toNat, ?_, Nat.or_lt_two_pow (n := 6) (by omega) hp, fun i hi => ?_⟩
  · rw [b610_0, c_hasHouse hR, decide_eq_true (show 0 ≤ a ∧ a < tC σ f 50 13 from ha), Option.bind_some, q_push_some]
    dsimp only
    rw [b610_5, if_neg (by decide), b610_8 (by omega), e14, es, q_or_nat (by omega) (by omega), b610_22]
  · rw [Nat.testBit_or, Nat.testBit_two_pow, Bool.or_comm]
    unfold g_A
    rw [decide_eq_true (show ((a.toNat : Nat) : Int) < σ 50 13 by omega), Bool.true_and, dec_iff (show a.toNat = i ↔ (i : Int) = a by omega)]
end O17
