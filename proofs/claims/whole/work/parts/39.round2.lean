/-! ===== round: the model's distances ===== -/
section O16
variable {σ : SS} {N : Int}
def tM (σ : SS) (f : Nat → Int) : SS := fun k => if k = 63 then f else σ k
theorem tM_ne {f : Nat → Int} {k : Nat} (h : k ≠ 63) : tM σ f k = σ k := by unfold tM; rw [if_neg h]
theorem tM_63 {f : Nat → Int} {i : Nat} {v : Int} : q_put (tM σ f) 63 i v = tM σ (updn f i v) := by
  funext k j
  unfold q_put tM updn
  by_cases h : k = 63
  · subst h
    simp
  · simp [h]
theorem tM_id : tM σ (σ 63) = σ := by
  funext k
  unfold tM
  split
  · subst k; rfl
  · rfl
theorem RR.tourM (h : RR σ N) {f : Nat → Int} : RR (tM σ f) N := by
  have hn := h.n
  have := h.cg2 (σ1 := σ) (σ2 := tM σ f) (N' := N) (by omega) (by omega) (fun _ _ => rfl) (fun k hk => tM_ne (by rintro rfl; revert hk; decide))
  have e : mix σ (tM σ f) = tM σ f := by
    funext k
    unfold mix
    split
    · rw [tM_ne (by omega)]
    · rfl
  rw [e] at this
  exact this
/-- what the model's row holds is so -/
def g_I (σ : SS) (goal : Nat) (f : Nat → Int) : Prop := ∀ i : Nat, i < 6 → 0 ≤ f i ∧ f i ≤ 99999999 ∧ (f i = 99999999 ∨ g_S (g_A σ) goal (f i).toNat i = true)
theorem m_relL {goal : Nat} {s x3 : Int} (h : RR σ N) (h3 : 0 ≤ x3 ∧ x3 < σ 50 13) : ∀ (k : Nat) (x : Int) (f : Nat → Int), 0 ≤ x → x + k = σ 50 13 → g_I σ goal f → ∃ f', ev 944 53 [qR 50, qI (goal : Int), qI s, qI x3, qI x] [] (tM σ f) = ev 944 124 [qR 50, qI (goal : Int), qI s, qI x3, qI (σ 50 13)] [] (tM σ f') ∧ g_I σ goal f' ∧ (∀ i, f' i ≤ f i) ∧ ∀ j : Nat, x ≤ j → (j : Int) < σ 50 13 → g_A σ x3.toNat j = true → f' x3.toNat ≤ f j + 1
  | 0, x, f, h0, hk, hI => by
    have e : x = σ 50 13 := by omega
    refine ⟨f, ?_, hI, fun i => Int.le_refl _, fun j h1 h2 => by omega⟩
    rw [b944_53, show tM σ f 50 13 = σ 50 13 from rfl, if_neg (by omega), e]
  | k + 1, x, f, h0, hk, hI => by
    have ht := h.t
    have hH := h.h h3.1 h3.2
    have I3 := hI x3.toNat (by omega)
    have I4 := hI x.toNat (by omega)
    have key : ∀ v : Int, v ≤ f x3.toNat → (g_A σ x3.toNat x.toNat = true → v ≤ f x.toNat + 1) → g_I σ goal (updn f x3.toNat v) → ev 944 53 [qR 50, qI (goal : Int), qI s, qI x3, qI x] [] (tM σ f) = ev 944 53 [qR 50, qI (goal : Int), qI s, qI x3, qI (x + 1)] [] (tM σ (updn f x3.toNat v)) → ∃ f', ev 944 53 [qR 50, qI (goal : Int), qI s, qI x3, qI x] [] (tM σ f) = ev 944 124 [qR 50, qI (goal : Int), qI s, qI x3, qI (σ 50 13)] [] (tM σ f') ∧ g_I σ goal f' ∧ (∀ i, f' i ≤ f i) ∧ ∀ j : Nat, x ≤ j → (j : Int) < σ 50 13 → g_A σ x3.toNat j = true → f' x3.toNat ≤ f j + 1 := by
      intro v hv hA hI1 hst
      obtain ⟨f', e1, e2, e3, e4⟩ := m_relL (goal := goal) (s := s) h h3 k (x + 1) (updn f x3.toNat v) (by omega) (by omega) hI1
      have le1 : ∀ i, updn f x3.toNat v i ≤ f i := by
        intro i
        unfold updn
        split
        · subst i; exact hv
        · exact Int.le_refl _
      refine ⟨f', hst.trans e1, e2, fun i => Int.le_trans (e3 i) (le1 i), fun j h1 h2 h4 => ?_⟩
      by_cases hj : j = x.toNat
      · subst hj
        have q1 := e3 x3.toNat
        rw [updn_same] at q1
        have q2 := hA h4
        omega
      · have q1 := e4 j (by omega) h2 h4
        have q2 := le1 j
        omega
    have hgA : g_A σ x3.toNat x.toNat = (σ 55 x3.toNat).toNat.testBit x.toNat := by
      unfold g_A
      rw [decide_eq_true (show ((x3.toNat : Nat) : Int) < σ 50 13 by omega), Bool.true_and]
    have e55 : tM σ f 55 x3.toNat = σ 55 x3.toNat := rfl
    have same : g_I σ goal (updn f x3.toNat (f x3.toNat)) := by rw [updn_self]; exact hI
    have nost : ev 944 111 [qR 50, qI (goal : Int), qI s, qI x3, qI x] [qI x3, qR 63] (tM σ f) = ev 944 53 [qR 50, qI (goal : Int), qI s, qI x3, qI (x + 1)] [] (tM σ (updn f x3.toNat (f x3.toNat))) := by
      rw [b944_111 (by omega), b944_117 (by omega), tM_63]; rfl
    have hd : ev 944 53 [qR 50, qI (goal : Int), qI s, qI x3, qI x] [] (tM σ f) = ev 944 78 [qR 50, qI (goal : Int), qI s, qI x3, qI x] [qI (b01 (g_A σ x3.toNat x.toNat)), qI x3, qR 63] (tM σ f) := by
      rw [b944_53, show tM σ f 50 13 = σ 50 13 from rfl, if_pos (by omega), b944_62 (by omega), e55, m_has (by omega), hgA, Option.bind_some, q_push_some]
    cases hb : g_A σ x3.toNat x.toNat
    · rw [hb] at hd key
      exact key (f x3.toNat) (Int.le_refl _) (fun z => by cases z) same (by rw [hd, b944_78, if_pos b01_f, nost])
    · rw [hb] at hd key
      have e63 : ∀ i, tM σ f 63 i = f i := fun i => rfl
      by_cases hc : f x.toNat + 1 < f x3.toNat
      · refine key (f x.toNat + 1) (by omega) (fun _ => Int.le_refl _) ?_ ?_
        · intro i hi
          by_cases hix : i = x3.toNat
          · subst hix
            rw [updn_same]
            refine ⟨by omega, by omega, Or.inr ?_⟩
            have hs4 : g_S (g_A σ) goal (f x.toNat).toNat x.toNat = true := by
              rcases I4.2.2 with z | z
              · omega
              · exact z
            rw [show (f x.toNat + 1).toNat = (f x.toNat).toNat + 1 by omega, g_S, Bool.or_eq_true, bany_iff]
            right
            exact ⟨x.toNat, by omega, by rw [hs4, (g_A_lt h hb).2.2]; rfl⟩
          · rw [updn_ne hix]
            exact hI i hi
        · rw [hd, b944_78, if_neg (by decide), b944_81 (by rw [e63]; omega), e63, e63, if_pos hc, b944_99 (by rw [e63]; omega), e63, b944_117 (by omega), tM_63]
      · refine key (f x3.toNat) (Int.le_refl _) (fun _ => by omega) same ?_
        rw [hd, b944_78, if_neg (by decide), b944_81 (by rw [e63]; omega), e63, e63, if_neg hc, nost]
theorem m_sweepL {goal : Nat} {s : Int} (h : RR σ N) : ∀ (k : Nat) (x : Int) (f : Nat → Int) (v : AV), 0 ≤ x → x + k = σ 50 13 → g_I σ goal f → ∃ f' w, ev 944 42 [qR 50, qI (goal : Int), qI s, qI x, v] [] (tM σ f) = ev 944 130 [qR 50, qI (goal : Int), qI s, qI (σ 50 13), w] [] (tM σ f') ∧ g_I σ goal f' ∧ (∀ i, f' i ≤ f i) ∧ ∀ i j : Nat, x ≤ i → (i : Int) < σ 50 13 → (j : Int) < σ 50 13 → g_A σ i j = true → f' i ≤ f j + 1
  | 0, x, f, v, h0, hk, hI => by
    have e : x = σ 50 13 := by omega
    refine ⟨f, v, ?_, hI, fun i => Int.le_refl _, fun i j h1 h2 => by omega⟩
    rw [b944_42, show tM σ f 50 13 = σ 50 13 from rfl, if_neg (by omega), e]
  | k + 1, x, f, v, h0, hk, hI => by
    have ht := h.t
    obtain ⟨f1, a1, a2, a3, a4⟩ := m_relL (goal := goal) (s := s) (x3 := x) h (by omega) (σ 50 13).toNat 0 f (by omega) (by omega) hI
    obtain ⟨f', w, b1, b2, b3, b4⟩ := m_sweepL (goal := goal) (s := s) h k (x + 1) f1 (qI (σ 50 13)) (by omega) (by omega) a2
    refine ⟨f', w, ?_, b2, fun i => Int.le_trans (b3 i) (a3 i), fun i j h1 h2 h3 h4 => ?_⟩
    · rw [b944_42, show tM σ f 50 13 = σ 50 13 from rfl, if_pos (by omega), b944_50, a1, b944_124 (by omega)]
      exact b1
    · by_cases hi : i = x.toNat
      · subst hi
        have q1 := a4 j (by omega) h3 h4
        have q2 := b3 x.toNat
        omega
      · have q1 := b4 i j (by omega) h2 h3 h4
        have q2 := a3 j
        omega
theorem m_farL {goal : Nat} (h : RR σ N) : ∀ (m t : Nat) (f : Nat → Int) (v w : AV), t + m = 6 → g_I σ goal f → (∀ k i : Nat, k ≤ t → i < 6 → g_S (g_A σ) goal k i = true → f i ≤ k) → ∃ f', ev 944 34 [qR 50, qI (goal : Int), qI (t : Int), v, w] [] (tM σ f) = some (none, tM σ f') ∧ g_I σ goal f' ∧ ∀ k i : Nat, k ≤ 6 → i < 6 → g_S (g_A σ) goal k i = true → f' i ≤ k
  | 0, t, f, v, w, ht, hI, hC => by
    have e : t = 6 := by omega
    subst e
    refine ⟨f, ?_, hI, hC⟩
    rw [b944_34, if_neg (by omega), b944_136]
  | m + 1, t, f, v, w, ht, hI, hC => by
    have htt := h.t
    obtain ⟨f1, w1, a1, a2, a3, a4⟩ := m_sweepL (goal := goal) (s := (t : Int)) h (σ 50 13).toNat 0 f w (by omega) (by omega) hI
    obtain ⟨f', b1, b2, b3⟩ := m_farL (goal := goal) h m (t + 1) f1 (qI (σ 50 13)) w1 (by omega) a2 (fun k i hk hi hS => by
      by_cases hkt : k ≤ t
      · have q1 := hC k i hkt hi hS
        have q2 := a3 i
        omega
      · have ek : k = t + 1 := by omega
        subst ek
        rw [g_S, Bool.or_eq_true, bany_iff] at hS
        rcases hS with hS | ⟨j, hj, hS⟩
        · have q1 := hC t i (by omega) hi hS
          have q2 := a3 i
          omega
        · rw [Bool.and_eq_true] at hS
          obtain ⟨l1, l2, l3⟩ := g_A_lt h hS.2
          have q1 := a4 i j (by omega) l2 l1 l3
          have q2 := hC t j (by omega) hj hS.1
          omega)
    refine ⟨f', ?_, b2, b3⟩
    rw [b944_34, if_pos (by omega), b944_40, a1, b944_130 (by omega)]
    have : (t : Int) + 1 = ((t + 1 : Nat) : Int) := by omega
    rw [this]
    exact b1
theorem m_farR {goal : Nat} (hg : goal < 6) : ∀ (k : Nat) (x : Int) (f : Nat → Int), 0 ≤ x → x + k = 6 → (∀ i : Nat, (i : Int) < x → f i = if i = goal then 0 else 99999999) → ∃ f', ev 944 2 [qR 50, qI (goal : Int), qI x, qU, qU] [] (tM σ f) = ev 944 32 [qR 50, qI (goal : Int), qI 6, qU, qU] [] (tM σ f') ∧ ∀ i : Nat, i < 6 → f' i = if i = goal then 0 else 99999999
  | 0, x, f, h0, hk, hi => by
    have e : x = 6 := by omega
    refine ⟨f, ?_, fun i hx => hi i (by omega)⟩
    rw [b944_2, if_neg (by omega), e]
  | k + 1, x, f, h0, hk, hi => by
    obtain ⟨f', e1, e2⟩ := m_farR hg k (x + 1) (updn f x.toNat (if x.toNat = goal then 0 else 99999999)) (by omega) (by omega) (fun i hx => by
      by_cases hix : i = x.toNat
      · subst hix
        rw [updn_same]
      · rw [updn_ne hix]
        exact hi i (by omega))
    refine ⟨f', ?_, e2⟩
    rw [b944_2, if_pos (by omega), b944_8]
    by_cases hc : x = (goal : Int)
    · rw [if_pos (show x.toNat = goal by omega)] at e1
      rw [if_pos hc, b944_18, b944_25 (by omega), tM_63]
      exact e1
    · rw [if_neg (show ¬ x.toNat = goal by omega)] at e1
      rw [if_neg hc, b944_22, b944_25 (by omega), tM_63]
      exact e1
/-- the model's distances to a house -/
theorem m_far {goal : Nat} (h : RR σ N) (hg : goal < 6) : ∃ f', ev 944 0 [qR 50, qI (goal : Int), qU, qU, qU] [] σ = some (none, tM σ f') ∧ ∀ i : Nat, i < 6 → f' i = g_D (g_A σ) goal 99999999 i 5 := by
  obtain ⟨f1, e1, e2⟩ := m_farR (σ := σ) hg 6 0 (σ 63) (by omega) (by omega) (fun i hi => by omega)
  have hI : g_I σ goal f1 := by
    intro i hi
    rw [e2 i hi]
    by_cases hc : i = goal
    · rw [if_pos hc]
      exact ⟨by omega, by omega, Or.inr (by show decide (i = goal) = true; simp [hc])⟩
    · rw [if_neg hc]
      exact ⟨by omega, by omega, Or.inl rfl⟩
  obtain ⟨f', e3, e4, e5⟩ := m_farL (goal := goal) h 6 0 f1 qU qU (by omega) hI (fun k i hk hi hS => by
    have ek : k = 0 := by omega
    subst ek
    have : i = goal := of_decide_eq_true hS
    rw [e2 i hi, if_pos this]
    omega)
  rw [tM_id] at e1
  refine ⟨f', ?_, fun i hi => ?_⟩
  · rw [b944_0, e1, b944_32]
    exact e3
  · obtain ⟨r1, r2, r3⟩ := e4 i hi
    by_cases hS : g_S (g_A σ) goal 5 i = true
    · obtain ⟨d1, d2, d3, d4⟩ := g_D_in (d := 99999999) hS
      have q1 := e5 (g_D (g_A σ) goal 99999999 i 5).toNat i (by omega) hi d3
      rcases r3 with z | z
      · omega
      · have := d4 _ z
        omega
    · rw [g_D_out hS]
      rcases r3 with z | z
      · exact z
      · exfalso
        apply hS
        by_cases hl : (f' i).toNat ≤ 5
        · have := g_S_le z (5 - (f' i).toNat)
          rw [show (f' i).toNat + (5 - (f' i).toNat) = 5 by omega] at this
          exact this
        · have := g_S_5 (A := g_A σ) hg (m := (f' i).toNat - 5) hi
          rw [show 5 + ((f' i).toNat - 5) = (f' i).toNat by omega, z] at this
          exact this.symm
end O16
