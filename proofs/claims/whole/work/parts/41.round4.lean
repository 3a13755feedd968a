/-! ===== round: the path ===== -/
section O18
variable {σ : SS} {N : Int}
theorem r_ex {g a left : Int} (h : RR σ N) (ha : 0 ≤ a ∧ a < σ 50 13) (hl : 0 ≤ left ∧ left ≤ 48) (hd : r_d σ g a.toNat ≤ left + 1) : fst1 (r_P σ g a left) 6 0 ≠ -1 := by
  have ht := h.t
  by_cases hc : r_d σ g a.toNat ≤ left
  · refine fst1_ex (x := a) (by omega) (by omega) (by omega) ?_
    unfold r_P
    rw [decide_eq_true rfl, decide_eq_true hc]; rfl
  · have hS : g_S (g_A σ) (r_goal σ g) 5 a.toNat = true := by
      apply Classical.byContradiction
      intro z
      unfold r_d at hd
      rw [g_D_out z] at hd
      omega
    unfold r_d at hc hd
    obtain ⟨d1, d2, d3, d4⟩ := g_D_in (d := 99999999) hS
    rw [show (g_D (g_A σ) (r_goal σ g) 99999999 a.toNat 5).toNat = left.toNat + 1 by omega, g_S, Bool.or_eq_true, bany_iff] at d3
    rcases d3 with z | ⟨j, hj, z⟩
    · have := d4 _ z
      omega
    · rw [Bool.and_eq_true] at z
      obtain ⟨l1, l2, l3⟩ := g_A_lt h z.2
      refine fst1_ex (x := (j : Int)) (by omega) (by omega) (by omega) ?_
      unfold r_P
      rw [Int.toNat_natCast, l3, Bool.or_true, Bool.true_and]
      apply decide_eq_true
      unfold r_d
      have hS5 : g_S (g_A σ) (r_goal σ g) 5 j = true := by
        have := g_S_le z.1 (5 - left.toNat)
        rw [show left.toNat + (5 - left.toNat) = 5 by omega] at this
        exact this
      have := (g_D_in (d := 99999999) hS5).2.2.2 _ z.1
      omega
def r_path (σ : SS) (g hours : Int) : Nat → Int
  | 0 => σ 51 22
  | m + 1 => fst1 (r_P σ g (r_path σ g hours m) (hours - ((m + 1 : Nat) : Int))) 6 0
theorem r_path_ok {g hours : Int} (h : RR σ N) (h13 : 0 < σ 50 13) (hh : hours ≤ 48) (hd : r_d σ g (σ 51 22).toNat ≤ hours) : ∀ m : Nat, (m : Int) ≤ hours → 0 ≤ r_path σ g hours m ∧ r_path σ g hours m < σ 50 13 ∧ r_d σ g (r_path σ g hours m).toNat ≤ hours - m
  | 0, _ => by
    have hn := h.n
    unfold r_path
    exact ⟨by omega, by omega, by omega⟩
  | m + 1, hm => by
    have ht := h.t
    obtain ⟨a1, a2, a3⟩ := r_path_ok h h13 hh hd m (by omega)
    have hne := r_ex (g := g) (left := hours - ((m + 1 : Nat) : Int)) h ⟨a1, a2⟩ (by omega) (by omega)
    have hs := fst1_spec (by omega) hne
    have hr := fst1_rng (r_P σ g (r_path σ g hours m) (hours - ((m + 1 : Nat) : Int))) 6 0
    show 0 ≤ fst1 (r_P σ g (r_path σ g hours m) (hours - ((m + 1 : Nat) : Int))) 6 0 ∧ fst1 (r_P σ g (r_path σ g hours m) (hours - ((m + 1 : Nat) : Int))) 6 0 < σ 50 13 ∧ r_d σ g (fst1 (r_P σ g (r_path σ g hours m) (hours - ((m + 1 : Nat) : Int))) 6 0).toNat ≤ hours - ((m + 1 : Nat) : Int)
    obtain ⟨r, er⟩ : ∃ r, r = fst1 (r_P σ g (r_path σ g hours m) (hours - ((m + 1 : Nat) : Int))) 6 0 := ⟨_, rfl⟩
    rw [← er] at hs hr hne ⊢
    unfold r_P at hs
    rw [Bool.and_eq_true, Bool.or_eq_true] at hs
    have q2 := of_decide_eq_true hs.2
    refine ⟨by omega, ?_, q2⟩
    rcases hs.1 with z | z
    · have := of_decide_eq_true z
      omega
    · have := (g_A_lt h z).2.1
      omega
theorem c_pathL {g hours : Int} {f : Nat → Int} {i : Nat} (h : RR σ N) (h13 : 0 < σ 50 13) (hh : hours ≤ 48) (hi : (i : Int) ≤ hours) (hd : r_d σ g (σ 51 22).toNat ≤ hours) (hf : ∀ i : Nat, i < 6 → f i = g_D (g_A σ) (r_goal σ g) 49 i 5) : ∀ (k m : Nat), m + k = i → ev 703 14 [qR 42, qI (i : Int), qI hours, qI (r_path σ g hours m), qI ((m : Int) + 1)] [] (tC σ f) = some (some (qI (r_path σ g hours i)), tC σ f)
  | 0, m, hk => by
    have e : m = i := by omega
    subst e
    rw [b703_14, if_pos (by omega), b703_43]
  | k + 1, m, hk => by
    obtain ⟨a1, a2, a3⟩ := r_path_ok (g := g) h h13 hh hd m (by omega)
    have hne := r_ex (g := g) (left := hours - ((m + 1 : Nat) : Int)) h ⟨a1, a2⟩ (by omega) (by omega)
    obtain ⟨re, e1, e2, e3⟩ := c_reached (a := r_path σ g hours m) (f := f) h ⟨a1, a2⟩
    have hL := c_leastL2 (g := g) (left := hours - ((m + 1 : Nat) : Int)) h ⟨a1, a2⟩ (by omega) hf e2 e3 6 0 (by omega) (by omega) hne
    rw [b703_14, if_neg (by omega), b703_20, if_neg (by omega), b703_27 (by omega), b704_0, e1, Option.bind_some, q_push_some]
    dsimp only
    rw [b704_11, show hours - ((m : Int) + 1) = hours - ((m + 1 : Nat) : Int) by omega, hL, Option.bind_some, q_push_some]
    dsimp only
    rw [b703_36 (by omega), show (m : Int) + 1 + 1 = ((m + 1 : Nat) : Int) + 1 by omega]
    exact c_pathL h h13 hh hi hd hf k (m + 1) (by omega)
theorem m_leastL2 {g a hours i : Int} {f : Nat → Int} {m : Nat} (h : RR σ N) (ha : 0 ≤ a ∧ a < σ 50 13) (hm : (m : Int) < hours ∧ hours ≤ 48) (hf : ∀ i : Nat, i < 6 → f i = r_d σ g i) : ∀ (k : Nat) (x : Int), 0 ≤ x → x + k = 6 → fst1 (r_P σ g a (hours - ((m + 1 : Nat) : Int))) k x ≠ -1 → ev 946 66 [qR 50, qI g, qI i, qI hours, qI a, qI (m : Int), qI x] [] (tM σ f) = ev 946 110 [qR 50, qI g, qI i, qI hours, qI a, qI (m : Int), qI (fst1 (r_P σ g a (hours - ((m + 1 : Nat) : Int))) k x)] [] (tM σ f)
  | 0, x, h0, hk, hne => absurd rfl hne
  | k + 1, x, h0, hk, hne => by
    have ht := h.t
    have hH := h.h ha.1 ha.2
    have e63 : tM σ f 63 x.toNat = r_d σ g x.toNat := by show f _ = _; exact hf _ (by omega)
    have e55 : tM σ f 55 a.toNat = σ 55 a.toNat := rfl
    have hgA : g_A σ a.toNat x.toNat = (σ 55 a.toNat).toNat.testBit x.toNat := by
      unfold g_A
      rw [decide_eq_true (show ((a.toNat : Nat) : Int) < σ 50 13 by omega), Bool.true_and]
    have no : fst1 (r_P σ g a (hours - ((m + 1 : Nat) : Int))) (k + 1) x ≠ -1 → r_P σ g a (hours - ((m + 1 : Nat) : Int)) x = false → ev 946 104 [qR 50, qI g, qI i, qI hours, qI a, qI (m : Int), qI x] [] (tM σ f) = ev 946 110 [qR 50, qI g, qI i, qI hours, qI a, qI (m : Int), qI (fst1 (r_P σ g a (hours - ((m + 1 : Nat) : Int))) (k + 1) x)] [] (tM σ f) := by
      intro hne hz
      rw [fst1, hz, if_neg (by decide)] at hne ⊢
      rw [b946_104 (by omega)]
      exact m_leastL2 h ha hm hf k (x + 1) (by omega) (by omega) hne
    have near : (decide (x = a) || g_A σ a.toNat x.toNat) = true → ev 946 88 [qR 50, qI g, qI i, qI hours, qI a, qI (m : Int), qI x] [] (tM σ f) = ev 946 110 [qR 50, qI g, qI i, qI hours, qI a, qI (m : Int), qI (fst1 (r_P σ g a (hours - ((m + 1 : Nat) : Int))) (k + 1) x)] [] (tM σ f) := by
      intro hn
      rw [b946_88 (by omega), e63]
      by_cases hd : hours - (m : Int) - 1 < r_d σ g x.toNat
      · rw [if_pos hd]
        exact no hne (by unfold r_P; rw [hn, Bool.true_and]; exact decide_eq_false (by omega))
      · have hp : r_P σ g a (hours - ((m + 1 : Nat) : Int)) x = true := by unfold r_P; rw [hn, Bool.true_and]; exact decide_eq_true (by omega)
        rw [if_neg hd, fst1, hp, if_pos rfl]
    rw [b946_66]
    by_cases hx : x = a
    · rw [if_pos hx]
      exact near (by rw [decide_eq_true hx]; rfl)
    · rw [if_neg hx, b946_73 (by omega), e55, m_has (by omega), ← hgA, Option.bind_some, q_push_some]
      dsimp only
      rw [b946_85]
      cases hb : g_A σ a.toNat x.toNat
      · rw [if_pos b01_f]
        exact no hne (by unfold r_P; rw [hb, decide_eq_false hx]; rfl)
      · rw [if_neg (by decide)]
        exact near (by rw [hb, Bool.or_true])
theorem m_pathL {g hours : Int} {f : Nat → Int} {i : Nat} (h : RR σ N) (h13 : 0 < σ 50 13) (hh : hours ≤ 48) (hi : (i : Int) ≤ hours) (hd : r_d σ g (σ 51 22).toNat ≤ hours) (hf : ∀ i : Nat, i < 6 → f i = r_d σ g i) : ∀ (k m : Nat) (v : AV), m + k = i → ev 946 57 [qR 50, qI g, qI (i : Int), qI hours, qI (r_path σ g hours m), qI (m : Int), v] [] (tM σ f) = some (some (qI (r_path σ g hours i)), tM σ f)
  | 0, m, v, hk => by
    have e : m = i := by omega
    subst e
    rw [b946_57, if_neg (by omega), b946_120]
  | k + 1, m, v, hk => by
    obtain ⟨a1, a2, a3⟩ := r_path_ok (g := g) h h13 hh hd m (by omega)
    have hne := r_ex (g := g) (left := hours - ((m + 1 : Nat) : Int)) h ⟨a1, a2⟩ (by omega) (by omega)
    have hL := m_leastL2 (g := g) (i := (i : Int)) (m := m) (hours := hours) h ⟨a1, a2⟩ (by omega) hf 6 0 (by omega) (by omega) hne
    rw [b946_57, if_pos (by omega), b946_63, hL, b946_110 (by omega), show (m : Int) + 1 = ((m + 1 : Nat) : Int) by omega]
    exact m_pathL h h13 hh hi hd hf k (m + 1) _ (by omega)
theorem op_round {g i : Int} (h : RR σ N) (hN : N + 999 ≤ 100000) : Op 821 946 [qR 0, qI g, qI i, qU] [qR 50, qI g, qI i, qU, qU, qU, qU] σ N := by
  have ht := h.t
  have hn := h.n
  by_cases hg : 0 ≤ g ∧ g < σ 50 14
  · obtain ⟨f, c1, c2⟩ := c_hours h hg
    obtain ⟨f', m1, m2⟩ := m_soon h hg
    have fin : RR (mix (tC σ f) (tM σ f')) (N + 999) := h.cg2 (by omega) hN (fun k hk => tC_ne (by rintro rfl; revert hk; decide)) (fun k hk => tM_ne (by rintro rfl; revert hk; decide))
    have cA : ev 821 0 [qR 0, qI g, qI i, qU] [] σ = ev 821 22 [qR 0, qI g, qI i, qU] [qI (r_h σ g)] (tC σ f) := by
      rw [b821_0, c_hasGirl h, decide_eq_true hg, Option.bind_some, q_push_some]
      dsimp only
      rw [b821_8, if_neg (by decide), b821_14, c1, Option.bind_some, q_push_some]
    have mA : ev 946 0 [qR 50, qI g, qI i, qU, qU, qU, qU] [] σ = ev 946 16 [qR 50, qI g, qI i, qU, qU, qU, qU] [qI (r_h σ g)] (tM σ f') := by
      rw [b946_0, m_isGirl h, decide_eq_true hg, Option.bind_some, q_push_some]
      dsimp only
      rw [b946_5, if_neg (by decide), b946_11, m1, Option.bind_some, q_push_some]
    have hr := fst1_rng (r_Q σ g) 49 0
    have eh : r_h σ g = fst1 (r_Q σ g) 49 0 := rfl
    by_cases hz : r_h σ g = -1
    · refine ⟨-1, tC σ f, tM σ f', ?_, ?_, fin⟩
      · rw [cA, b821_22, hz]
        by_cases hi : i = -1
        · rw [if_pos hi, b821_33]
        · rw [if_neg hi, b821_28, if_pos rfl, b821_33]
      · rw [mA, b946_16, hz, if_pos (by decide), b946_30, if_pos (by decide), b946_43, b946_44]
    · have hpos : 0 ≤ r_h σ g ∧ r_h σ g ≤ 48 := by omega
      by_cases hi : i = -1
      · refine ⟨r_h σ g, tC σ f, tM σ f', ?_, ?_, fin⟩
        · rw [cA, b821_22, if_pos hi, b821_33]
        · rw [mA, b946_16, if_neg (by omega), b946_21, if_pos (by omega), b946_30, if_neg (by omega), b946_34, if_pos hi, b946_39, b946_44]
      · by_cases hb : 0 ≤ i ∧ i ≤ r_h σ g
        · obtain ⟨n, rfl⟩ : ∃ n : Nat, i = n := ⟨i.toNat, by omega⟩
          have hQ := fst1_spec (Q := r_Q σ g) (k := 49) (g := 0) (by omega) (by rw [← eh]; exact hz)
          rw [← eh] at hQ
          have hd : r_d σ g (σ 51 22).toNat ≤ r_h σ g := by
            unfold r_Q at hQ
            rw [Bool.and_eq_true] at hQ
            exact of_decide_eq_true hQ.1
          have e4 : tC σ f 21 4 = σ 51 22 := by rw [tC_ne (by decide)]; omega
          have cP := c_pathL (g := g) (hours := r_h σ g) (f := f) (i := n) h (by omega) hpos.2 hb.2 hd c2 n 0 (by omega)
          have mP := m_pathL (g := g) (hours := r_h σ g) (f := f') (i := n) h (by omega) hpos.2 hb.2 hd m2 n 0 qU (by omega)
          refine ⟨r_path σ g (r_h σ g) n, tC σ f, tM σ f', ?_, ?_, fin⟩
          · rw [cA, b821_22, if_neg hi, b821_28, if_neg hz, b821_35, if_neg (by omega), b821_39, if_neg (by omega), b821_48, b703_0, e4]
            refine Eq.trans (congrArg (fun z => Option.bind z _) cP) ?_
            rw [Option.bind_some, q_push_some]
            dsimp only
            rw [b821_57]
          · rw [mA, b946_16, if_neg (by omega), b946_21, if_neg (by omega), b946_25, if_neg (by omega), b946_45]
            exact mP
        · refine ⟨-1, tC σ f, tM σ f', ?_, ?_, fin⟩
          · rw [cA, b821_22, if_neg hi, b821_28, if_neg hz, b821_35]
            by_cases h0 : i < 0
            · rw [if_pos h0, b821_44, b821_57]
            · rw [if_neg h0, b821_39, if_pos (by omega), b821_44, b821_57]
          · rw [mA, b946_16, if_neg (by omega), b946_21]
            by_cases h0 : i < 0
            · rw [if_pos h0, b946_30, if_neg (by omega), b946_34, if_neg hi, b946_43, b946_44]
            · rw [if_neg h0, b946_25, if_pos (by omega), b946_30, if_neg (by omega), b946_34, if_neg hi, b946_43, b946_44]
  · refine Op.ro h hN (a := -1000000001) ?_ ?_
    · simp (disch := first | omega | exact b01_or _) only [b821_0, b821_8, b821_11, c_hasGirl h, hg, Option.bind_some, q_push_some, q_push_none, b01_eq0, b01_eq1, decide_eq_false_iff_not, decide_eq_true_eq, ite_not, b01_t, b01_f, one_ne0, zero_eq0, Bool.true_eq_false, Bool.false_eq_true, ite_true, ite_false, and_self, and_true, true_and, not_true_eq_false, not_false_eq_true]
    · simp (disch := first | omega | exact b01_or _) only [b946_0, b946_5, b946_8, m_isGirl h, hg, Option.bind_some, q_push_some, q_push_none, b01_eq0, b01_eq1, decide_eq_false_iff_not, decide_eq_true_eq, ite_not, b01_t, b01_f, one_ne0, zero_eq0, Bool.true_eq_false, Bool.false_eq_true, ite_true, ite_false, and_self, and_true, true_and, not_true_eq_false, not_false_eq_true]
end O18
