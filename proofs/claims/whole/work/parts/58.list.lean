/-! ===== list ===== -/
def FC1 (σ τ : SS) : Prop := ∀ k, k < 50 → k ≠ 1 → ¬ (3 ≤ k ∧ k ≤ 11) → τ k = σ k
def FM1 (σ τ : SS) : Prop := (∀ k, k ∈ [51, 52, 62, 66, 67, 68, 69, 70, 71] → τ k = σ k) ∧ (∀ j, j ∈ [3, 13, 14, 15, 16, 35, 37, 41] → τ 50 j = σ 50 j) ∧ (∀ j, j < 3 → τ 53 j = σ 53 j) ∧ (∀ k, k ∈ [54, 55, 57, 58, 59, 61] → ∀ j, j < 6 → τ k j = σ k j) ∧ ∀ j, j < 36 → τ 60 j = σ 60 j
/-- the draft is what the model has taken over -/
def TO (σ μ : SS) : Prop :=
  (μ 3 8 = μ 50 13 ∧ μ 3 9 = μ 50 15 ∧ μ 3 10 = μ 50 14 ∧ μ 3 11 = μ 53 0 ∧ μ 3 12 = μ 53 1 ∧ μ 3 13 = μ 53 2 ∧ μ 3 14 = μ 50 3 ∧ μ 3 15 = μ 50 16) ∧
  (0 ≤ μ 50 13 ∧ μ 50 13 ≤ 6 ∧ 0 ≤ μ 50 14 ∧ μ 50 14 ≤ 6 ∧ (0 < μ 50 14 → 0 < μ 50 13) ∧ 0 ≤ μ 50 15 ∧ μ 50 15 ≤ 9 ∧ 1 ≤ μ 53 0 ∧ μ 53 0 ≤ 99 ∧ 0 ≤ μ 53 1 ∧ μ 53 1 ≤ 9 ∧ 0 ≤ μ 53 2 ∧ μ 53 2 ≤ 99 ∧ 0 ≤ μ 50 3 ∧ μ 50 3 ≤ 23 ∧ 0 ≤ μ 50 16 ∧ μ 50 16 ≤ 5 ∧ (0 < μ 50 14 → μ 50 16 < μ 50 14) ∧ (μ 50 14 = 0 → μ 50 16 = 0)) ∧
  (∀ h : Nat, (h : Int) < μ 50 13 → μ 4 h = μ 54 h ∧ μ 5 h = μ 55 h ∧ 0 ≤ μ 54 h ∧ μ 54 h ≤ 9 ∧ 0 ≤ μ 55 h ∧ μ 55 h < 64) ∧
  (∀ h q : Nat, (h : Int) < μ 50 13 → (μ 55 h).toNat.testBit q = true → (q : Int) < μ 50 13 ∧ q ≠ h ∧ (μ 55 q).toNat.testBit h = true) ∧
  (∀ g : Nat, (g : Int) < μ 50 14 → μ 7 g = μ 57 g ∧ μ 8 g = μ 58 g ∧ μ 9 g = μ 59 g ∧ μ 11 g = μ 61 g ∧ 1 ≤ μ 57 g ∧ μ 57 g ≤ 99 ∧ 0 ≤ μ 58 g ∧ μ 58 g ≤ 9 ∧ 0 ≤ μ 59 g ∧ μ 59 g ≤ 8 ∧ 1 ≤ μ 61 g ∧ μ 61 g ≤ 6 ∧ ∀ i : Nat, (i : Int) < μ 61 g → μ 10 (6 * g + i) = μ 60 (6 * g + i) ∧ 0 ≤ μ 60 (6 * g + i) ∧ μ 60 (6 * g + i) ≤ 2) ∧
  (∀ g : Nat, (g : Int) < μ 50 14 → μ 6 g = μ 51 g ∧ 0 ≤ μ 51 g ∧ μ 51 g < μ 50 13 ∧ μ 51 (6 + g) = 0 ∧ μ 51 (12 + g) = -100) ∧
  (μ 51 18 = 0 ∧ μ 51 19 = 0 ∧ μ 51 20 = 0 ∧ μ 51 21 = 0 ∧ μ 51 22 = 0 ∧ μ 51 23 = σ 51 23) ∧ (μ 50 35 = 0 ∧ μ 50 37 = 0 ∧ μ 50 41 = 0 ∧ μ 52 0 = 0 ∧ μ 52 1 = 0)
def END (σ μ : SS) (r s : Int) : Prop := μ 1 1 = 0 ∧ μ 50 24 = 0 ∧ μ 1 3 = μ 50 29 ∧ FC1 σ μ ∧ ((r = 0 ∧ s = -10 - μ 1 2 ∧ 1 ≤ μ 1 2 ∧ μ 1 2 ≤ 4 ∧ FM1 σ μ) ∨ (r = 1 ∧ s = μ 50 14 ∧ TO σ μ))
section LL
variable {σ : SS} {n : Nat} {T : Nat → Int}
theorem END.trans {σ1 σ2 μ : SS} {r s : Int} (hc : FC1 σ σ1) (hm : FM1 σ σ2) (h : END (mix σ1 σ2) μ r s) : END σ μ r s := by
  obtain ⟨h1, h2, h3, h4, h5⟩ := h
  refine ⟨h1, h2, h3, fun k a b c => ?_, ?_⟩
  · rw [h4 k a b c, mix_c a, hc k a b c]
  · rcases h5 with ⟨a1, a2, a3, a4, b1, b2, b3, b4, b5⟩ | ⟨a1, a2, t1, t2, t3, t4, t5, t6, t7, t8⟩
    · refine Or.inl ⟨a1, a2, a3, a4, fun k hk => ?_, fun j hj => ?_, fun j hj => ?_, fun k hk j hj => ?_, fun j hj => ?_⟩
      · have h50 : 50 ≤ k := by revert hk; revert k; decide
        rw [b1 k hk, mix_m h50, hm.1 k hk]
      · rw [b2 j hj, mix_m (by decide), hm.2.1 j hj]
      · rw [b3 j hj, mix_m (by decide), hm.2.2.1 j hj]
      · have h50 : 50 ≤ k := by revert hk; revert k; decide
        rw [b4 k hk j hj, mix_m h50, hm.2.2.2.1 k hk j hj]
      · rw [b5 j hj, mix_m (by decide), hm.2.2.2.2 j hj]
    · refine Or.inr ⟨a1, a2, t1, t2, t3, t4, t5, t6, ?_, t8⟩
      rw [mix_m (by decide), hm.1 51 (by decide)] at t7
      exact t7
theorem FC.one {τ : SS} (h : FC σ τ) : FC1 σ τ := h.1
theorem FM.one {τ : SS} (h : FM σ τ) : FM1 σ τ := ⟨h.1, fun j hj => h.2.1 j (by revert hj; revert j; decide), h.2.2⟩
theorem c_fault {τ : SS} {c : Int} (hf : τ 1 2 ≠ 0) : ev 500 31 [qR 1, qR 3, qI c] [] τ = some (some (qI 0), q_put τ 1 1 0) := by
  have e : ev 500 79 [qR 1, qR 3, qI c] [] τ = some (some (qI 0), q_put τ 1 1 0) := by rw [b500_79, if_neg hf, b500_95, b500_96 (by omega)]
  by_cases h : 300 < c
  · rw [b500_31, if_pos h, e]
  · rw [b500_31, if_neg h, b500_38, if_neg hf, e]
theorem m_fault {τ : SS} (hf : 1 ≤ τ 50 28 ∧ τ 50 28 ≤ 4) : ev 919 73 [qR 50, qU] [] τ = some (some (qI (-10 - τ 50 28)), q_put τ 50 24 0) := by
  rw [b919_73, if_neg (by omega), b919_137, if_pos (by omega), b919_149 (by rw [rw_sl (by decide)]; omega), rw_sl (by decide)]
theorem END.bad {σ1 σ2 : SS} {f b : Int} (hc : FC σ σ1) (hm : FM σ σ2) (hf : 1 ≤ f ∧ f ≤ 4) (h1 : σ1 1 2 = f) (h2 : σ1 1 3 = b) (h3 : σ2 50 28 = f) (h4 : σ2 50 29 = b) : END σ (mix (q_put σ1 1 1 0) (q_put σ2 50 24 0)) 0 (-10 - σ2 50 28) := by
  have e2 : mix (q_put σ1 1 1 0) (q_put σ2 50 24 0) 1 2 = f := by rw [mix_c (by decide), rw_sl (by decide), h1]
  refine ⟨by rw [mix_c (by decide), rw_eq], by rw [mix_m (by decide), rw_eq], by rw [mix_c (by decide), mix_m (by decide), rw_sl (by decide), rw_sl (by decide), h2, h4], fun k a b c => by rw [mix_c a, put_ne b]; exact hc.1 k a b c, Or.inl ⟨rfl, by rw [e2, h3], by rw [e2]; exact hf.1, by rw [e2]; exact hf.2, ?_⟩⟩
  refine ⟨fun k hk => ?_, fun j hj => ?_, fun j hj => ?_, fun k hk j hj => ?_, fun j hj => ?_⟩
  · have h50 : 50 < k := by revert hk; revert k; decide
    rw [mix_m (by omega), put_ne (by omega), hm.1 k hk]
  · rw [mix_m (by decide), rw_sl (by rintro rfl; revert hj; decide), hm.2.1 j (by revert hj; revert j; decide)]
  · rw [mix_m (by decide), put_ne (by decide), hm.2.2.1 j hj]
  · have h50 : 50 < k := by revert hk; revert k; decide
    rw [mix_m (by omega), put_ne (by omega), hm.2.2.2.1 k hk j hj]
  · rw [mix_m (by decide), put_ne (by decide), hm.2.2.2.2 j hj]
theorem END.ok {a : Int} {s l : Int} (hB : LB σ n T) : ∃ τ2, ev 919 137 [qR 50, qU] [] (rM σ a s l 0 (-1)) = some (some (qI (σ 50 18)), τ2) ∧ END σ (mix (q_put (rC σ a a 0 (-1) (σ 1 6) (σ 1 7)) 1 1 0) τ2) 1 (σ 50 18) := by
  obtain ⟨hT, hX, hY, hS, hH, hW, hG⟩ := hB
  obtain ⟨τ2, q1, q2, q3, q4, ⟨q5, q6, q7, q8, q9⟩, q10, q11, q12, ⟨q13, q14, q15, q16, q17, q18⟩, ⟨q19, q20, q21, q22, q23⟩⟩ := m_end (τ := rM σ a s l 0 (-1)) rM_28
  have x50 : ∀ j, j ≠ 25 ∧ j ≠ 26 ∧ j ≠ 27 ∧ j ≠ 28 ∧ j ≠ 29 → rM σ a s l 0 (-1) 50 j = σ 50 j := fun j hj => rM_o hj
  rw [x50 4 (by decide)] at q5
  rw [x50 17 (by decide)] at q6
  rw [x50 18 (by decide)] at q1 q7
  rw [x50 19 (by decide)] at q8
  rw [x50 20 (by decide)] at q9
  rw [rM_29] at q3
  have p53 : τ2 53 0 = σ 53 3 ∧ τ2 53 1 = σ 53 4 ∧ τ2 53 2 = σ 53 5 := by
    have z0 := q4 0 (by decide)
    have z1 := q4 1 (by decide)
    have z2 := q4 2 (by decide)
    rw [rM_ne (by decide)] at z0 z1 z2
    exact ⟨z0, z1, z2⟩
  have pc : ∀ c, c ∈ [54, 55, 57, 58, 59, 61] → ∀ j, j < 6 → τ2 c j = σ c (6 + j) := by
    intro c hc j hj
    rw [q10 c hc j hj, rM_ne (by rintro rfl; revert hc; decide)]
  have p60 : ∀ j, j < 36 → τ2 60 j = σ 60 (36 + j) := by
    intro j hj
    rw [q11 j hj, rM_ne (by decide)]
  have p51 : ∀ j, j < 6 → τ2 51 j = σ 56 (6 + j) := by
    intro j hj
    rw [(q12 j hj).1, rM_ne (by decide)]
  have dr : ∀ k, k < 50 → k ≠ 1 → mix (q_put (rC σ a a 0 (-1) (σ 1 6) (σ 1 7)) 1 1 0) τ2 k = σ k := by
    intro k h1 h2
    rw [mix_c h1, put_ne h2, rC_ne h2]
  have mm : ∀ k, 50 ≤ k → mix (q_put (rC σ a a 0 (-1) (σ 1 6) (σ 1 7)) 1 1 0) τ2 k = τ2 k := fun k hk => mix_m hk
  unfold D_S at hS
  refine ⟨τ2, q1, ?_, ?_, ?_, fun k h1 h2 h3 => dr k h1 h2, Or.inr ⟨rfl, ?_, ?_⟩⟩
  · rw [mix_c (by decide), rw_eq]
  · rw [mm 50 (by decide)]; exact q2
  · rw [mm 50 (by decide), q3, mix_c (by decide), rw_sl (by decide)]; rfl
  · rw [mm 50 (by decide), q7]
  · unfold TO
    rw [mm 50 (by decide), mm 51 (by decide), mm 52 (by decide), mm 53 (by decide), mm 54 (by decide), mm 55 (by decide), mm 57 (by decide), mm 58 (by decide), mm 59 (by decide), mm 60 (by decide), mm 61 (by decide), dr 3 (by decide) (by decide), dr 4 (by decide) (by decide), dr 5 (by decide) (by decide), dr 6 (by decide) (by decide), dr 7 (by decide) (by decide), dr 8 (by decide) (by decide), dr 9 (by decide) (by decide), dr 10 (by decide) (by decide), dr 11 (by decide) (by decide), q5, q6, q7, q8, q9, p53.1, p53.2.1, p53.2.2, q13, q14, q15, q16, q17, q19, q20, q21, q22, q23]
    rw [rM_ne (by decide)] at q18
    refine ⟨by omega, by omega, fun h hh => ?_, fun h q hh hb => ?_, fun g hg => ?_, fun g hg => ?_, ⟨rfl, rfl, rfl, rfl, rfl, q18⟩, ⟨rfl, rfl, rfl, rfl, rfl⟩⟩
    · rw [pc 54 (by decide) h (by omega), pc 55 (by decide) h (by omega)]
      exact hH h hh
    · rw [pc 55 (by decide) h (by omega)] at hb
      obtain ⟨w1, w2, w3⟩ := hW h q hh hb
      rw [pc 55 (by decide) q (by omega)]
      exact ⟨w1, w2, w3⟩
    · obtain ⟨z1, z2, z3, z4, z5, z6, z7, z8, z9, z10, z11, z12, z13, z14, z15, z16⟩ := hG g hg
      rw [pc 57 (by decide) g (by omega), pc 58 (by decide) g (by omega), pc 59 (by decide) g (by omega), pc 61 (by decide) g (by omega)]
      refine ⟨z4, z5, z6, z7, z8, z9, z10, z11, z12, z13, z14, z15, fun i hi => ?_⟩
      rw [p60 (6 * g + i) (by omega), show 36 + (6 * g + i) = 36 + 6 * g + i by omega]
      exact z16 i hi
    · obtain ⟨z1, z2, z3, -⟩ := hG g hg
      obtain ⟨y1, y2, y3⟩ := q12 g (by omega)
      rw [p51 g (by omega)]
      exact ⟨z1, z2, z3, y2, y3⟩
theorem l_loop : ∀ (k : Nat) (σ : SS) (p c : Nat), n + 1 - p ≤ k → LD σ n T p → c ≤ p → ∃ r s τ1 τ2, ev 500 31 [qR 1, qR 3, qI (c : Int)] [] σ = some (some (qI r), τ1) ∧ ev 919 73 [qR 50, qU] [] σ = some (some (qI s), τ2) ∧ END σ (mix τ1 τ2) r s := by
  intro k
  induction k with
  | zero =>
    intro σ p c hk hD hc
    have := hD.2.2.2.1
    omega
  | succ k ih =>
    intro σ p c hk hD hc
    have tok : ∀ (μ : SS) (q : Nat), LD μ n T q → ev 516 0 [qR 1] [] μ = some (none, rC μ (scan isBl n T q : Nat) (scan isBl n T q : Nat) 0 (-1) (μ 1 6) (μ 1 7)) ∧ ev 905 0 [qR 50] [] μ = some (some (qI (byt n T (scan isBl n T q))), rM μ (scan isBl n T q : Nat) (μ 50 26) (μ 50 27) 0 (-1)) := by
      intro μ q h
      obtain ⟨⟨hT, hX, hY, -⟩, d1, d2, d3, d4, d5, d6, d7⟩ := h
      have c1 := c_tok (σ := μ) (p := q) (t := μ 1 5) (f := 0) (b := -1) (o := μ 1 6) (g := μ 1 7) hT hX
      have m1 := m_here (σ := μ) (p := q) (s := μ 50 26) (l := μ 50 27) (f := 0) (b := -1) hT hY
      have e1 : rC μ (q : Int) (μ 1 5) 0 (-1) (μ 1 6) (μ 1 7) = μ := by
        rw [← d1, ← d4, ← d6]
        exact rC_id
      have e2 : rM μ (q : Int) (μ 50 26) (μ 50 27) 0 (-1) = μ := by
        rw [← d2, ← d5, ← d7]
        exact rM_id
      rw [e1] at c1
      rw [e2] at m1
      exact ⟨c1, m1⟩
    have hD0 := hD
    obtain ⟨hB, d1, d2, d3, d4, d5, d6, d7⟩ := hD
    obtain ⟨hT, hX, hY, -⟩ := id hB
    have h3 := hT.1
    obtain ⟨t1, t2⟩ := tok σ p hD0
    have hz := scan_sp isBl n T p
    have ha2 := scan_two (q := isBl) (n := n) (T := T) (p := p)
    obtain ⟨a, ea⟩ : ∃ a, scan isBl n T p = a := ⟨_, rfl⟩
    rw [ea] at t1 t2 hz ha2
    have hpa := hz.1
    have han := hz.2.1 d3
    rw [b919_73, d5, if_pos rfl, b919_80, t2, bS, b919_84, b500_31, if_neg (show ¬ (300 : Int) < (c : Int) by omega), b500_38, d4, if_pos rfl, b500_45, t1, bN, b500_49, rC_4, c_byte hT hX.rC, bS, b500_57]
    by_cases hlt : a < n
    · have hb := hT.2 a hlt
      have eb : byt n T a = T a := by unfold byt; rw [if_pos hlt]
      obtain ⟨σ1, σ2, q1, q2, fc, fm, q3⟩ := l_clause (s := σ 50 26) (l := σ 50 27) hB han ha2
      rw [eb, if_neg (by omega), if_neg (by omega), b500_64, q1, bN, b919_87, q2, bN]
      rcases q3 with ⟨f, b, f1, f2, f3, f4, f5, f6⟩ | ⟨p', hp', hD1⟩
      · rw [b500_69, b512_0, if_neg (by omega), b512_7, bN, b500_73 (by omega), c_fault (by omega), b919_91, if_neg (by omega), m_fault (by omega)]
        exact ⟨_, _, _, _, rfl, rfl, END.bad fc fm ⟨f1, f2⟩ f3 f4 f5 f6⟩
      · have claim : ∃ r s τ1 τ2, ev 500 69 [qR 1, qR 3, qI (c : Int)] [] (mix σ1 σ2) = some (some (qI r), τ1) ∧ ev 919 91 [qR 50, qU] [] (mix σ1 σ2) = some (some (qI s), τ2) ∧ END (mix σ1 σ2) (mix τ1 τ2) r s := by
          obtain ⟨u1, u2⟩ := tok (mix σ1 σ2) p' hD1
          have hz' := scan_sp isBl n T p'
          obtain ⟨a', ea'⟩ : ∃ a', scan isBl n T p' = a' := ⟨_, rfl⟩
          rw [ea'] at u1 u2 hz'
          have hD2 := hD1
          obtain ⟨hB', v1, v2, v3, v4, v5, v6, v7⟩ := hD1
          obtain ⟨-, hX', hY', hS', hH', hW', hG'⟩ := id hB'
          have hpa' := hz'.1
          have han' := hz'.2.1 v3
          generalize hμ : mix σ1 σ2 = μ at *
          rw [b919_91, v5, if_pos rfl, b919_98, u2, bS, b919_103, b500_69, b512_0, v4, if_pos rfl, b512_8, u1, bN, b512_12, rC_4, c_byte hT hX'.rC, bS, b512_20]
          by_cases h59 : byt n T a' = 59
          · have hlt' : a' < n := by
              apply Classical.byContradiction
              intro z
              unfold byt at h59
              rw [if_neg z] at h59
              cases h59
            rw [if_pos h59, if_pos h59, b512_30 (by rw [rC_4]; omega), rC_4, rC_p4, bN, b500_73 (by omega), b919_108, b919_113, m_wantY, bS, b919_121, if_neg (by decide), b919_124 (by rw [rM_25]; omega), rM_25, rM_p25]
            have hL : LD (mix (rC μ ((a' + 1 : Nat) : Int) (a' : Int) 0 (-1) (μ 1 6) (μ 1 7)) (rM μ ((a' + 1 : Nat) : Int) (μ 50 26) (μ 50 27) 0 (-1))) n T (a' + 1) := by
              refine LD.mk hB' (by repeat (first | exact FC.refl | apply FC.rC | refine FC.put (by decide) ?_)) (by repeat (first | exact FM.refl | apply FM.rM | refine FM.p50 (by decide) ?_ | refine FM.p53 (by first | decide | omega) ?_ | refine FM.pH (by decide) (by first | exact Nat.le_add_right _ _ | omega) ?_ | refine FM.p60 (by first | exact Nat.le_add_right _ _ | omega) ?_)) ⟨rfl, rfl, by omega, rfl, rfl, rfl, rfl⟩ ?_ ?_ ?_ ?_
              · unfold D_S
                simp (disch := decide) only [mix_c, mix_m, rC_ne, rC_1, rC_2, rC_3, rC_4, rC_5, rC_6, rC_7, rM_ne, rM_o, rM_25, rM_26, rM_27, rM_28, rM_29, rw_ne, rw_sl, rw_eq, true_and, and_true]
                exact hS'
              · exact hH'.cg (by intro k hk; simp at hk; rcases hk with rfl | rfl | rfl | rfl <;> simp (disch := decide) only [mix_c, mix_m, rC_ne, rC_1, rC_2, rC_3, rC_4, rC_5, rC_6, rC_7, rM_ne, rM_o, rM_25, rM_26, rM_27, rM_28, rM_29, rw_ne, rw_sl, rw_eq, true_and, and_true]) (by simp (disch := decide) only [mix_c, mix_m, rC_ne, rC_1, rC_2, rC_3, rC_4, rC_5, rC_6, rC_7, rM_ne, rM_o, rM_25, rM_26, rM_27, rM_28, rM_29, rw_ne, rw_sl, rw_eq, true_and, and_true])
              · exact hW'.cg (by simp (disch := decide) only [mix_c, mix_m, rC_ne, rC_1, rC_2, rC_3, rC_4, rC_5, rC_6, rC_7, rM_ne, rM_o, rM_25, rM_26, rM_27, rM_28, rM_29, rw_ne, rw_sl, rw_eq, true_and, and_true]) (by simp (disch := decide) only [mix_c, mix_m, rC_ne, rC_1, rC_2, rC_3, rC_4, rC_5, rC_6, rC_7, rM_ne, rM_o, rM_25, rM_26, rM_27, rM_28, rM_29, rw_ne, rw_sl, rw_eq, true_and, and_true])
              · exact hG'.cg (by intro k hk; simp at hk; rcases hk with rfl | rfl | rfl | rfl | rfl | rfl | rfl | rfl | rfl | rfl | rfl | rfl <;> simp (disch := decide) only [mix_c, mix_m, rC_ne, rC_1, rC_2, rC_3, rC_4, rC_5, rC_6, rC_7, rM_ne, rM_o, rM_25, rM_26, rM_27, rM_28, rM_29, rw_ne, rw_sl, rw_eq, true_and, and_true]) (by simp (disch := decide) only [mix_c, mix_m, rC_ne, rC_1, rC_2, rC_3, rC_4, rC_5, rC_6, rC_7, rM_ne, rM_o, rM_25, rM_26, rM_27, rM_28, rM_29, rw_ne, rw_sl, rw_eq, true_and, and_true]; exact Int.le_refl _) (by simp (disch := decide) only [mix_c, mix_m, rC_ne, rC_1, rC_2, rC_3, rC_4, rC_5, rC_6, rC_7, rM_ne, rM_o, rM_25, rM_26, rM_27, rM_28, rM_29, rw_ne, rw_sl, rw_eq, true_and, and_true])
            obtain ⟨r, s, τ1, τ2, i1, i2, i3⟩ := ih _ (a' + 1) (c + 1) (by omega) hL (by omega)
            obtain ⟨υ1, υ2, g1, g2, g3⟩ := sim_glue (by simp [okR, P_c]) (by simp) (by simp [okR, P_m]) (by simp) i1 i2
            refine ⟨r, s, υ1, υ2, g1, g2, ?_⟩
            rw [g3]
            exact END.trans (FC.one (by repeat (first | exact FC.refl | apply FC.rC | refine FC.put (by decide) ?_))) (FM.one (by repeat (first | exact FM.refl | apply FM.rM | refine FM.p50 (by decide) ?_ | refine FM.p53 (by first | decide | omega) ?_ | refine FM.pH (by decide) (by first | exact Nat.le_add_right _ _ | omega) ?_ | refine FM.p60 (by first | exact Nat.le_add_right _ _ | omega) ?_))) i3
          · rw [if_neg h59, if_neg h59, b512_25, b515_0, rC_5, rC_p2, rC_p3, bN, b512_30 (by rw [rC_4]; omega), rC_4, rC_p4, bN, b500_73 (by omega), c_fault (by rw [rC_2]; decide), b919_112, b919_113, rM_25, m_wantN (by decide), bS, b919_121, if_pos rfl, m_fault (by rw [rM_28]; decide)]
            exact ⟨_, _, _, _, rfl, rfl, END.bad (f := 1) (by repeat (first | exact FC.refl | apply FC.rC | refine FC.put (by decide) ?_)) (by repeat (first | exact FM.refl | apply FM.rM | refine FM.p50 (by decide) ?_ | refine FM.p53 (by first | decide | omega) ?_ | refine FM.pH (by decide) (by first | exact Nat.le_add_right _ _ | omega) ?_ | refine FM.p60 (by first | exact Nat.le_add_right _ _ | omega) ?_)) (by decide) rfl rfl rfl rfl⟩
        obtain ⟨r, s, τ1, τ2, i1, i2, i3⟩ := claim
        obtain ⟨υ1, υ2, g1, g2, g3⟩ := sim_glue (by simp [okR, P_c]) (by simp) (by simp [okR, P_m]) (by simp) i1 i2
        refine ⟨r, s, υ1, υ2, g1, g2, ?_⟩
        rw [g3]
        exact END.trans fc.one fm.one i3
    · have eb : byt n T a = -1 := by unfold byt; rw [if_neg hlt]
      obtain ⟨τ2, o1, o2⟩ := END.ok (a := (a : Int)) (s := σ 50 26) (l := σ 50 27) hB
      rw [eb, if_pos rfl, if_pos (by decide), b500_61, b500_79, rC_2, if_pos rfl, b500_91, b500_96 (by omega), o1]
      exact ⟨_, _, _, _, rfl, rfl, o2⟩
end LL
