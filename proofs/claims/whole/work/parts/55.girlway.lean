/-! ===== list: girl, way ===== -/
section LG
variable {σ : SS} {n : Nat} {T : Nat → Int}
set_option maxHeartbeats 8000000 in
theorem l_girl {a e : Nat} {l : Int} (hB : LB σ n T) (he : e = a + 4) (hen : e ≤ n) : ∃ σ1 σ2, ev 506 0 [qR 1, qR 3, qU, qU, qU, qU] [] (rC σ (a : Int) (a : Int) 0 (-1) (σ 1 6) (σ 1 7)) = some (none, σ1) ∧ ev 915 0 [qR 50, qI (a : Int), qU] [] (rM σ (e : Int) (a : Int) l 0 (-1)) = some (none, σ2) ∧ OUT n T σ σ1 σ2 a := by
  have hB0 := hB
  obtain ⟨hT, hX, hY, hS, hH, hW, hG⟩ := hB
  have h3 := hT.1
  unfold D_S at hS
  have e8 : σ 3 8 = σ 50 17 := by omega
  have e10 : σ 3 10 = σ 50 18 := by omega
  have e6 : (6 + σ 50 18).toNat = 6 + (σ 50 18).toNat := by omega
  have e36 : (6 * (6 + σ 50 18)).toNat = 36 + 6 * (σ 50 18).toNat := by omega
  rw [b506_0, rC_ne (show 3 ≠ 1 by decide), e10, b915_0, rM_18]
  by_cases h0 : σ 50 18 < 6
  · rw [c_cntY h0 (show (e : Int) = (a : Int) + 4 by omega) (by omega), bN, if_pos h0, b915_10, b915_15, m_wantY, bS, b915_20, if_neg (by decide), b915_23 (by rw [rM_18, rM_17]; omega), rM_18, rM_17, b506_11 (by rw [rC_ne (by decide)]; omega), rC_ne (show 3 ≠ 1 by decide), e8]
    have hY1 : ∀ v1 : Int, TY (q_put σ 56 (6 + (σ 50 18).toNat) v1) n T := fun v1 => hY.put (by constructor <;> (try left) <;> decide)
    have hY2 : ∀ v1 v2 : Int, TY (q_put (q_put σ 56 (6 + (σ 50 18).toNat) v1) 57 (6 + (σ 50 18).toNat) v2) n T := fun v1 v2 => (hY1 v1).put (by constructor <;> (try left) <;> decide)
    have hY3 : ∀ v1 v2 v3 : Int, TY (q_put (q_put (q_put σ 56 (6 + (σ 50 18).toNat) v1) 57 (6 + (σ 50 18).toNat) v2) 58 (6 + (σ 50 18).toNat) v3) n T := fun v1 v2 v3 => (hY2 v1 v2).put (by constructor <;> (try left) <;> decide)
    by_cases f1 : nF n T e 0 (σ 50 17 - 1) = 0
    · have g1 := nF_ok hen f1
      rw [c_numY hT hX hen f1, bS, b506_22, m_numY hT hY hen f1, bS, b915_47 (by omega), e6, rM_put (by decide)]
      by_cases f2 : nF n T (nE n T e) 1 99 = 0
      · have g2 := nF_ok g1.2.2.2 f2
        rw [c_numY hT hX g1.2.2.2 f2, bS, b506_30, m_numY hT (hY1 _) g1.2.2.2 f2, bS, b915_60 (by omega), e6, rM_put (by decide)]
        by_cases f4 : nF n T (nE n T (nE n T e)) 0 9 = 0
        · have g4 := nF_ok g2.2.2.2 f4
          rw [c_numY hT hX g2.2.2.2 f4, bS, b506_38, m_numY hT (hY2 _ _) g2.2.2.2 f4, bS, b915_73 (by omega), e6, rM_put (by decide)]
          by_cases f5 : nF n T (nE n T (nE n T (nE n T e))) 0 8 = 0
          · have g5 := nF_ok g4.2.2.2 f5
            have r18 : ∀ (p s l f b v1 v2 v3 : Int), rM (q_put (q_put (q_put σ 56 (6 + (σ 50 18).toNat) v1) 57 (6 + (σ 50 18).toNat) v2) 58 (6 + (σ 50 18).toNat) v3) p s l f b 50 18 = σ 50 18 := by
              intro p s l f b v1 v2 v3
              rw [rM_18]
              simp (disch := decide) only [mix_c, mix_m, rC_ne, rC_1, rC_2, rC_3, rC_4, rC_5, rC_6, rC_7, rM_ne, rM_o, rM_25, rM_26, rM_27, rM_28, rM_29, rw_ne, rw_sl, rw_eq, true_and, and_true]
            rw [c_numY hT hX g4.2.2.2 f5, bS, b506_47, rC_2, if_pos rfl, b506_56, b606_0, rC_ne (show 3 ≠ 1 by decide), e10, if_pos h0, b606_9 (by rw [rC_ne (by decide)]; omega), rC_ne (show 3 ≠ 1 by decide), e10, rC_put (by decide), rC_put (by decide), rC_put (by decide), rC_put (by decide), rC_put (by decide), rC_put (by decide), rC_put (by decide), b606_83, bN, b506_66, m_numY hT (hY3 _ _ _) g4.2.2.2 f5, bS, b915_86 (by rw [r18]; omega), r18, e6, e36, rM_put (by decide), rM_put (by decide), rM_put (by decide), rM_pu5 (by decide), b915_114]
            obtain ⟨G, hGn⟩ : ∃ G : Nat, σ 50 18 = (G : Int) := ⟨(σ 50 18).toNat, by omega⟩
            rw [hGn, Int.toNat_natCast, show ((G : Int) * 6).toNat = 6 * G by omega]
            refine ⟨_, _, rfl, rfl, (by repeat (first | exact FC.refl | apply FC.rC | refine FC.put (by decide) ?_)), (by repeat (first | exact FM.refl | apply FM.rM | refine FM.p50 (by decide) ?_ | refine FM.p53 (by first | decide | omega) ?_ | refine FM.pH (by decide) (by first | exact Nat.le_add_right _ _ | omega) ?_ | refine FM.p60 (by first | exact Nat.le_add_right _ _ | omega) ?_)), Or.inr ⟨nE n T (nE n T (nE n T (nE n T e))), by omega, LD.mk hB0 (by repeat (first | exact FC.refl | apply FC.rC | refine FC.put (by decide) ?_)) (by repeat (first | exact FM.refl | apply FM.rM | refine FM.p50 (by decide) ?_ | refine FM.p53 (by first | decide | omega) ?_ | refine FM.pH (by decide) (by first | exact Nat.le_add_right _ _ | omega) ?_ | refine FM.p60 (by first | exact Nat.le_add_right _ _ | omega) ?_)) ⟨rfl, rfl, by omega, rfl, rfl, rfl, rfl⟩ ?_ (hH.cg (by intro k hk; simp at hk; rcases hk with rfl | rfl | rfl | rfl <;> simp (disch := decide) only [mix_c, mix_m, rC_ne, rC_1, rC_2, rC_3, rC_4, rC_5, rC_6, rC_7, rM_ne, rM_o, rM_25, rM_26, rM_27, rM_28, rM_29, rw_ne, rw_sl, rw_eq, true_and, and_true]) (by simp (disch := decide) only [mix_c, mix_m, rC_ne, rC_1, rC_2, rC_3, rC_4, rC_5, rC_6, rC_7, rM_ne, rM_o, rM_25, rM_26, rM_27, rM_28, rM_29, rw_ne, rw_sl, rw_eq, true_and, and_true])) (hW.cg (by simp (disch := decide) only [mix_c, mix_m, rC_ne, rC_1, rC_2, rC_3, rC_4, rC_5, rC_6, rC_7, rM_ne, rM_o, rM_25, rM_26, rM_27, rM_28, rM_29, rw_ne, rw_sl, rw_eq, true_and, and_true]) (by simp (disch := decide) only [mix_c, mix_m, rC_ne, rC_1, rC_2, rC_3, rC_4, rC_5, rC_6, rC_7, rM_ne, rM_o, rM_25, rM_26, rM_27, rM_28, rM_29, rw_ne, rw_sl, rw_eq, true_and, and_true])) ?_⟩⟩
            · unfold D_S
              simp (disch := decide) only [mix_c, mix_m, rC_ne, rC_1, rC_2, rC_3, rC_4, rC_5, rC_6, rC_7, rM_ne, rM_o, rM_25, rM_26, rM_27, rM_28, rM_29, rw_ne, rw_sl, rw_eq, true_and, and_true]
              omega
            · intro g hg
              revert hg
              simp (disch := decide) only [mix_c, mix_m, rC_ne, rC_1, rC_2, rC_3, rC_4, rC_5, rC_6, rC_7, rM_ne, rM_o, rM_25, rM_26, rM_27, rM_28, rM_29, rw_ne, rw_sl, rw_eq, true_and, and_true]
              intro hg
              by_cases eg : g = G
              · subst eg
                simp (disch := decide) only [mix_c, mix_m, rC_ne, rC_1, rC_2, rC_3, rC_4, rC_5, rC_6, rC_7, rM_ne, rM_o, rM_25, rM_26, rM_27, rM_28, rM_29, rw_ne, rw_sl, rw_eq, true_and, and_true]
                refine ⟨by omega, by omega, by omega, by omega, by omega, by omega, by omega, by omega, by omega, by omega, fun i hi => ?_⟩
                have ei : i = 0 := by omega
                subst ei
                rw [Nat.add_zero, Nat.add_zero]
                simp (disch := decide) only [mix_c, mix_m, rC_ne, rC_1, rC_2, rC_3, rC_4, rC_5, rC_6, rC_7, rM_ne, rM_o, rM_25, rM_26, rM_27, rM_28, rM_29, rw_ne, rw_sl, rw_eq, true_and, and_true]
                omega
              · simp (disch := first | decide | omega) only [mix_c, mix_m, rC_ne, rC_1, rC_2, rC_3, rC_4, rC_5, rC_6, rC_7, rM_ne, rM_o, rM_25, rM_26, rM_27, rM_28, rM_29, rw_ne, rw_sl, rw_eq, true_and, and_true]
                obtain ⟨q1, q2, q3, q4, q5, q6, q7, q8, q9, q10, q11, q12, q13, q14, q15, q16⟩ := hG g (by omega)
                refine ⟨q1, q2, q3, q4, q5, q6, q7, q8, q9, q10, q11, q12, q13, q14, q15, fun i hi => ?_⟩
                simp (disch := first | decide | omega) only [mix_c, mix_m, rC_ne, rC_1, rC_2, rC_3, rC_4, rC_5, rC_6, rC_7, rM_ne, rM_o, rM_25, rM_26, rM_27, rM_28, rM_29, rw_ne, rw_sl, rw_eq, true_and, and_true]
                exact q16 i hi
          · obtain ⟨v, hv⟩ := m_numN (s := (nA n T (nE n T (nE n T e)) : Nat)) (l := l) (b := -1) hT (hY3 (nV n T e) (nV n T (nE n T e)) (nV n T (nE n T (nE n T e)))) g4.2.2.2 f5
            have g5 := nF_bad f5
            have r18 : ∀ (p s l f b v1 v2 v3 : Int), rM (q_put (q_put (q_put σ 56 (6 + (σ 50 18).toNat) v1) 57 (6 + (σ 50 18).toNat) v2) 58 (6 + (σ 50 18).toNat) v3) p s l f b 50 18 = σ 50 18 := by
              intro p s l f b v1 v2 v3
              rw [rM_18]
              simp (disch := decide) only [mix_c, mix_m, rC_ne, rC_1, rC_2, rC_3, rC_4, rC_5, rC_6, rC_7, rM_ne, rM_o, rM_25, rM_26, rM_27, rM_28, rM_29, rw_ne, rw_sl, rw_eq, true_and, and_true]
            rw [c_numN hT hX g4.2.2.2 f5, bS, b506_47, rC_2, if_neg f5, b506_66, hv, bS, b915_86 (by rw [r18]; omega), r18, e6, e36, rM_put (by decide), rM_put (by decide), rM_put (by decide), rM_pu5 (by decide), b915_114]
            exact ⟨_, _, rfl, rfl, OUT.bad (by repeat (first | exact FC.refl | apply FC.rC | refine FC.put (by decide) ?_)) (by repeat (first | exact FM.refl | apply FM.rM | refine FM.p50 (by decide) ?_ | refine FM.p53 (by first | decide | omega) ?_ | refine FM.pH (by decide) (by first | exact Nat.le_add_right _ _ | omega) ?_ | refine FM.p60 (by first | exact Nat.le_add_right _ _ | omega) ?_)) ⟨g5.1, g5.2.1⟩ rfl rfl rfl rfl⟩
        · obtain ⟨v, hv⟩ := m_numN (s := (nA n T (nE n T e) : Nat)) (l := l) (b := -1) hT (hY2 (nV n T e) (nV n T (nE n T e))) g2.2.2.2 f4
          have g4 := nF_bad f4
          have r18 : ∀ (p s l f b v1 v2 v3 : Int), rM (q_put (q_put (q_put σ 56 (6 + (σ 50 18).toNat) v1) 57 (6 + (σ 50 18).toNat) v2) 58 (6 + (σ 50 18).toNat) v3) p s l f b 50 18 = σ 50 18 := by
            intro p s l f b v1 v2 v3
            rw [rM_18]
            simp (disch := decide) only [mix_c, mix_m, rC_ne, rC_1, rC_2, rC_3, rC_4, rC_5, rC_6, rC_7, rM_ne, rM_o, rM_25, rM_26, rM_27, rM_28, rM_29, rw_ne, rw_sl, rw_eq, true_and, and_true]
          rw [c_numN hT hX g2.2.2.2 f4, bS, b506_38, c_num0 f4, bS, b506_47, rC_2, if_neg f4, b506_66, hv, bS, b915_73 (by omega), e6, rM_put (by decide), m_num0 g4.2.2, bS, b915_86 (by rw [r18]; omega), r18, e6, e36, rM_put (by decide), rM_put (by decide), rM_put (by decide), rM_pu5 (by decide), b915_114]
          exact ⟨_, _, rfl, rfl, OUT.bad (by repeat (first | exact FC.refl | apply FC.rC | refine FC.put (by decide) ?_)) (by repeat (first | exact FM.refl | apply FM.rM | refine FM.p50 (by decide) ?_ | refine FM.p53 (by first | decide | omega) ?_ | refine FM.pH (by decide) (by first | exact Nat.le_add_right _ _ | omega) ?_ | refine FM.p60 (by first | exact Nat.le_add_right _ _ | omega) ?_)) ⟨g4.1, g4.2.1⟩ rfl rfl rfl rfl⟩
      · obtain ⟨v, hv⟩ := m_numN (s := (nA n T e : Nat)) (l := l) (b := -1) hT (hY1 (nV n T e)) g1.2.2.2 f2
        have g2 := nF_bad f2
        have r18 : ∀ (p s l f b v1 v2 v3 : Int), rM (q_put (q_put (q_put σ 56 (6 + (σ 50 18).toNat) v1) 57 (6 + (σ 50 18).toNat) v2) 58 (6 + (σ 50 18).toNat) v3) p s l f b 50 18 = σ 50 18 := by
          intro p s l f b v1 v2 v3
          rw [rM_18]
          simp (disch := decide) only [mix_c, mix_m, rC_ne, rC_1, rC_2, rC_3, rC_4, rC_5, rC_6, rC_7, rM_ne, rM_o, rM_25, rM_26, rM_27, rM_28, rM_29, rw_ne, rw_sl, rw_eq, true_and, and_true]
        rw [c_numN hT hX g1.2.2.2 f2, bS, b506_30, c_num0 f2, bS, b506_38, c_num0 f2, bS, b506_47, rC_2, if_neg f2, b506_66, hv, bS, b915_60 (by omega), e6, rM_put (by decide), m_num0 g2.2.2, bS, b915_73 (by omega), e6, rM_put (by decide), m_num0 g2.2.2, bS, b915_86 (by rw [r18]; omega), r18, e6, e36, rM_put (by decide), rM_put (by decide), rM_put (by decide), rM_pu5 (by decide), b915_114]
        exact ⟨_, _, rfl, rfl, OUT.bad (by repeat (first | exact FC.refl | apply FC.rC | refine FC.put (by decide) ?_)) (by repeat (first | exact FM.refl | apply FM.rM | refine FM.p50 (by decide) ?_ | refine FM.p53 (by first | decide | omega) ?_ | refine FM.pH (by decide) (by first | exact Nat.le_add_right _ _ | omega) ?_ | refine FM.p60 (by first | exact Nat.le_add_right _ _ | omega) ?_)) ⟨g2.1, g2.2.1⟩ rfl rfl rfl rfl⟩
    · obtain ⟨v, hv⟩ := m_numN (s := (a : Int)) (l := l) (b := -1) hT hY hen f1
      have g1 := nF_bad f1
      have r18 : ∀ (p s l f b v1 v2 v3 : Int), rM (q_put (q_put (q_put σ 56 (6 + (σ 50 18).toNat) v1) 57 (6 + (σ 50 18).toNat) v2) 58 (6 + (σ 50 18).toNat) v3) p s l f b 50 18 = σ 50 18 := by
        intro p s l f b v1 v2 v3
        rw [rM_18]
        simp (disch := decide) only [mix_c, mix_m, rC_ne, rC_1, rC_2, rC_3, rC_4, rC_5, rC_6, rC_7, rM_ne, rM_o, rM_25, rM_26, rM_27, rM_28, rM_29, rw_ne, rw_sl, rw_eq, true_and, and_true]
      rw [c_numN hT hX hen f1, bS, b506_22, c_num0 f1, bS, b506_30, c_num0 f1, bS, b506_38, c_num0 f1, bS, b506_47, rC_2, if_neg f1, b506_66, hv, bS, b915_47 (by omega), e6, rM_put (by decide), m_num0 g1.2.2, bS, b915_60 (by omega), e6, rM_put (by decide), m_num0 g1.2.2, bS, b915_73 (by omega), e6, rM_put (by decide), m_num0 g1.2.2, bS, b915_86 (by rw [r18]; omega), r18, e6, e36, rM_put (by decide), rM_put (by decide), rM_put (by decide), rM_pu5 (by decide), b915_114]
      exact ⟨_, _, rfl, rfl, OUT.bad (by repeat (first | exact FC.refl | apply FC.rC | refine FC.put (by decide) ?_)) (by repeat (first | exact FM.refl | apply FM.rM | refine FM.p50 (by decide) ?_ | refine FM.p53 (by first | decide | omega) ?_ | refine FM.pH (by decide) (by first | exact Nat.le_add_right _ _ | omega) ?_ | refine FM.p60 (by first | exact Nat.le_add_right _ _ | omega) ?_)) ⟨g1.1, g1.2.1⟩ rfl rfl rfl rfl⟩
  · rw [c_cntN h0 (show (e : Int) = (a : Int) + 4 by omega) (by omega), bN, b506_11 (by rw [rC_ne (by decide)]; omega), c_num0 (by decide), bS, b506_22, c_num0 (by decide), bS, b506_30, c_num0 (by decide), bS, b506_38, c_num0 (by decide), bS, b506_47, rC_2, if_neg (by decide), b506_66, if_neg h0, b915_14, b915_15, m_wantN (by decide), bS, b915_20, if_pos rfl, b915_114]
    exact ⟨_, _, rfl, rfl, OUT.bad (f := 3) (by repeat (first | exact FC.refl | apply FC.rC | refine FC.put (by decide) ?_)) (by repeat (first | exact FM.refl | apply FM.rM | refine FM.p50 (by decide) ?_ | refine FM.p53 (by first | decide | omega) ?_ | refine FM.pH (by decide) (by first | exact Nat.le_add_right _ _ | omega) ?_ | refine FM.p60 (by first | exact Nat.le_add_right _ _ | omega) ?_)) (by decide) rfl rfl rfl rfl⟩
/-- the draft has this house -/
theorem c_hasHD {τ : SS} {x : Int} (h : 0 ≤ x ∧ x < τ 3 8 ∧ τ 3 8 ≤ 6) : ev 602 0 [qR 3, qI x] [] τ = some (some (qI 1), τ) := by
  rw [b602x1_0, if_neg (by omega), b602x1_4, if_pos (by omega), b602x1_12, if_pos (by omega), b602x1_18, b602x1_23 (by omega)]
theorem c_waysD {τ : SS} {x : Int} (h : 0 ≤ x ∧ x < τ 3 8 ∧ τ 3 8 ≤ 6) : ev 609 0 [qR 3, qI x] [] τ = some (some (qI (τ 5 x.toNat)), τ) := by
  rw [b609x1_0, c_hasHD h, bS, b609x1_5, if_neg (by decide), b609x1_8 (by omega), b609x1_18]
theorem l_way {a e : Nat} {l : Int} (hB : LB σ n T) (he : e = a + 3) (hen : e ≤ n) : ∃ σ1 σ2, ev 505 0 [qR 1, qR 3, qU, qU] [] (rC σ (a : Int) (a : Int) 0 (-1) (σ 1 6) (σ 1 7)) = some (none, σ1) ∧ ev 914 0 [qR 50, qI (a : Int), qU, qU] [] (rM σ (e : Int) (a : Int) l 0 (-1)) = some (none, σ2) ∧ OUT n T σ σ1 σ2 a := by
  have hB0 := hB
  obtain ⟨hT, hX, hY, hS, hH, hW, hG⟩ := hB
  have h3 := hT.1
  unfold D_S at hS
  have e8 : σ 3 8 = σ 50 17 := by omega
  have e9 : σ 3 9 = σ 50 19 := by omega
  have r8 : ∀ p t f b o g : Int, rC σ p t f b o g 3 8 = σ 50 17 := by
    intro p t f b o g
    rw [rC_ne (by decide)]; exact e8
  rw [b505_0, rC_ne (show 3 ≠ 1 by decide), e9, b914_0, rM_19]
  by_cases h0 : σ 50 19 < 9
  · rw [c_cntY h0 (show (e : Int) = (a : Int) + 3 by omega) (by omega), bN, if_pos h0, b914_10, b914_15, m_wantY, bS, b914_20, if_neg (by decide), b914_23 (by rw [rM_17]; omega), rM_17, b505_11 (by rw [r8]; omega), r8]
    by_cases f1 : nF n T e 0 (σ 50 17 - 1) = 0
    · have g1 := nF_ok hen f1
      rw [c_numY hT hX hen f1, bS, b505_22 (by rw [r8]; omega), r8, m_numY hT hY hen f1, bS, b914_34 (by rw [rM_17]; omega), rM_17]
      by_cases f2 : nF n T (nE n T e) 0 (σ 50 17 - 1) = 0
      · have g2 := nF_ok g1.2.2.2 f2
        rw [c_numY hT hX g1.2.2.2 f2, bS, b505_34, rC_2, if_pos rfl, m_numY hT hY g1.2.2.2 f2, bS, b914_46, rM_28, if_pos rfl, b505_42, b914_54]
        obtain ⟨X, hXn⟩ : ∃ X : Nat, nV n T e = (X : Int) := ⟨(nV n T e).toNat, by omega⟩
        obtain ⟨Y, hYn⟩ : ∃ Y : Nat, nV n T (nE n T e) = (Y : Int) := ⟨(nV n T (nE n T e)).toNat, by omega⟩
        have hx := hH X (by omega)
        have hy := hH Y (by omega)
        rw [hXn, hYn]
        by_cases hxy : (X : Int) = (Y : Int)
        · rw [if_pos hxy, b505_59, b515_0, rC_5, rC_p2, rC_p3, bN, b505_64, rC_2, if_neg (by decide), b505_77, if_pos hxy, b914_80, b914_81, rM_26, m_wantN (by decide), bS, b914_89, if_pos rfl, b914_132]
          exact ⟨_, _, rfl, rfl, OUT.bad (f := 4) (by repeat (first | exact FC.refl | apply FC.rC | refine FC.put (by decide) ?_)) (by repeat (first | exact FM.refl | apply FM.rM | refine FM.p50 (by decide) ?_ | refine FM.p53 (by first | decide | omega) ?_ | refine FM.pH (by decide) (by first | exact Nat.le_add_right _ _ | omega) ?_ | refine FM.p60 (by first | exact Nat.le_add_right _ _ | omega) ?_)) (by decide) rfl rfl rfl rfl⟩
        · have e5 : ∀ p t f b o g : Int, rC σ p t f b o g 5 X = σ 55 (6 + X) := by
            intro p t f b o g
            rw [rC_ne (by decide)]; exact hx.2.1
          have e55 : ∀ p s l f b : Int, rM σ p s l f b 55 (6 + X) = σ 55 (6 + X) := by
            intro p s l f b
            rw [rM_ne (by decide)]
          rw [if_neg hxy, b505_47, c_waysD (by rw [r8]; omega), bS, Int.toNat_natCast, e5, b505_52, c_has (by omega), bS, decide_eq_true (show (0 : Int) ≤ (Y : Int) by omega), Bool.true_and, Int.toNat_natCast, b505_56, if_neg hxy, b914_60 (by omega), show (6 + (X : Int)).toNat = 6 + X by omega, e55, m_has (by omega), Int.toNat_natCast, bS, b914_73]
          cases hbit : (σ 55 (6 + X)).toNat.testBit Y
          · have hxr := hx.2.2.2.2
            have hyr := hy.2.2.2.2
            obtain ⟨u, hu⟩ : ∃ u : Nat, σ 55 (6 + X) = (u : Int) := ⟨(σ 55 (6 + X)).toNat, by omega⟩
            obtain ⟨w, hw⟩ : ∃ w : Nat, σ 55 (6 + Y) = (w : Int) := ⟨(σ 55 (6 + Y)).toNat, by omega⟩
            have hX6 : X < 6 := by omega
            have hY6 : Y < 6 := by omega
            have pX : 2 ^ X < 2 ^ 6 := Nat.pow_lt_pow_right (by omega) hX6
            have pY : 2 ^ Y < 2 ^ 6 := Nat.pow_lt_pow_right (by omega) hY6
            have n1 : q_or (σ 55 (6 + X)) (q_shl 1 (Y : Int)) = ((u ||| 2 ^ Y : Nat) : Int) := by
              rw [hu, q_shl1 (by omega), q_or_nat (by omega) (by omega)]
            have n2 : q_or (σ 55 (6 + Y)) (q_shl 1 (X : Int)) = ((w ||| 2 ^ X : Nat) : Int) := by
              rw [hw, q_shl1 (by omega), q_or_nat (by omega) (by omega)]
            have n3 : u ||| 2 ^ Y < 2 ^ 6 := Nat.or_lt_two_pow (by omega) pY
            have n4 : w ||| 2 ^ X < 2 ^ 6 := Nat.or_lt_two_pow (by omega) pX
            have rdc : ∀ p t f b o g v : Int, q_put (rC σ p t f b o g) 5 X v 5 Y = σ 55 (6 + Y) := by
              intro p t f b o g v
              rw [rw_sl (by omega), rC_ne (by decide)]; exact hy.2.1
            have rdm : ∀ p s l f b v : Int, q_put (rM σ p s l f b) 55 (6 + X) v 55 (6 + Y) = σ 55 (6 + Y) := by
              intro p s l f b v
              rw [rw_sl (by omega), rM_ne (by decide)]
            have r9 : ∀ p t f b o g : Int, rC σ p t f b o g 3 9 = σ 50 19 := by
              intro p t f b o g
              rw [rC_ne (by decide)]; exact e9
            rw [if_pos b01_f, b505_64, rC_2, if_pos rfl, b505_71, b605_0, c_hasHD (by rw [r8]; omega), bS, b605_5, if_neg (by decide), b605_8, c_hasHD (by rw [r8]; omega), bS, b605_13, if_neg (by decide), b605_16 (by rw [r9]; omega), r9, Int.toNat_natCast, Int.toNat_natCast, e5, n1, rdc, n2, rC_put (by decide), rC_put (by decide), rC_put (by decide), b605_50, bN, b505_77, if_pos b01_f, b914_76, b914_81, m_wantY, bS, b914_89, if_neg (by decide), b914_92 (by rw [rM_19]; omega), rM_19, show (6 + (X : Int)).toNat = 6 + X by omega, show (6 + (Y : Int)).toNat = 6 + Y by omega, e55, n1, rdm, n2, rM_put (by decide), rM_put (by decide), rM_pu5 (by decide), b914_132]
            refine ⟨_, _, rfl, rfl, (by repeat (first | exact FC.refl | apply FC.rC | refine FC.put (by decide) ?_)), (by repeat (first | exact FM.refl | apply FM.rM | refine FM.p50 (by decide) ?_ | refine FM.p53 (by first | decide | omega) ?_ | refine FM.pH (by decide) (by first | exact Nat.le_add_right _ _ | omega) ?_ | refine FM.p60 (by first | exact Nat.le_add_right _ _ | omega) ?_)), Or.inr ⟨nE n T (nE n T e), by omega, LD.mk hB0 (by repeat (first | exact FC.refl | apply FC.rC | refine FC.put (by decide) ?_)) (by repeat (first | exact FM.refl | apply FM.rM | refine FM.p50 (by decide) ?_ | refine FM.p53 (by first | decide | omega) ?_ | refine FM.pH (by decide) (by first | exact Nat.le_add_right _ _ | omega) ?_ | refine FM.p60 (by first | exact Nat.le_add_right _ _ | omega) ?_)) ⟨rfl, rfl, by omega, rfl, rfl, rfl, rfl⟩ ?_ ?_ ?_ (hG.cg (by intro k hk; simp at hk; rcases hk with rfl | rfl | rfl | rfl | rfl | rfl | rfl | rfl | rfl | rfl | rfl | rfl <;> simp (disch := decide) only [mix_c, mix_m, rC_ne, rC_1, rC_2, rC_3, rC_4, rC_5, rC_6, rC_7, rM_ne, rM_o, rM_25, rM_26, rM_27, rM_28, rM_29, rw_ne, rw_sl, rw_eq, true_and, and_true]) (by simp (disch := decide) only [mix_c, mix_m, rC_ne, rC_1, rC_2, rC_3, rC_4, rC_5, rC_6, rC_7, rM_ne, rM_o, rM_25, rM_26, rM_27, rM_28, rM_29, rw_ne, rw_sl, rw_eq, true_and, and_true]; omega) (by simp (disch := decide) only [mix_c, mix_m, rC_ne, rC_1, rC_2, rC_3, rC_4, rC_5, rC_6, rC_7, rM_ne, rM_o, rM_25, rM_26, rM_27, rM_28, rM_29, rw_ne, rw_sl, rw_eq, true_and, and_true]))⟩⟩
            · unfold D_S
              simp (disch := decide) only [mix_c, mix_m, rC_ne, rC_1, rC_2, rC_3, rC_4, rC_5, rC_6, rC_7, rM_ne, rM_o, rM_25, rM_26, rM_27, rM_28, rM_29, rw_ne, rw_sl, rw_eq, true_and, and_true]
              omega
            · intro h hh
              revert hh
              simp (disch := decide) only [mix_c, mix_m, rC_ne, rC_1, rC_2, rC_3, rC_4, rC_5, rC_6, rC_7, rM_ne, rM_o, rM_25, rM_26, rM_27, rM_28, rM_29, rw_ne, rw_sl, rw_eq, true_and, and_true]
              intro hh
              by_cases eY : h = Y
              · subst eY
                simp (disch := decide) only [mix_c, mix_m, rC_ne, rC_1, rC_2, rC_3, rC_4, rC_5, rC_6, rC_7, rM_ne, rM_o, rM_25, rM_26, rM_27, rM_28, rM_29, rw_ne, rw_sl, rw_eq, true_and, and_true]
                omega
              · by_cases eX : h = X
                · subst eX
                  simp (disch := first | decide | omega) only [mix_c, mix_m, rC_ne, rC_1, rC_2, rC_3, rC_4, rC_5, rC_6, rC_7, rM_ne, rM_o, rM_25, rM_26, rM_27, rM_28, rM_29, rw_ne, rw_sl, rw_eq, true_and, and_true]
                  omega
                · simp (disch := first | decide | omega) only [mix_c, mix_m, rC_ne, rC_1, rC_2, rC_3, rC_4, rC_5, rC_6, rC_7, rM_ne, rM_o, rM_25, rM_26, rM_27, rM_28, rM_29, rw_ne, rw_sl, rw_eq, true_and, and_true]
                  exact hH h (by omega)
            · have nr : ∀ q : Nat, (q_put (q_put σ 55 (6 + X) ((u ||| 2 ^ Y : Nat) : Int)) 55 (6 + Y) ((w ||| 2 ^ X : Nat) : Int) 55 (6 + q)).toNat = if q = Y then w ||| 2 ^ X else if q = X then u ||| 2 ^ Y else (σ 55 (6 + q)).toNat := by
                intro q
                by_cases eY : q = Y
                · subst eY
                  rw [rw_eq, if_pos rfl, Int.toNat_natCast]
                · rw [rw_sl (by omega), if_neg eY]
                  by_cases eX : q = X
                  · subst eX
                    rw [rw_eq, if_pos rfl, Int.toNat_natCast]
                  · rw [rw_sl (by omega), if_neg eX]
              have hu2 : (σ 55 (6 + X)).toNat = u := by omega
              have hw2 : (σ 55 (6 + Y)).toNat = w := by omega
              have up : ∀ q j : Nat, (σ 55 (6 + q)).toNat.testBit j = true → (if q = Y then w ||| 2 ^ X else if q = X then u ||| 2 ^ Y else (σ 55 (6 + q)).toNat).testBit j = true := by
                intro q j hq
                by_cases eY : q = Y
                · subst eY
                  rw [hw2] at hq
                  rw [if_pos rfl, Nat.testBit_or, hq, Bool.true_or]
                · rw [if_neg eY]
                  by_cases eX : q = X
                  · subst eX
                    rw [hu2] at hq
                    rw [if_pos rfl, Nat.testBit_or, hq, Bool.true_or]
                  · rw [if_neg eX]
                    exact hq
              have hne : ¬ X = Y := fun z => hxy (by rw [z])
              intro h q hh hb
              revert hh hb
              simp (disch := decide) only [mix_c, mix_m, rC_ne, rC_1, rC_2, rC_3, rC_4, rC_5, rC_6, rC_7, rM_ne, rM_o, rM_25, rM_26, rM_27, rM_28, rM_29, rw_ne, rw_sl, rw_eq, true_and, and_true]
              intro hh hb
              rw [nr] at hb ⊢
              by_cases eY : h = Y
              · subst eY
                rw [if_pos rfl, Nat.testBit_or, Bool.or_eq_true, Nat.testBit_two_pow, decide_eq_true_iff] at hb
                rcases hb with hb | hb
                · obtain ⟨z1, z2, z3⟩ := hW h q (by omega) (by rw [hw2]; exact hb)
                  exact ⟨z1, z2, up q h z3⟩
                · subst hb
                  refine ⟨by omega, hne, ?_⟩
                  rw [if_neg hne, if_pos rfl, Nat.testBit_or, Nat.testBit_two_pow, decide_eq_true rfl, Bool.or_true]
              · rw [if_neg eY] at hb
                by_cases eX : h = X
                · subst eX
                  rw [if_pos rfl, Nat.testBit_or, Bool.or_eq_true, Nat.testBit_two_pow, decide_eq_true_iff] at hb
                  rcases hb with hb | hb
                  · obtain ⟨z1, z2, z3⟩ := hW h q (by omega) (by rw [hu2]; exact hb)
                    exact ⟨z1, z2, up q h z3⟩
                  · subst hb
                    refine ⟨by omega, fun z => hne z.symm, ?_⟩
                    rw [if_pos rfl, Nat.testBit_or, Nat.testBit_two_pow, decide_eq_true rfl, Bool.or_true]
                · rw [if_neg eX] at hb
                  obtain ⟨z1, z2, z3⟩ := hW h q (by omega) hb
                  exact ⟨z1, z2, up q h z3⟩
          · rw [if_neg (by decide), b505_59, b515_0, rC_5, rC_p2, rC_p3, bN, b505_64, rC_2, if_neg (by decide), b505_77, if_neg (by decide), b914_80, b914_81, rM_26, m_wantN (by decide), bS, b914_89, if_pos rfl, b914_132]
            exact ⟨_, _, rfl, rfl, OUT.bad (f := 4) (by repeat (first | exact FC.refl | apply FC.rC | refine FC.put (by decide) ?_)) (by repeat (first | exact FM.refl | apply FM.rM | refine FM.p50 (by decide) ?_ | refine FM.p53 (by first | decide | omega) ?_ | refine FM.pH (by decide) (by first | exact Nat.le_add_right _ _ | omega) ?_ | refine FM.p60 (by first | exact Nat.le_add_right _ _ | omega) ?_)) (by decide) rfl rfl rfl rfl⟩
      · obtain ⟨v, hv⟩ := m_numN (s := (nA n T e : Nat)) (l := l) (b := -1) hT hY g1.2.2.2 f2
        have g2 := nF_bad f2
        rw [c_numN hT hX g1.2.2.2 f2, bS, b505_34, rC_2, if_neg f2, b505_64, rC_2, if_neg f2, b505_77, hv, bS, b914_46, rM_28, if_neg f2, b914_132]
        exact ⟨_, _, rfl, rfl, OUT.bad (by repeat (first | exact FC.refl | apply FC.rC | refine FC.put (by decide) ?_)) (by repeat (first | exact FM.refl | apply FM.rM | refine FM.p50 (by decide) ?_ | refine FM.p53 (by first | decide | omega) ?_ | refine FM.pH (by decide) (by first | exact Nat.le_add_right _ _ | omega) ?_ | refine FM.p60 (by first | exact Nat.le_add_right _ _ | omega) ?_)) ⟨g2.1, g2.2.1⟩ rfl rfl rfl rfl⟩
    · obtain ⟨v, hv⟩ := m_numN (s := (a : Int)) (l := l) (b := -1) hT hY hen f1
      have g1 := nF_bad f1
      rw [c_numN hT hX hen f1, bS, b505_22 (by rw [r8]; omega), r8, c_num0 f1, bS, b505_34, rC_2, if_neg f1, b505_64, rC_2, if_neg f1, b505_77, hv, bS, b914_34 (by rw [rM_17]; omega), rM_17, m_num0 g1.2.2, bS, b914_46, rM_28, if_neg f1, b914_132]
      exact ⟨_, _, rfl, rfl, OUT.bad (by repeat (first | exact FC.refl | apply FC.rC | refine FC.put (by decide) ?_)) (by repeat (first | exact FM.refl | apply FM.rM | refine FM.p50 (by decide) ?_ | refine FM.p53 (by first | decide | omega) ?_ | refine FM.pH (by decide) (by first | exact Nat.le_add_right _ _ | omega) ?_ | refine FM.p60 (by first | exact Nat.le_add_right _ _ | omega) ?_)) ⟨g1.1, g1.2.1⟩ rfl rfl rfl rfl⟩
  · rw [c_cntN h0 (show (e : Int) = (a : Int) + 3 by omega) (by omega), bN, b505_11 (by rw [r8]; omega), r8, c_num0 (by decide), bS, b505_22 (by rw [r8]; omega), r8, c_num0 (by decide), bS, b505_34, rC_2, if_neg (by decide), b505_64, rC_2, if_neg (by decide), b505_77, if_neg h0, b914_14, b914_15, m_wantN (by decide), bS, b914_20, if_pos rfl, b914_132]
    exact ⟨_, _, rfl, rfl, OUT.bad (f := 3) (by repeat (first | exact FC.refl | apply FC.rC | refine FC.put (by decide) ?_)) (by repeat (first | exact FM.refl | apply FM.rM | refine FM.p50 (by decide) ?_ | refine FM.p53 (by first | decide | omega) ?_ | refine FM.pH (by decide) (by first | exact Nat.le_add_right _ _ | omega) ?_ | refine FM.p60 (by first | exact Nat.le_add_right _ _ | omega) ?_)) (by decide) rfl rfl rfl rfl⟩
end LG
