/-! ===== list: shoe, she, house ===== -/
section LS
variable {σ : SS} {n : Nat} {T : Nat → Int}
theorem l_she {a e : Nat} {l : Int} (hB : LB σ n T) (he : e = a + 3) (hen : e ≤ n) : ∃ σ1 σ2, ev 508 0 [qR 1, qR 3] [] (rC σ (a : Int) (a : Int) 0 (-1) (σ 1 6) (σ 1 7)) = some (none, σ1) ∧ ev 912 0 [qR 50, qI (a : Int)] [] (rM σ (e : Int) (a : Int) l 0 (-1)) = some (none, σ2) ∧ OUT n T σ σ1 σ2 a := by
  have hB0 := hB
  obtain ⟨hT, hX, hY, hS, hH, hW, hG⟩ := hB
  have h3 := hT.1
  unfold D_S at hS
  have ho := once_4 (o := σ 50 21) (by omega)
  have e6 : σ 1 6 = σ 50 21 := by omega
  have e10 : σ 3 10 = σ 50 18 := by omega
  have mh : ev 902 0 [qI (rM σ (e : Int) (a : Int) l 0 (-1) 50 21), qI 2] [] (rM σ (e : Int) (a : Int) l 0 (-1)) = some (some (qI (b01 ((σ 50 21).toNat.testBit 2))), rM σ (e : Int) (a : Int) l 0 (-1)) := by
    rw [rM_21, m_has (by omega)]; rfl
  rw [e6, b508_0, b912_0, mh, bS, b912_9]
  by_cases h0 : q_and (σ 50 21) 4 = 0
  · rw [c_onceY h0 (show (e : Int) = (a : Int) + 3 by omega) (by omega), bN, ho.1.mp h0, if_pos b01_f, b912_12, b912_17, m_wantY, bS, b912_22, if_neg (by decide), b912_25 (by rw [rM_18]; omega), rM_21, rM_18, rM_pu5 (by decide), b508_6 (by rw [rC_ne (by decide)]; omega), rC_ne (show 3 ≠ 1 by decide), e10]
    by_cases f1 : nF n T e 0 (σ 50 18 - 1) = 0
    · have g1 := nF_ok hen f1
      rw [c_numY hT hX hen f1, bS, b508_18, rC_put (by decide), m_numY hT (hY.put (by decide)) hen f1, bS, b912_47, b912_50, rM_pu5 (by decide)]
      refine ⟨_, _, rfl, rfl, (by repeat (first | exact FC.refl | apply FC.rC | refine FC.put (by decide) ?_)), (by repeat (first | exact FM.refl | apply FM.rM | refine FM.p50 (by decide) ?_ | refine FM.p53 (by omega) ?_ | refine FM.pH (by decide) (by omega) ?_ | refine FM.p60 (by omega) ?_)), Or.inr ⟨nE n T e, by omega, LD.mk hB0 (by repeat (first | exact FC.refl | apply FC.rC | refine FC.put (by decide) ?_)) (by repeat (first | exact FM.refl | apply FM.rM | refine FM.p50 (by decide) ?_ | refine FM.p53 (by omega) ?_ | refine FM.pH (by decide) (by omega) ?_ | refine FM.p60 (by omega) ?_)) ⟨rfl, rfl, by omega, rfl, rfl, rfl, rfl⟩ ?_ (hH.cg (by intro k hk; simp at hk; rcases hk with rfl | rfl | rfl | rfl <;> simp (disch := decide) only [mix_c, mix_m, rC_ne, rC_1, rC_2, rC_3, rC_4, rC_5, rC_6, rC_7, rM_ne, rM_o, rM_25, rM_26, rM_27, rM_28, rM_29, rw_ne, rw_sl, rw_eq, true_and, and_true]) (by simp (disch := decide) only [mix_c, mix_m, rC_ne, rC_1, rC_2, rC_3, rC_4, rC_5, rC_6, rC_7, rM_ne, rM_o, rM_25, rM_26, rM_27, rM_28, rM_29, rw_ne, rw_sl, rw_eq, true_and, and_true])) (hW.cg (by simp (disch := decide) only [mix_c, mix_m, rC_ne, rC_1, rC_2, rC_3, rC_4, rC_5, rC_6, rC_7, rM_ne, rM_o, rM_25, rM_26, rM_27, rM_28, rM_29, rw_ne, rw_sl, rw_eq, true_and, and_true]) (by simp (disch := decide) only [mix_c, mix_m, rC_ne, rC_1, rC_2, rC_3, rC_4, rC_5, rC_6, rC_7, rM_ne, rM_o, rM_25, rM_26, rM_27, rM_28, rM_29, rw_ne, rw_sl, rw_eq, true_and, and_true])) (hG.cg (by intro k hk; simp at hk; rcases hk with rfl | rfl | rfl | rfl | rfl | rfl | rfl | rfl | rfl | rfl | rfl | rfl <;> simp (disch := decide) only [mix_c, mix_m, rC_ne, rC_1, rC_2, rC_3, rC_4, rC_5, rC_6, rC_7, rM_ne, rM_o, rM_25, rM_26, rM_27, rM_28, rM_29, rw_ne, rw_sl, rw_eq, true_and, and_true]) (by simp (disch := decide) only [mix_c, mix_m, rC_ne, rC_1, rC_2, rC_3, rC_4, rC_5, rC_6, rC_7, rM_ne, rM_o, rM_25, rM_26, rM_27, rM_28, rM_29, rw_ne, rw_sl, rw_eq, true_and, and_true]; omega) (by simp (disch := decide) only [mix_c, mix_m, rC_ne, rC_1, rC_2, rC_3, rC_4, rC_5, rC_6, rC_7, rM_ne, rM_o, rM_25, rM_26, rM_27, rM_28, rM_29, rw_ne, rw_sl, rw_eq, true_and, and_true]))⟩⟩
      unfold D_S
      simp (disch := decide) only [mix_c, mix_m, rC_ne, rC_1, rC_2, rC_3, rC_4, rC_5, rC_6, rC_7, rM_ne, rM_o, rM_25, rM_26, rM_27, rM_28, rM_29, rw_ne, rw_sl, rw_eq, true_and, and_true]
      omega
    · obtain ⟨v, hv⟩ := m_numN (σ := q_put σ 50 21 (q_or (σ 50 21) 4)) (s := (a : Int)) (l := l) (b := -1) hT (hY.put (by decide)) hen f1
      have g1 := nF_bad f1
      rw [c_numN hT hX hen f1, bS, b508_18, rC_put (by decide), hv, bS, b912_47, b912_50, rM_pu5 (by decide)]
      exact ⟨_, _, rfl, rfl, OUT.bad (by repeat (first | exact FC.refl | apply FC.rC | refine FC.put (by decide) ?_)) (by repeat (first | exact FM.refl | apply FM.rM | refine FM.p50 (by decide) ?_ | refine FM.p53 (by omega) ?_ | refine FM.pH (by decide) (by omega) ?_ | refine FM.p60 (by omega) ?_)) ⟨g1.1, g1.2.1⟩ rfl rfl rfl rfl⟩
  · have hb : (σ 50 21).toNat.testBit 2 = true := by
      cases hz : (σ 50 21).toNat.testBit 2
      · exact absurd (ho.1.mpr hz) h0
      · rfl
    rw [c_onceN h0 (show (e : Int) = (a : Int) + 3 by omega) (by omega), bN, b508_6 (by rw [rC_ne (by decide)]; omega), c_num0 (by decide), bS, b508_18, rC_put (by decide), hb, if_neg (by decide), b912_16, b912_17, m_wantN (by decide), bS, b912_22, if_pos rfl, b912_50]
    exact ⟨_, _, rfl, rfl, OUT.bad (f := 3) (by repeat (first | exact FC.refl | apply FC.rC | refine FC.put (by decide) ?_)) (by repeat (first | exact FM.refl | apply FM.rM | refine FM.p50 (by decide) ?_ | refine FM.p53 (by omega) ?_ | refine FM.pH (by decide) (by omega) ?_ | refine FM.p60 (by omega) ?_)) (by decide) rfl rfl rfl rfl⟩
theorem l_shoe {a e : Nat} {l : Int} (hB : LB σ n T) (he : e = a + 4) (hen : e ≤ n) : ∃ σ1 σ2, ev 502 0 [qR 1, qR 3] [] (rC σ (a : Int) (a : Int) 0 (-1) (σ 1 6) (σ 1 7)) = some (none, σ1) ∧ ev 910 0 [qR 50, qI (a : Int)] [] (rM σ (e : Int) (a : Int) l 0 (-1)) = some (none, σ2) ∧ OUT n T σ σ1 σ2 a := by
  have hB0 := hB
  obtain ⟨hT, hX, hY, hS, hH, hW, hG⟩ := hB
  have h3 := hT.1
  unfold D_S at hS
  have ho := once_1 (o := σ 50 21) (by omega)
  have e6 : σ 1 6 = σ 50 21 := by omega
  have mh : ev 902 0 [qI (rM σ (e : Int) (a : Int) l 0 (-1) 50 21), qI 0] [] (rM σ (e : Int) (a : Int) l 0 (-1)) = some (some (qI (b01 ((σ 50 21).toNat.testBit 0))), rM σ (e : Int) (a : Int) l 0 (-1)) := by
    rw [rM_21, m_has (by omega)]; rfl
  have t3 : (3 : Int).toNat = 3 := rfl
  have t4 : (4 : Int).toNat = 4 := rfl
  have t5 : (5 : Int).toNat = 5 := rfl
  have hY1 : ∀ v1 v2 : Int, TY (q_put (q_put (q_put σ 50 21 (q_or (σ 50 21) 1)) 53 3 v1) 53 4 v2) n T := fun v1 v2 => ((hY.put (by decide)).put (by decide)).put (by decide)
  have hX1 : ∀ v1 v2 : Int, TX (q_put (q_put σ 3 11 v1) 3 12 v2) n T := fun v1 v2 => (hX.put (by decide)).put (by decide)
  rw [e6, b502_0, b910_0, mh, bS, b910_9]
  by_cases h0 : q_and (σ 50 21) 1 = 0
  · rw [c_onceY h0 (show (e : Int) = (a : Int) + 4 by omega) (by omega), bN, ho.1.mp h0, if_pos b01_f, b910_12, b910_17, m_wantY, bS, b910_22, if_neg (by decide), b910_25, rM_21, rM_pu5 (by decide), b502_6]
    by_cases f1 : nF n T e 1 99 = 0
    · have g1 := nF_ok hen f1
      rw [c_numY hT hX hen f1, bS, b502_14, rC_put (by decide), m_numY hT (hY.put (by decide)) hen f1, bS, b910_47 (by decide), t3, rM_put (by decide)]
      by_cases f2 : nF n T (nE n T e) 0 9 = 0
      · have g2 := nF_ok g1.2.2.2 f2
        rw [c_numY hT (hX.put (by decide)) g1.2.2.2 f2, bS, b502_25, rC_put (by decide), m_numY hT ((hY.put (by decide)).put (by decide)) g1.2.2.2 f2, bS, b910_60 (by decide), t4, rM_put (by decide)]
        by_cases f4 : nF n T (nE n T (nE n T e)) 0 99 = 0
        · have g4 := nF_ok g2.2.2.2 f4
          rw [c_numY hT (hX1 _ _) g2.2.2.2 f4, bS, b502_36, rC_put (by decide), m_numY hT (hY1 _ _) g2.2.2.2 f4, bS, b910_73 (by decide), t5, rM_put (by decide), b910_74]
          refine ⟨_, _, rfl, rfl, (by repeat (first | exact FC.refl | apply FC.rC | refine FC.put (by decide) ?_)), (by repeat (first | exact FM.refl | apply FM.rM | refine FM.p50 (by decide) ?_ | refine FM.p53 (by omega) ?_ | refine FM.pH (by decide) (by omega) ?_ | refine FM.p60 (by omega) ?_)), Or.inr ⟨nE n T (nE n T (nE n T e)), by omega, LD.mk hB0 (by repeat (first | exact FC.refl | apply FC.rC | refine FC.put (by decide) ?_)) (by repeat (first | exact FM.refl | apply FM.rM | refine FM.p50 (by decide) ?_ | refine FM.p53 (by omega) ?_ | refine FM.pH (by decide) (by omega) ?_ | refine FM.p60 (by omega) ?_)) ⟨rfl, rfl, by omega, rfl, rfl, rfl, rfl⟩ ?_ (hH.cg (by intro k hk; simp at hk; rcases hk with rfl | rfl | rfl | rfl <;> simp (disch := decide) only [mix_c, mix_m, rC_ne, rC_1, rC_2, rC_3, rC_4, rC_5, rC_6, rC_7, rM_ne, rM_o, rM_25, rM_26, rM_27, rM_28, rM_29, rw_ne, rw_sl, rw_eq, true_and, and_true]) (by simp (disch := decide) only [mix_c, mix_m, rC_ne, rC_1, rC_2, rC_3, rC_4, rC_5, rC_6, rC_7, rM_ne, rM_o, rM_25, rM_26, rM_27, rM_28, rM_29, rw_ne, rw_sl, rw_eq, true_and, and_true])) (hW.cg (by simp (disch := decide) only [mix_c, mix_m, rC_ne, rC_1, rC_2, rC_3, rC_4, rC_5, rC_6, rC_7, rM_ne, rM_o, rM_25, rM_26, rM_27, rM_28, rM_29, rw_ne, rw_sl, rw_eq, true_and, and_true]) (by simp (disch := decide) only [mix_c, mix_m, rC_ne, rC_1, rC_2, rC_3, rC_4, rC_5, rC_6, rC_7, rM_ne, rM_o, rM_25, rM_26, rM_27, rM_28, rM_29, rw_ne, rw_sl, rw_eq, true_and, and_true])) (hG.cg (by intro k hk; simp at hk; rcases hk with rfl | rfl | rfl | rfl | rfl | rfl | rfl | rfl | rfl | rfl | rfl | rfl <;> simp (disch := decide) only [mix_c, mix_m, rC_ne, rC_1, rC_2, rC_3, rC_4, rC_5, rC_6, rC_7, rM_ne, rM_o, rM_25, rM_26, rM_27, rM_28, rM_29, rw_ne, rw_sl, rw_eq, true_and, and_true]) (by simp (disch := decide) only [mix_c, mix_m, rC_ne, rC_1, rC_2, rC_3, rC_4, rC_5, rC_6, rC_7, rM_ne, rM_o, rM_25, rM_26, rM_27, rM_28, rM_29, rw_ne, rw_sl, rw_eq, true_and, and_true]; omega) (by simp (disch := decide) only [mix_c, mix_m, rC_ne, rC_1, rC_2, rC_3, rC_4, rC_5, rC_6, rC_7, rM_ne, rM_o, rM_25, rM_26, rM_27, rM_28, rM_29, rw_ne, rw_sl, rw_eq, true_and, and_true]))⟩⟩
          unfold D_S
          simp (disch := decide) only [mix_c, mix_m, rC_ne, rC_1, rC_2, rC_3, rC_4, rC_5, rC_6, rC_7, rM_ne, rM_o, rM_25, rM_26, rM_27, rM_28, rM_29, rw_ne, rw_sl, rw_eq, true_and, and_true]
          omega
        · obtain ⟨v, hv⟩ := m_numN (s := (nA n T (nE n T e) : Nat)) (l := l) (b := -1) hT (hY1 (nV n T e) (nV n T (nE n T e))) g2.2.2.2 f4
          have g4 := nF_bad f4
          rw [c_numN hT (hX1 _ _) g2.2.2.2 f4, bS, b502_36, rC_put (by decide), hv, bS, b910_73 (by decide), t5, rM_put (by decide), b910_74]
          exact ⟨_, _, rfl, rfl, OUT.bad (by repeat (first | exact FC.refl | apply FC.rC | refine FC.put (by decide) ?_)) (by repeat (first | exact FM.refl | apply FM.rM | refine FM.p50 (by decide) ?_ | refine FM.p53 (by omega) ?_ | refine FM.pH (by decide) (by omega) ?_ | refine FM.p60 (by omega) ?_)) ⟨g4.1, g4.2.1⟩ rfl rfl rfl rfl⟩
      · obtain ⟨v, hv⟩ := m_numN (σ := q_put (q_put σ 50 21 (q_or (σ 50 21) 1)) 53 3 (nV n T e)) (s := (nA n T e : Nat)) (l := l) (b := -1) hT ((hY.put (by decide)).put (by decide)) g1.2.2.2 f2
        have g2 := nF_bad f2
        rw [c_numN hT (hX.put (by decide)) g1.2.2.2 f2, bS, b502_25, rC_put (by decide), c_num0 f2, bS, b502_36, rC_put (by decide), hv, bS, b910_60 (by decide), t4, rM_put (by decide), m_num0 g2.2.2, bS, b910_73 (by decide), t5, rM_put (by decide), b910_74]
        exact ⟨_, _, rfl, rfl, OUT.bad (by repeat (first | exact FC.refl | apply FC.rC | refine FC.put (by decide) ?_)) (by repeat (first | exact FM.refl | apply FM.rM | refine FM.p50 (by decide) ?_ | refine FM.p53 (by omega) ?_ | refine FM.pH (by decide) (by omega) ?_ | refine FM.p60 (by omega) ?_)) ⟨g2.1, g2.2.1⟩ rfl rfl rfl rfl⟩
    · obtain ⟨v, hv⟩ := m_numN (σ := q_put σ 50 21 (q_or (σ 50 21) 1)) (s := (a : Int)) (l := l) (b := -1) hT (hY.put (by decide)) hen f1
      have g1 := nF_bad f1
      rw [c_numN hT hX hen f1, bS, b502_14, rC_put (by decide), c_num0 f1, bS, b502_25, rC_put (by decide), c_num0 f1, bS, b502_36, rC_put (by decide), hv, bS, b910_47 (by decide), t3, rM_put (by decide), m_num0 g1.2.2, bS, b910_60 (by decide), t4, rM_put (by decide), m_num0 g1.2.2, bS, b910_73 (by decide), t5, rM_put (by decide), b910_74]
      exact ⟨_, _, rfl, rfl, OUT.bad (by repeat (first | exact FC.refl | apply FC.rC | refine FC.put (by decide) ?_)) (by repeat (first | exact FM.refl | apply FM.rM | refine FM.p50 (by decide) ?_ | refine FM.p53 (by omega) ?_ | refine FM.pH (by decide) (by omega) ?_ | refine FM.p60 (by omega) ?_)) ⟨g1.1, g1.2.1⟩ rfl rfl rfl rfl⟩
  · have hb : (σ 50 21).toNat.testBit 0 = true := by
      cases hz : (σ 50 21).toNat.testBit 0
      · exact absurd (ho.1.mpr hz) h0
      · rfl
    rw [c_onceN h0 (show (e : Int) = (a : Int) + 4 by omega) (by omega), bN, b502_6, c_num0 (by decide), bS, b502_14, rC_put (by decide), c_num0 (by decide), bS, b502_25, rC_put (by decide), c_num0 (by decide), bS, b502_36, rC_put (by decide), hb, if_neg (by decide), b910_16, b910_17, m_wantN (by decide), bS, b910_22, if_pos rfl, b910_74]
    exact ⟨_, _, rfl, rfl, OUT.bad (f := 3) (by repeat (first | exact FC.refl | apply FC.rC | refine FC.put (by decide) ?_)) (by repeat (first | exact FM.refl | apply FM.rM | refine FM.p50 (by decide) ?_ | refine FM.p53 (by omega) ?_ | refine FM.pH (by decide) (by omega) ?_ | refine FM.p60 (by omega) ?_)) (by decide) rfl rfl rfl rfl⟩
theorem l_house {a e : Nat} {l : Int} (hB : LB σ n T) (he : e = a + 5) (hen : e ≤ n) : ∃ σ1 σ2, ev 504 0 [qR 1, qR 3, qU] [] (rC σ (a : Int) (a : Int) 0 (-1) (σ 1 6) (σ 1 7)) = some (none, σ1) ∧ ev 913 0 [qR 50, qI (a : Int)] [] (rM σ (e : Int) (a : Int) l 0 (-1)) = some (none, σ2) ∧ OUT n T σ σ1 σ2 a := by
  have hB0 := hB
  obtain ⟨hT, hX, hY, hS, hH, hW, hG⟩ := hB
  have h3 := hT.1
  unfold D_S at hS
  have e8 : σ 3 8 = σ 50 17 := by omega
  rw [b504_0, rC_ne (show 3 ≠ 1 by decide), e8, b913_0, rM_17]
  by_cases h0 : σ 50 17 < 6
  · rw [c_cntY h0 (show (e : Int) = (a : Int) + 5 by omega) (by omega), bN, if_pos h0, b913_10, b913_15, m_wantY, bS, b913_20, if_neg (by decide), b913_23 (by rw [rM_17]; omega), rM_17, b504_11]
    by_cases f1 : nF n T e 0 9 = 0
    · have g1 := nF_ok hen f1
      have e6 : (6 + σ 50 17).toNat = 6 + (σ 50 17).toNat := by omega
      rw [c_numY hT hX hen f1, bS, b504_18, rC_2, if_pos rfl, b504_26, b604_0, rC_ne (show 3 ≠ 1 by decide), e8, if_pos h0, b604_9 (by rw [rC_ne (by decide)]; omega), rC_ne (show 3 ≠ 1 by decide), e8, rC_put (by decide), rC_put (by decide), rC_put (by decide), b604_39, bN, b504_31, m_numY hT hY hen f1, bS, b913_41 (by rw [rM_17]; omega), rM_17, rM_put (by decide), rM_put (by decide), rM_pu5 (by decide), b913_65, e6]
      obtain ⟨H, hHn⟩ : ∃ H : Nat, σ 50 17 = (H : Int) := ⟨(σ 50 17).toNat, by omega⟩
      rw [hHn, Int.toNat_natCast]
      refine ⟨_, _, rfl, rfl, (by repeat (first | exact FC.refl | apply FC.rC | refine FC.put (by decide) ?_)), (by repeat (first | exact FM.refl | apply FM.rM | refine FM.p50 (by decide) ?_ | refine FM.p53 (by omega) ?_ | refine FM.pH (by decide) (by omega) ?_ | refine FM.p60 (by omega) ?_)), Or.inr ⟨nE n T e, by omega, LD.mk hB0 (by repeat (first | exact FC.refl | apply FC.rC | refine FC.put (by decide) ?_)) (by repeat (first | exact FM.refl | apply FM.rM | refine FM.p50 (by decide) ?_ | refine FM.p53 (by omega) ?_ | refine FM.pH (by decide) (by omega) ?_ | refine FM.p60 (by omega) ?_)) ⟨rfl, rfl, by omega, rfl, rfl, rfl, rfl⟩ ?_ ?_ ?_ ?_⟩⟩
      · unfold D_S
        simp (disch := decide) only [mix_c, mix_m, rC_ne, rC_1, rC_2, rC_3, rC_4, rC_5, rC_6, rC_7, rM_ne, rM_o, rM_25, rM_26, rM_27, rM_28, rM_29, rw_ne, rw_sl, rw_eq, true_and, and_true]
        omega
      · intro h hh
        simp (disch := decide) only [mix_c, mix_m, rC_ne, rC_1, rC_2, rC_3, rC_4, rC_5, rC_6, rC_7, rM_ne, rM_o, rM_25, rM_26, rM_27, rM_28, rM_29, rw_ne, rw_sl, rw_eq, true_and, and_true]
        revert hh
        simp (disch := decide) only [mix_c, mix_m, rC_ne, rC_1, rC_2, rC_3, rC_4, rC_5, rC_6, rC_7, rM_ne, rM_o, rM_25, rM_26, rM_27, rM_28, rM_29, rw_ne, rw_sl, rw_eq, true_and, and_true]
        intro hh
        by_cases eh : h = H
        · subst eh
          simp (disch := decide) only [mix_c, mix_m, rC_ne, rC_1, rC_2, rC_3, rC_4, rC_5, rC_6, rC_7, rM_ne, rM_o, rM_25, rM_26, rM_27, rM_28, rM_29, rw_ne, rw_sl, rw_eq, true_and, and_true]
          omega
        · simp (disch := first | decide | omega) only [mix_c, mix_m, rC_ne, rC_1, rC_2, rC_3, rC_4, rC_5, rC_6, rC_7, rM_ne, rM_o, rM_25, rM_26, rM_27, rM_28, rM_29, rw_ne, rw_sl, rw_eq, true_and, and_true]
          exact hH h (by omega)
      · intro h q hh hb
        revert hh hb
        simp (disch := decide) only [mix_c, mix_m, rC_ne, rC_1, rC_2, rC_3, rC_4, rC_5, rC_6, rC_7, rM_ne, rM_o, rM_25, rM_26, rM_27, rM_28, rM_29, rw_ne, rw_sl, rw_eq, true_and, and_true]
        intro hh hb
        rw [rw_at] at hb ⊢
        by_cases eh : h = H
        · subst eh
          rw [if_pos ⟨rfl, rfl⟩] at hb
          simp at hb
        · rw [if_neg (by omega)] at hb
          obtain ⟨w1, w2, w3⟩ := hW h q (by omega) hb
          rw [if_neg (by omega)]
          exact ⟨by omega, w2, w3⟩
      · exact (hG.cg (by intro k hk; simp at hk; rcases hk with rfl | rfl | rfl | rfl | rfl | rfl | rfl | rfl | rfl | rfl | rfl | rfl <;> simp (disch := decide) only [mix_c, mix_m, rC_ne, rC_1, rC_2, rC_3, rC_4, rC_5, rC_6, rC_7, rM_ne, rM_o, rM_25, rM_26, rM_27, rM_28, rM_29, rw_ne, rw_sl, rw_eq, true_and, and_true]) (by simp (disch := decide) only [mix_c, mix_m, rC_ne, rC_1, rC_2, rC_3, rC_4, rC_5, rC_6, rC_7, rM_ne, rM_o, rM_25, rM_26, rM_27, rM_28, rM_29, rw_ne, rw_sl, rw_eq, true_and, and_true]; omega) (by simp (disch := decide) only [mix_c, mix_m, rC_ne, rC_1, rC_2, rC_3, rC_4, rC_5, rC_6, rC_7, rM_ne, rM_o, rM_25, rM_26, rM_27, rM_28, rM_29, rw_ne, rw_sl, rw_eq, true_and, and_true]))
    · obtain ⟨v, hv⟩ := m_numN (σ := σ) (s := (a : Int)) (l := l) (b := -1) hT hY hen f1
      have g1 := nF_bad f1
      have e6 : (6 + σ 50 17).toNat = 6 + (σ 50 17).toNat := by omega
      rw [c_numN hT hX hen f1, bS, b504_18, rC_2, if_neg f1, b504_31, hv, bS, b913_41 (by rw [rM_17]; omega), rM_17, rM_put (by decide), rM_put (by decide), rM_pu5 (by decide), b913_65, e6]
      exact ⟨_, _, rfl, rfl, OUT.bad (by repeat (first | exact FC.refl | apply FC.rC | refine FC.put (by decide) ?_)) (by repeat (first | exact FM.refl | apply FM.rM | refine FM.p50 (by decide) ?_ | refine FM.p53 (by omega) ?_ | refine FM.pH (by decide) (by omega) ?_ | refine FM.p60 (by omega) ?_)) ⟨g1.1, g1.2.1⟩ rfl rfl rfl rfl⟩
  · rw [c_cntN h0 (show (e : Int) = (a : Int) + 5 by omega) (by omega), bN, b504_11, c_num0 (by decide), bS, b504_18, rC_2, if_neg (by decide), b504_31, if_neg h0, b913_14, b913_15, m_wantN (by decide), bS, b913_20, if_pos rfl, b913_65]
    exact ⟨_, _, rfl, rfl, OUT.bad (f := 3) (by repeat (first | exact FC.refl | apply FC.rC | refine FC.put (by decide) ?_)) (by repeat (first | exact FM.refl | apply FM.rM | refine FM.p50 (by decide) ?_ | refine FM.p53 (by omega) ?_ | refine FM.pH (by decide) (by omega) ?_ | refine FM.p60 (by omega) ?_)) (by decide) rfl rfl rfl rfl⟩
end LS
