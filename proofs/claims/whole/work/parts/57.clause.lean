/-! ===== list: a clause, and the end ===== -/
section LI
variable {σ : SS} {n : Nat} {T : Nat → Int}
set_option maxHeartbeats 4000000 in
theorem l_clause {a : Nat} {s l : Int} (hB : LB σ n T) (han : a ≤ n) (ha2 : scan isBl n T a = a) : ∃ σ1 σ2, ev 501 0 [qR 1, qR 3, qU] [] (rC σ (a : Int) (a : Int) 0 (-1) (σ 1 6) (σ 1 7)) = some (none, σ1) ∧ ev 918 0 [qR 50, qU] [] (rM σ (a : Int) s l 0 (-1)) = some (none, σ2) ∧ OUT n T σ σ1 σ2 a := by
  have hB0 := hB
  obtain ⟨hT, hX, hY, -⟩ := hB
  have hz := scan_sp isLe n T a
  obtain ⟨e, hee⟩ : ∃ e, scan isLe n T a = e := ⟨_, rfl⟩
  rw [hee] at hz
  have hae := hz.1
  have hen := hz.2.1 han
  have tk := l_take (σ := σ) (s := s) (l := l) (f := 0) (b := -1) hT hY han
  rw [ha2, hee] at tk
  have we := c_wend (τ := rC σ (a : Int) (a : Int) 0 (-1) (σ 1 6) (σ 1 7)) (p := a) hT hX.rC rC_4
  rw [hee] at we
  have cw : ∀ k : Nat, 100 ≤ k ∧ k < 107 → ev 518 0 [qR 1, qR k, qI (e : Int), qU] [] (rC σ (a : Int) (a : Int) 0 (-1) (σ 1 6) (σ 1 7)) = some (some (qI (b01 (wrd T a e (q_strs.getD (k - 100) [])))), rC σ (a : Int) (a : Int) 0 (-1) (σ 1 6) (σ 1 7)) := fun k hk => c_word hT hX.rC rC_4 hk hae hen
  have c0 : ev 518 0 [qR 1, qR 100, qI (e : Int), qU] [] (rC σ (a : Int) (a : Int) 0 (-1) (σ 1 6) (σ 1 7)) = some (some (qI (b01 (wrd T a e [115, 104, 111, 101]))), rC σ (a : Int) (a : Int) 0 (-1) (σ 1 6) (σ 1 7)) := cw 100 (by decide)
  have c1 : ev 518 0 [qR 1, qR 101, qI (e : Int), qU] [] (rC σ (a : Int) (a : Int) 0 (-1) (σ 1 6) (σ 1 7)) = some (some (qI (b01 (wrd T a e [110, 111, 111, 110]))), rC σ (a : Int) (a : Int) 0 (-1) (σ 1 6) (σ 1 7)) := cw 101 (by decide)
  have c2 : ev 518 0 [qR 1, qR 102, qI (e : Int), qU] [] (rC σ (a : Int) (a : Int) 0 (-1) (σ 1 6) (σ 1 7)) = some (some (qI (b01 (wrd T a e [104, 111, 117, 115, 101]))), rC σ (a : Int) (a : Int) 0 (-1) (σ 1 6) (σ 1 7)) := cw 102 (by decide)
  have c3 : ev 518 0 [qR 1, qR 103, qI (e : Int), qU] [] (rC σ (a : Int) (a : Int) 0 (-1) (σ 1 6) (σ 1 7)) = some (some (qI (b01 (wrd T a e [119, 97, 121]))), rC σ (a : Int) (a : Int) 0 (-1) (σ 1 6) (σ 1 7)) := cw 103 (by decide)
  have c4 : ev 518 0 [qR 1, qR 104, qI (e : Int), qU] [] (rC σ (a : Int) (a : Int) 0 (-1) (σ 1 6) (σ 1 7)) = some (some (qI (b01 (wrd T a e [103, 105, 114, 108]))), rC σ (a : Int) (a : Int) 0 (-1) (σ 1 6) (σ 1 7)) := cw 104 (by decide)
  have c5 : ev 518 0 [qR 1, qR 105, qI (e : Int), qU] [] (rC σ (a : Int) (a : Int) 0 (-1) (σ 1 6) (σ 1 7)) = some (some (qI (b01 (wrd T a e [103, 97, 105, 116]))), rC σ (a : Int) (a : Int) 0 (-1) (σ 1 6) (σ 1 7)) := cw 105 (by decide)
  have c6 : ev 518 0 [qR 1, qR 106, qI (e : Int), qU] [] (rC σ (a : Int) (a : Int) 0 (-1) (σ 1 6) (σ 1 7)) = some (some (qI (b01 (wrd T a e [115, 104, 101]))), rC σ (a : Int) (a : Int) 0 (-1) (σ 1 6) (σ 1 7)) := cw 106 (by decide)
  have mw : ∀ (w : List Int) (l0 l1 l2 l3 l4 : Int), w.length ≤ 5 → (∀ m, m < w.length → w.getD m 0 = if m = 0 then l0 else if m = 1 then l1 else if m = 2 then l2 else if m = 3 then l3 else l4) → ∀ c : Int, c = (w.length : Int) → ev 908 0 [qR 50, qI c, qI l0, qI l1, qI l2, qI l3, qI l4, qU, qU] [] (rM σ (e : Int) (a : Int) ((e : Int) - (a : Int)) 0 (-1)) = some (some (qI (b01 (wrd T a e w))), rM σ (e : Int) (a : Int) ((e : Int) - (a : Int)) 0 (-1)) := fun w l0 l1 l2 l3 l4 h1 h2 c h3 => m_word hT hY.rM rM_26 rM_27 hae hen h1 h2 h3
  have m0 := mw [115, 104, 111, 101] 115 104 111 101 0 (by decide) (by decide) 4 (by decide)
  have m1 := mw [110, 111, 111, 110] 110 111 111 110 0 (by decide) (by decide) 4 (by decide)
  have m2 := mw [104, 111, 117, 115, 101] 104 111 117 115 101 (by decide) (by decide) 5 (by decide)
  have m3 := mw [119, 97, 121] 119 97 121 0 0 (by decide) (by decide) 3 (by decide)
  have m4 := mw [103, 105, 114, 108] 103 105 114 108 0 (by decide) (by decide) 4 (by decide)
  have m5 := mw [103, 97, 105, 116] 103 97 105 116 0 (by decide) (by decide) 4 (by decide)
  have m6 := mw [115, 104, 101] 115 104 101 0 0 (by decide) (by decide) 3 (by decide)
  rw [b501_0, we, bS, b501_4, c0, bS, b918_0, tk, bN, b918_4, rM_26, m0, bS, b501_12, b918_23]
  cases h0 : wrd T a e [115, 104, 111, 101]
  · rw [if_pos b01_f, if_pos b01_f, b501_23, c1, bS, b918_34, m1, bS, b501_30, b918_48]
    cases h1 : wrd T a e [110, 111, 111, 110]
    · rw [if_pos b01_f, if_pos b01_f, b501_41, c2, bS, b918_59, m2, bS, b501_48, b918_74]
      cases h2 : wrd T a e [104, 111, 117, 115, 101]
      · rw [if_pos b01_f, if_pos b01_f, b501_59, c3, bS, b918_85, m3, bS, b501_66, b918_98]
        cases h3 : wrd T a e [119, 97, 121]
        · rw [if_pos b01_f, if_pos b01_f, b501_77, c4, bS, b918_109, m4, bS, b501_84, b918_123]
          cases h4 : wrd T a e [103, 105, 114, 108]
          · rw [if_pos b01_f, if_pos b01_f, b501_95, c5, bS, b918_134, m5, bS, b501_102, b918_148]
            cases h5 : wrd T a e [103, 97, 105, 116]
            · rw [if_pos b01_f, if_pos b01_f, b501_113, c6, bS, b918_158, m6, bS, b501_120, b918_172]
              cases h6 : wrd T a e [115, 104, 101]
              · rw [if_pos b01_f, b501_131, b515_0, rC_5, rC_p2, rC_p3, bN, b501_136, b01_f, m_wantN (by decide), bS, b918_177, if_pos rfl, b918_185]
                exact ⟨_, _, rfl, rfl, OUT.bad (f := 1) (by repeat (first | exact FC.refl | apply FC.rC | refine FC.put (by decide) ?_)) (by repeat (first | exact FM.refl | apply FM.rM | refine FM.p50 (by decide) ?_ | refine FM.p53 (by first | decide | omega) ?_ | refine FM.pH (by decide) (by first | exact Nat.le_add_right _ _ | omega) ?_ | refine FM.p60 (by first | exact Nat.le_add_right _ _ | omega) ?_)) (by decide) rfl rfl rfl rfl⟩
              · obtain ⟨σ1, σ2, q1, q2, q3⟩ := l_she (l := (e : Int) - (a : Int)) hB0 (wrd_iff.mp h6).1 hen
                rw [if_neg (by decide), b501_123, q1, bN, b501_128, b501_136, b01_t, m_wantY, bS, b918_177, if_neg (by decide), b918_180, q2, bN, b918_185]
                exact ⟨_, _, rfl, rfl, q3⟩
            · obtain ⟨σ1, σ2, q1, q2, q3⟩ := l_gait (l := (e : Int) - (a : Int)) hB0 (wrd_iff.mp h5).1 hen
              rw [if_neg (by decide), if_neg (by decide), b501_105, q1, bN, b501_110, b501_136, b918_151, q2, bN, b918_155, b918_185]
              exact ⟨_, _, rfl, rfl, q3⟩
          · obtain ⟨σ1, σ2, q1, q2, q3⟩ := l_girl (l := (e : Int) - (a : Int)) hB0 (wrd_iff.mp h4).1 hen
            rw [if_neg (by decide), if_neg (by decide), b501_87, q1, bN, b501_92, b501_136, b918_126, q2, bN, b918_131, b918_185]
            exact ⟨_, _, rfl, rfl, q3⟩
        · obtain ⟨σ1, σ2, q1, q2, q3⟩ := l_way (l := (e : Int) - (a : Int)) hB0 (wrd_iff.mp h3).1 hen
          rw [if_neg (by decide), if_neg (by decide), b501_69, q1, bN, b501_74, b501_136, b918_101, q2, bN, b918_106, b918_185]
          exact ⟨_, _, rfl, rfl, q3⟩
      · obtain ⟨σ1, σ2, q1, q2, q3⟩ := l_house (l := (e : Int) - (a : Int)) hB0 (wrd_iff.mp h2).1 hen
        rw [if_neg (by decide), if_neg (by decide), b501_51, q1, bN, b501_56, b501_136, b918_77, q2, bN, b918_82, b918_185]
        exact ⟨_, _, rfl, rfl, q3⟩
    · obtain ⟨σ1, σ2, q1, q2, q3⟩ := l_noon (l := (e : Int) - (a : Int)) hB0 (wrd_iff.mp h1).1 hen
      rw [if_neg (by decide), if_neg (by decide), b501_33, q1, bN, b501_38, b501_136, b918_51, q2, bN, b918_56, b918_185]
      exact ⟨_, _, rfl, rfl, q3⟩
  · obtain ⟨σ1, σ2, q1, q2, q3⟩ := l_shoe (l := (e : Int) - (a : Int)) hB0 (wrd_iff.mp h0).1 hen
    rw [if_neg (by decide), if_neg (by decide), b501_15, q1, bN, b501_20, b501_136, b918_26, q2, bN, b918_31, b918_185]
    exact ⟨_, _, rfl, rfl, q3⟩
/-- the model takes the draft over: the rows -/
theorem m_rows : ∀ (k x : Nat) (τ : SS), x + k = 6 → ∃ τ', ev 919 226 [qR 50, qI (x : Int)] [] τ = ev 919 364 [qR 50, qI 6] [] τ' ∧ (∀ c, c ∉ [51, 54, 55, 57, 58, 59, 61] → τ' c = τ c) ∧ (∀ c, c ∈ [54, 55, 57, 58, 59, 61] → ∀ j, τ' c j = if x ≤ j ∧ j < 6 then τ c (6 + j) else τ c j) ∧ (∀ j, x ≤ j → j < 6 → τ' 51 j = τ 56 (6 + j) ∧ τ' 51 (6 + j) = 0 ∧ τ' 51 (12 + j) = -100) ∧ (∀ j, (∀ i, x ≤ i → i < 6 → j ≠ i ∧ j ≠ 6 + i ∧ j ≠ 12 + i) → τ' 51 j = τ 51 j)
  | 0, x, τ, hk => by
    have e : x = 6 := by omega
    subst e
    refine ⟨τ, by rw [b919_226, if_neg (by decide)]; rfl, fun _ _ => rfl, fun c _ j => by rw [if_neg (by omega)], fun j h1 h2 => by omega, fun _ _ => rfl⟩
  | k + 1, x, τ, hk => by
    obtain ⟨τ', q1, q2, q3, q4, q5⟩ := m_rows k (x + 1) (q_put (q_put (q_put (q_put (q_put (q_put (q_put (q_put (q_put τ 54 x (τ 54 (6 + x))) 55 x (τ 55 (6 + x))) 57 x (τ 57 (6 + x))) 58 x (τ 58 (6 + x))) 59 x (τ 59 (6 + x))) 61 x (τ 61 (6 + x))) 51 x (τ 56 (6 + x))) 51 (6 + x) 0) 51 (12 + x) (-100)) (by omega)
    refine ⟨τ', ?_, fun c hc => ?_, fun c hc j => ?_, fun j h1 h2 => ?_, fun j hj => ?_⟩
    · rw [b919_226, if_pos (by omega), b919_232 (by omega), show (6 + (x : Int)).toNat = 6 + x by omega, show (12 + (x : Int)).toNat = 12 + x by omega, Int.toNat_natCast]
      exact q1
    · rw [q2 c hc]
      simp only [List.mem_cons, List.not_mem_nil, or_false, not_or] at hc
      rw [put_ne hc.1, put_ne hc.1, put_ne hc.1, put_ne hc.2.2.2.2.2.2, put_ne hc.2.2.2.2.2.1, put_ne hc.2.2.2.2.1, put_ne hc.2.2.2.1, put_ne hc.2.2.1, put_ne hc.2.1]
    · rw [q3 c hc j]
      simp only [List.mem_cons, List.not_mem_nil, or_false] at hc
      have key : ∀ i, (q_put (q_put (q_put (q_put (q_put (q_put (q_put (q_put (q_put τ 54 x (τ 54 (6 + x))) 55 x (τ 55 (6 + x))) 57 x (τ 57 (6 + x))) 58 x (τ 58 (6 + x))) 59 x (τ 59 (6 + x))) 61 x (τ 61 (6 + x))) 51 x (τ 56 (6 + x))) 51 (6 + x) 0) 51 (12 + x) (-100)) c i = if i = x then τ c (6 + x) else τ c i := by
        intro i
        by_cases ei : i = x
        · subst ei
          rw [if_pos rfl]
          rcases hc with rfl | rfl | rfl | rfl | rfl | rfl <;> simp (disch := decide) only [rw_ne, rw_eq]
        · rw [if_neg ei]
          rcases hc with rfl | rfl | rfl | rfl | rfl | rfl <;> simp (disch := first | decide | omega) only [rw_ne, rw_sl]
      rw [key, key]
      by_cases h : x + 1 ≤ j ∧ j < 6
      · rw [if_pos h, if_neg (by omega), if_pos (by omega)]
      · rw [if_neg h]
        by_cases ej : j = x
        · subst ej
          rw [if_pos rfl, if_pos (by omega)]
        · rw [if_neg ej, if_neg (by omega)]
    · by_cases ej : j = x
      · subst ej
        rw [q5 j (fun i i1 i2 => by omega), q5 (6 + j) (fun i i1 i2 => by omega), q5 (12 + j) (fun i i1 i2 => by omega)]
        simp (disch := first | decide | omega) only [rw_sl, rw_eq, true_and, and_true]
      · obtain ⟨z1, z2, z3⟩ := q4 j (by omega) h2
        refine ⟨?_, z2, z3⟩
        rw [z1]
        simp (disch := decide) only [rw_ne]
    · rw [q5 j (fun i i1 i2 => hj i (by omega) i2)]
      obtain ⟨z1, z2, z3⟩ := hj x (by omega) (by omega)
      rw [rw_sl z3, rw_sl z2, rw_sl z1]
      simp (disch := decide) only [rw_ne]
theorem m_gaits : ∀ (k x : Nat) (τ : SS), x + k = 36 → ∃ τ', ev 919 366 [qR 50, qI (x : Int)] [] τ = ev 919 393 [qR 50, qI 36] [] τ' ∧ (∀ c, c ≠ 60 → τ' c = τ c) ∧ (∀ j, τ' 60 j = if x ≤ j ∧ j < 36 then τ 60 (36 + j) else τ 60 j)
  | 0, x, τ, hk => by
    have e : x = 36 := by omega
    subst e
    exact ⟨τ, by rw [b919_366, if_neg (by decide)]; rfl, fun _ _ => rfl, fun j => by rw [if_neg (by omega)]⟩
  | k + 1, x, τ, hk => by
    obtain ⟨τ', q1, q2, q3⟩ := m_gaits k (x + 1) (q_put τ 60 x (τ 60 (36 + x))) (by omega)
    refine ⟨τ', ?_, fun c hc => ?_, fun j => ?_⟩
    · rw [b919_366, if_pos (by omega), b919_372 (by omega), show (36 + (x : Int)).toNat = 36 + x by omega, Int.toNat_natCast]
      exact q1
    · rw [q2 c hc, put_ne hc]
    · rw [q3 j]
      by_cases h : x + 1 ≤ j ∧ j < 36
      · rw [if_pos h, rw_sl (by omega), if_pos (by omega)]
      · rw [if_neg h]
        by_cases ej : j = x
        · subst ej
          rw [rw_eq, if_pos (by omega)]
        · rw [rw_sl ej, if_neg (by omega)]
/-- the model's end, no fault -/
theorem m_end {τ : SS} (h0 : τ 50 28 = 0) : ∃ τ', ev 919 137 [qR 50, qU] [] τ = some (some (qI (τ 50 18)), τ') ∧ τ' 50 24 = 0 ∧ τ' 50 29 = τ 50 29 ∧ (∀ j, j < 3 → τ' 53 j = τ 53 (3 + j)) ∧ (τ' 50 3 = τ 50 4 ∧ τ' 50 13 = τ 50 17 ∧ τ' 50 14 = τ 50 18 ∧ τ' 50 15 = τ 50 19 ∧ τ' 50 16 = τ 50 20) ∧ (∀ c, c ∈ [54, 55, 57, 58, 59, 61] → ∀ j, j < 6 → τ' c j = τ c (6 + j)) ∧ (∀ j, j < 36 → τ' 60 j = τ 60 (36 + j)) ∧ (∀ j, j < 6 → τ' 51 j = τ 56 (6 + j) ∧ τ' 51 (6 + j) = 0 ∧ τ' 51 (12 + j) = -100) ∧ (τ' 51 18 = 0 ∧ τ' 51 19 = 0 ∧ τ' 51 20 = 0 ∧ τ' 51 21 = 0 ∧ τ' 51 22 = 0 ∧ τ' 51 23 = τ 51 23) ∧ (τ' 50 35 = 0 ∧ τ' 50 37 = 0 ∧ τ' 50 41 = 0 ∧ τ' 52 0 = 0 ∧ τ' 52 1 = 0) := by
  have t0 : (0 : Int).toNat = 0 := rfl
  have t1 : (0 + 1 : Int).toNat = 1 := rfl
  have t2 : (0 + 1 + 1 : Int).toNat = 2 := rfl
  have t3 : (3 + 0 : Int).toNat = 3 := rfl
  have t4 : (3 + (0 + 1) : Int).toNat = 4 := rfl
  have t5 : (3 + (0 + 1 + 1) : Int).toNat = 5 := rfl
  have s1 : ev 919 137 [qR 50, qU] [] τ = ev 919 226 [qR 50, qI 0] [] (q_put (q_put (q_put (q_put (q_put (q_put (q_put (q_put (q_put τ 50 24 0) 53 0 (τ 53 3)) 53 1 (τ 53 4)) 53 2 (τ 53 5)) 50 3 (τ 50 4)) 50 13 (τ 50 17)) 50 14 (τ 50 18)) 50 15 (τ 50 19)) 50 16 (τ 50 20)) := by
    rw [b919_137, h0, if_neg (by decide), b919_157, b919_159, if_pos (by decide), b919_164 (by decide), t0, t3, b919_159, if_pos (by decide), b919_164 (by decide), t1, t4, b919_159, if_pos (by decide), b919_164 (by decide), t2, t5, b919_159, if_neg (by decide), b919_184]
    simp (disch := decide) only [rw_ne, rw_sl]
  obtain ⟨τ2, q1, q2, q3, q4, q5⟩ := m_rows 6 0 (q_put (q_put (q_put (q_put (q_put (q_put (q_put (q_put (q_put τ 50 24 0) 53 0 (τ 53 3)) 53 1 (τ 53 4)) 53 2 (τ 53 5)) 50 3 (τ 50 4)) 50 13 (τ 50 17)) 50 14 (τ 50 18)) 50 15 (τ 50 19)) 50 16 (τ 50 20)) (by decide)
  obtain ⟨τ3, r1, r2, r3⟩ := m_gaits 36 0 τ2 (by decide)
  have e50 : τ3 50 = (q_put (q_put (q_put (q_put (q_put (q_put (q_put (q_put (q_put τ 50 24 0) 53 0 (τ 53 3)) 53 1 (τ 53 4)) 53 2 (τ 53 5)) 50 3 (τ 50 4)) 50 13 (τ 50 17)) 50 14 (τ 50 18)) 50 15 (τ 50 19)) 50 16 (τ 50 20)) 50 := by rw [r2 50 (by decide), q2 50 (by decide)]
  have e53 : τ3 53 = (q_put (q_put (q_put (q_put (q_put (q_put (q_put (q_put (q_put τ 50 24 0) 53 0 (τ 53 3)) 53 1 (τ 53 4)) 53 2 (τ 53 5)) 50 3 (τ 50 4)) 50 13 (τ 50 17)) 50 14 (τ 50 18)) 50 15 (τ 50 19)) 50 16 (τ 50 20)) 53 := by rw [r2 53 (by decide), q2 53 (by decide)]
  have q1' : ev 919 226 [qR 50, qI 0] [] (q_put (q_put (q_put (q_put (q_put (q_put (q_put (q_put (q_put τ 50 24 0) 53 0 (τ 53 3)) 53 1 (τ 53 4)) 53 2 (τ 53 5)) 50 3 (τ 50 4)) 50 13 (τ 50 17)) 50 14 (τ 50 18)) 50 15 (τ 50 19)) 50 16 (τ 50 20)) = ev 919 364 [qR 50, qI 6] [] τ2 := q1
  have r1' : ev 919 366 [qR 50, qI 0] [] τ2 = ev 919 393 [qR 50, qI 36] [] τ3 := r1
  have e14 : τ3 50 14 = τ 50 18 := by
    rw [e50]
    simp (disch := decide) only [rw_ne, rw_sl, rw_eq]
  refine ⟨q_put (q_put (q_put (q_put (q_put (q_put (q_put (q_put (q_put (q_put τ3 51 18 0) 51 19 0) 51 20 0) 51 21 0) 51 22 0) 50 35 0) 50 37 0) 50 41 0) 52 0 0) 52 1 0, ?_, ?_, ?_, fun j hj => ?_, ⟨?_, ?_, ?_, ?_, ?_⟩, fun c hc j hj => ?_, fun j hj => ?_, fun j hj => ⟨?_, ?_, ?_⟩, ⟨?_, ?_, ?_, ?_, ?_, ?_⟩, ⟨?_, ?_, ?_, ?_, ?_⟩⟩
  · rw [s1, q1', b919_364, r1', b919_393, e14]
  · simp (disch := decide) only [rw_ne, rw_sl, rw_eq, e50]
  · simp (disch := decide) only [rw_ne, rw_sl, rw_eq, e50]
  · have : j = 0 ∨ j = 1 ∨ j = 2 := by omega
    rcases this with rfl | rfl | rfl <;> simp (disch := decide) only [rw_ne, rw_sl, rw_eq, e53]
  · simp (disch := decide) only [rw_ne, rw_sl, rw_eq, e50]
  · simp (disch := decide) only [rw_ne, rw_sl, rw_eq, e50]
  · simp (disch := decide) only [rw_ne, rw_sl, rw_eq, e50]
  · simp (disch := decide) only [rw_ne, rw_sl, rw_eq, e50]
  · simp (disch := decide) only [rw_ne, rw_sl, rw_eq, e50]
  · have hc' := hc
    simp only [List.mem_cons, List.not_mem_nil, or_false] at hc'
    have n1 : c ≠ 51 ∧ c ≠ 50 ∧ c ≠ 52 ∧ c ≠ 60 ∧ c ≠ 53 := by omega
    rw [put_ne n1.2.2.1, put_ne n1.2.2.1, put_ne n1.2.1, put_ne n1.2.1, put_ne n1.2.1, put_ne n1.1, put_ne n1.1, put_ne n1.1, put_ne n1.1, put_ne n1.1, r2 c n1.2.2.2.1, q3 c hc j, if_pos (by omega)]
    rw [put_ne n1.2.1, put_ne n1.2.1, put_ne n1.2.1, put_ne n1.2.1, put_ne n1.2.1, put_ne n1.2.2.2.2, put_ne n1.2.2.2.2, put_ne n1.2.2.2.2, put_ne n1.2.1]
  · simp (disch := decide) only [rw_ne]
    rw [r3 j, if_pos (by omega), q2 60 (by decide)]
    simp (disch := decide) only [rw_ne]
  · simp (disch := first | decide | omega) only [rw_ne, rw_sl]
    rw [r2 51 (by decide), (q4 j (by omega) hj).1]
    simp (disch := decide) only [rw_ne]
  · simp (disch := first | decide | omega) only [rw_ne, rw_sl]
    rw [r2 51 (by decide), (q4 j (by omega) hj).2.1]
  · simp (disch := first | decide | omega) only [rw_ne, rw_sl]
    rw [r2 51 (by decide), (q4 j (by omega) hj).2.2]
  · simp (disch := decide) only [rw_ne, rw_sl, rw_eq]
  · simp (disch := decide) only [rw_ne, rw_sl, rw_eq]
  · simp (disch := decide) only [rw_ne, rw_sl, rw_eq]
  · simp (disch := decide) only [rw_ne, rw_sl, rw_eq]
  · simp (disch := decide) only [rw_ne, rw_sl, rw_eq]
  · simp (disch := decide) only [rw_ne, rw_sl]
    rw [r2 51 (by decide), q5 23 (fun i i1 i2 => by omega)]
    simp (disch := decide) only [rw_ne]
  · simp (disch := decide) only [rw_ne, rw_sl, rw_eq]
  · simp (disch := decide) only [rw_ne, rw_sl, rw_eq]
  · simp (disch := decide) only [rw_ne, rw_sl, rw_eq]
  · simp (disch := decide) only [rw_ne, rw_sl, rw_eq]
  · simp (disch := decide) only [rw_ne, rw_sl, rw_eq]
end LI
