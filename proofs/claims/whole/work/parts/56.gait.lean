/-! ===== list: gait ===== -/
section LH
variable {σ τ : SS} {n : Nat} {T : Nat → Int}
theorem c_gaitL {e : Nat} (hn : TT n T) (hX : TX τ n T) (hen : e ≤ n) : ∀ (k x : Nat), x + k = e → ∃ b, ev 510 5 [qR 1, qI (e : Int), qI (x : Int)] [] τ = some (some (qI (b01 b)), τ) ∧ (b = true ↔ ∀ i, x ≤ i → i < e → 97 ≤ T i ∧ T i ≤ 99)
  | 0, x, hk => ⟨true, by rw [b510_5, if_neg (by omega), b510_38]; rfl, by
      constructor
      · intro _ i h1 h2; omega
      · intro _; rfl⟩
  | k + 1, x, hk => by
    have h3 := hn.1
    have eb : byt n T x = T x := by unfold byt; rw [if_pos (by omega)]
    rw [b510_5, if_pos (by omega), b510_10, c_byte hn hX, bS, eb, b510_15]
    by_cases h1 : T x < 97
    · refine ⟨false, by rw [if_pos h1, b510_30]; rfl, ?_⟩
      constructor
      · intro z; cases z
      · intro z; have := z x (by omega) (by omega); omega
    · rw [if_neg h1, b510_20, c_byte hn hX, bS, eb, b510_25]
      by_cases h2 : 99 < T x
      · refine ⟨false, by rw [if_pos h2, b510_30]; rfl, ?_⟩
        constructor
        · intro z; cases z
        · intro z; have := z x (by omega) (by omega); omega
      · obtain ⟨b, b1, b2⟩ := c_gaitL hn hX hen k (x + 1) (by omega)
        refine ⟨b, ?_, ?_⟩
        · rw [if_neg h2, b510_32 (by omega)]
          exact b1
        · rw [b2]
          constructor
          · intro z i i1 i2
            by_cases ei : i = x
            · subst ei; omega
            · exact z i (by omega) i2
          · intro z i i1 i2
            exact z i (by omega) i2
theorem m_rowL {a len : Nat} (hn : TT n T) (hY : TY τ n T) (hp : τ 50 26 = (a : Int)) (hl : τ 50 27 = (len : Int)) (hen : a + len ≤ n) : ∀ (k x : Nat) (s : Bool), x + k = len → ∃ b, ev 916 17 [qR 50, qI (b01 s), qI (x : Int)] [] τ = some (some (qI (b01 b)), τ) ∧ (b = true ↔ s = true ∧ ∀ i, x ≤ i → i < len → 97 ≤ T (a + i) ∧ T (a + i) ≤ 99)
  | 0, x, s, hk => ⟨s, by rw [b916_17, hl, if_neg (by omega), b916_57 (b01_or _)], by
      constructor
      · intro z; exact ⟨z, fun i h1 h2 => by omega⟩
      · exact fun z => z.1⟩
  | k + 1, x, s, hk => by
    have h3 := hn.1
    have e62 : τ 62 (a + x) = T (a + x) := hY.2 _ (by omega)
    rw [b916_17, hl, if_pos (by omega), b916_25]
    cases s
    · exact ⟨false, by rw [if_pos b01_f, b916_57 (b01_or _)], by simp⟩
    · obtain ⟨b, b1, b2⟩ := m_rowL hn hY hp hl hen k (x + 1) (decide (97 ≤ T (a + x) ∧ T (a + x) ≤ 99)) (by omega)
      refine ⟨b, ?_, ?_⟩
      · rw [if_neg (by decide), b916_29 (by rw [hp]; omega), hp, show ((a : Int) + (x : Int)).toNat = a + x by omega, e62, m_in, bS, b916_50 (by omega)]
        exact b1
      · rw [b2, decide_eq_true_iff]
        constructor
        · rintro ⟨z1, z2⟩
          refine ⟨rfl, fun i i1 i2 => ?_⟩
          by_cases ei : i = x
          · subst ei; exact z1
          · exact z2 i (by omega) i2
        · rintro ⟨-, z⟩
          exact ⟨z x (by omega) (by omega), fun i i1 i2 => z i (by omega) i2⟩
theorem c_setL {G i : Nat} {v : Int} (hG : (G : Int) < τ 3 10 ∧ τ 3 10 ≤ 6) (hi : i < 6) : ev 607 0 [qR 3, qI (G : Int), qI (i : Int), qI v] [] τ = some (none, q_put (q_put τ 10 (6 * G + i) v) 11 G ((i : Int) + 1)) := by
  rw [b607_0, b603x1_0, if_neg (by omega), b603x1_4, if_pos hG.1, b603x1_12, if_pos (by omega), b603x1_18, b603x1_23 (by omega), bS, b607_5, if_neg (by decide), b607_8, if_neg (by omega), b607_12, if_pos (by omega), b607_18 (by omega), b607_39, show ((G : Int) * 6 + (i : Int)).toNat = 6 * G + i by omega, Int.toNat_natCast]
theorem c_letL {G r e : Nat} {t o gg : Int} (hn : TT n T) (hen : e ≤ n) (hl : e ≤ r + 6) (hre : r ≤ e) (hd : ∀ i, r ≤ i → i < e → 97 ≤ T i ∧ T i ≤ 99) : ∀ (k i : Nat) (β : SS), r + i + k = e → TX β n T → ((G : Int) < β 3 10 ∧ β 3 10 ≤ 6) → ∃ β', ev 509 55 [qR 1, qR 3, qI (G : Int), qI (e : Int), qI (i : Int)] [] (rC β (r : Int) t 0 (-1) o gg) = some (none, rC β' (e : Int) t 0 (-1) o gg) ∧ (∀ c, c ≠ 10 → c ≠ 11 → β' c = β c) ∧ (∀ j, (∀ m, i ≤ m → r + m < e → j ≠ 6 * G + m) → β' 10 j = β 10 j) ∧ (∀ m, i ≤ m → r + m < e → β' 10 (6 * G + m) = T (r + m) - 97) ∧ (∀ j, j ≠ G → β' 11 j = β 11 j) ∧ β' 11 G = if r + i < e then ((e - r : Nat) : Int) else β 11 G
  | 0, i, β, hk, hX, hG => by
    have h3 := hn.1
    refine ⟨β, ?_, fun _ _ _ => rfl, fun _ _ => rfl, fun m h1 h2 => by omega, fun _ _ => rfl, by rw [if_neg (by omega)]⟩
    rw [b509_55 (by rw [rC_4]; omega), rC_4, if_neg (by omega), b509_93, rC_p4, b509_98]
  | k + 1, i, β, hk, hX, hG => by
    have h3 := hn.1
    have eb : byt n T (r + i) = T (r + i) := by unfold byt; rw [if_pos (by omega)]
    have hdi := hd (r + i) (by omega) (by omega)
    obtain ⟨β', q1, q2, q3, q4, q5, q6⟩ := c_letL (t := t) (o := o) (gg := gg) hn hen hl hre hd k (i + 1) (q_put (q_put β 10 (6 * G + i) (T (r + i) - 97)) 11 G ((i : Int) + 1)) (by omega) ((hX.put (by decide)).put (by decide)) (by
      rw [put_ne (by decide), put_ne (by decide)]
      exact hG)
    refine ⟨β', ?_, fun c c1 c2 => ?_, fun j hj => ?_, fun m m1 m2 => ?_, fun j hj => ?_, ?_⟩
    · rw [b509_55 (by rw [rC_4]; omega), rC_4, if_pos (by omega), b509_66 (by rw [rC_4]; omega), rC_4, show (r : Int) + (i : Int) = ((r + i : Nat) : Int) by omega, c_byte hn hX.rC, bS, eb, b509_81 (by omega), c_setL (by rw [rC_ne (by decide)]; exact hG) (by omega), bN, b509_87 (by omega), rC_put (by decide), rC_put (by decide)]
      exact q1
    · rw [q2 c c1 c2, put_ne c2, put_ne c1]
    · rw [q3 j (fun m m1 m2 => hj m (by omega) m2), put_ne (by decide), rw_sl (hj i (by omega) (by omega))]
    · by_cases em : m = i
      · subst em
        rw [q3 _ (fun m' m1' m2' => by omega), put_ne (by decide), rw_eq]
      · exact q4 m (by omega) m2
    · rw [q5 j hj, rw_sl hj, put_ne (by decide)]
    · rw [q6, if_pos (show r + i < e by omega)]
      by_cases hz : r + (i + 1) < e
      · rw [if_pos hz]
      · rw [if_neg hz, rw_eq]
        omega
theorem m_letL {G r e : Nat} (hn : TT n T) (hen : e ≤ n) (hl : e ≤ r + 6) (hre : r ≤ e) (hG : G < 6) (hd : ∀ i, r ≤ i → i < e → 97 ≤ T i ∧ T i ≤ 99) : ∀ (k i : Nat) (β : SS), r + i + k = e → TY β n T → ∃ β', ev 917 119 [qR 50, qI (G : Int), qI (i : Int)] [] (rM β (e : Int) (r : Int) ((e : Int) - (r : Int)) 0 (-1)) = some (none, rM β' (e : Int) (r : Int) ((e : Int) - (r : Int)) 0 (-1)) ∧ (∀ c, c ≠ 60 → β' c = β c) ∧ (∀ j, (∀ m, i ≤ m → r + m < e → j ≠ 36 + 6 * G + m) → β' 60 j = β 60 j) ∧ (∀ m, i ≤ m → r + m < e → β' 60 (36 + 6 * G + m) = T (r + m) - 97)
  | 0, i, β, hk, hY => by
    refine ⟨β, ?_, fun _ _ => rfl, fun _ _ => rfl, fun m h1 h2 => by omega⟩
    rw [b917_119, rM_27, if_neg (by omega), b917_161]
  | k + 1, i, β, hk, hY => by
    have h3 := hn.1
    have hdi := hd (r + i) (by omega) (by omega)
    have e62 : ∀ p s l f b : Int, rM β p s l f b 62 (r + i) = T (r + i) := by
      intro p s l f b
      rw [rM_ne (by decide)]
      exact hY.2 _ (by omega)
    obtain ⟨β', q1, q2, q3, q4⟩ := m_letL hn hen hl hre hG hd k (i + 1) (q_put β 60 (36 + 6 * G + i) (T (r + i) - 97)) (by omega) (hY.put (by constructor <;> (try left) <;> decide))
    refine ⟨β', ?_, fun c c1 => ?_, fun j hj => ?_, fun m m1 m2 => ?_⟩
    · rw [b917_119, rM_27, if_pos (by omega), b917_127 (by rw [rM_26, show ((r : Int) + (i : Int)).toNat = r + i by omega, e62]; omega), rM_26, show ((r : Int) + (i : Int)).toNat = r + i by omega, e62, show (6 * (6 + (G : Int)) + (i : Int)).toNat = 36 + 6 * G + i by omega, rM_put (by decide)]
      exact q1
    · rw [q2 c c1, put_ne c1]
    · rw [q3 j (fun m m1 m2 => hj m (by omega) m2), rw_sl (hj i (by omega) (by omega))]
    · by_cases em : m = i
      · subst em
        rw [q3 _ (fun m' m1' m2' => by omega), rw_eq]
      · exact q4 m (by omega) m2
set_option maxHeartbeats 8000000 in
theorem l_gait {a e : Nat} {l : Int} (hB : LB σ n T) (he : e = a + 4) (hen : e ≤ n) : ∃ σ1 σ2, ev 507 0 [qR 1, qR 3, qU] [] (rC σ (a : Int) (a : Int) 0 (-1) (σ 1 6) (σ 1 7)) = some (none, σ1) ∧ ev 917 0 [qR 50, qU, qU] [] (rM σ (e : Int) (a : Int) l 0 (-1)) = some (none, σ2) ∧ OUT n T σ σ1 σ2 a := by
  have hB0 := hB
  obtain ⟨hT, hX, hY, hS, hH, hW, hG⟩ := hB
  have h3 := hT.1
  unfold D_S at hS
  have e7 : σ 1 7 = σ 50 22 := by omega
  have e10 : σ 3 10 = σ 50 18 := by omega
  rw [e7, b507_0 (by rw [rC_4, rC_ne (by decide)]; omega), rC_4, rC_ne (show 3 ≠ 1 by decide), e10, rC_p4, show (a : Int) + 4 = (e : Int) by omega, b917_0 (by rw [rM_18]; omega), rM_18]
  by_cases f1 : nF n T e 0 (σ 50 18 - 1) = 0
  · have g1 := nF_ok hen f1
    have hp1 := g1.2.2.2
    rw [c_numY hT hX hen f1, bS, b507_21, rC_2, if_pos rfl, b507_29, rC_7, m_numY hT hY hen f1, bS, b917_11, rM_28, if_neg (by decide), b917_19, rM_22]
    obtain ⟨G, hGn⟩ : ∃ G : Nat, nV n T e = (G : Int) := ⟨(nV n T e).toNat, by omega⟩
    rw [hGn, c_has (by omega), bS, decide_eq_true (show (0 : Int) ≤ (G : Int) by omega), Bool.true_and, m_has (by omega), bS, Int.toNat_natCast, b507_37, b917_28]
    cases hbit : (σ 50 22).toNat.testBit G
    · have hz1 := scan_sp isBl n T (nE n T e)
      have hz2 := scan_sp isLe n T (scan isBl n T (nE n T e))
      have hr1 := hz1.2.1 hp1
      have hr2 := hz2.2.1 hr1
      have hG6 : G < 6 := by omega
      obtain ⟨u, hu⟩ : ∃ u : Nat, σ 50 22 = (u : Int) := ⟨(σ 50 22).toNat, by omega⟩
      have pG : 2 ^ G < 2 ^ 6 := Nat.pow_lt_pow_right (by omega) hG6
      have n1 : q_or (σ 50 22) (q_shl 1 (G : Int)) = ((u ||| 2 ^ G : Nat) : Int) := by
        rw [hu, q_shl1 (by omega), q_or_nat (by omega) (by omega)]
      have n2 : u ||| 2 ^ G < 2 ^ 6 := Nat.or_lt_two_pow (by omega) pG
      rw [if_pos b01_f, if_pos b01_f, b917_31, b917_36, m_wantY, bS, b917_44, if_neg (by decide), b917_48, rM_22, n1, rM_pu5 (by decide), l_take hT (hY.put (by decide)) hp1, bN, b507_45, rC_2, if_pos rfl, b507_52, rC_7, rC_p7, n1, b509_0, c_tok hT hX, bN, b509_4, c_wend hT hX.rC rC_4, bS, b917_64, rM_27, b509_8, rC_4]
      generalize hr : scan isBl n T (nE n T e) = r at *
      generalize he2 : scan isLe n T r = e2 at *
      by_cases hlen : e2 = r
      · rw [if_pos (by omega), b509_17, b515_0, rC_5, rC_p2, rC_p3, bN, b509_22, b509_98, bN, b507_70, if_neg (by omega), b917_76, b917_77, rM_26, m_wantN (by decide), bS, b917_85, if_pos rfl, b917_161]
        exact ⟨_, _, rfl, rfl, OUT.bad (f := 1) (by repeat (first | exact FC.refl | apply FC.rC | refine FC.put (by decide) ?_)) (by repeat (first | exact FM.refl | apply FM.rM | refine FM.p50 (by decide) ?_ | refine FM.p53 (by first | decide | omega) ?_ | refine FM.pH (by decide) (by first | exact Nat.le_add_right _ _ | omega) ?_ | refine FM.p60 (by first | exact Nat.le_add_right _ _ | omega) ?_)) (by decide) rfl rfl rfl rfl⟩
      · obtain ⟨bm, bm1, bm2⟩ := m_rowL (τ := rM (q_put σ 50 22 ((u ||| 2 ^ G : Nat) : Int)) (e2 : Int) (r : Int) ((e2 : Int) - (r : Int)) 0 (-1)) (a := r) (len := e2 - r) hT (hY.put (by decide)).rM rM_26 (by rw [rM_27]; omega) (by omega) (e2 - r) 0 (decide (e2 - r ≤ 6)) (by omega)
        have mrow : ev 916 0 [qR 50, qU, qU] [] (rM (q_put σ 50 22 ((u ||| 2 ^ G : Nat) : Int)) (e2 : Int) (r : Int) ((e2 : Int) - (r : Int)) 0 (-1)) = some (some (qI (b01 bm)), rM (q_put σ 50 22 ((u ||| 2 ^ G : Nat) : Int)) (e2 : Int) (r : Int) ((e2 : Int) - (r : Int)) 0 (-1)) := by
          rw [b916_0, rM_27]
          by_cases h6 : e2 - r ≤ 6
          · rw [decide_eq_true h6] at bm1
            rw [if_neg (by omega), b916_9, b916_14]
            exact bm1
          · rw [decide_eq_false h6] at bm1
            rw [if_pos (by omega), b916_13, b916_14]
            exact bm1
        have bad4 : ev 509 44 [qR 1, qR 3, qI (G : Int), qI (e2 : Int), qU] [] (rC σ (r : Int) (r : Int) 0 (-1) (σ 1 6) ((u ||| 2 ^ G : Nat) : Int)) = some (none, rC σ (r : Int) (r : Int) 4 (r : Int) (σ 1 6) ((u ||| 2 ^ G : Nat) : Int)) := by
          rw [b509_44, b515_0, rC_5, rC_p2, rC_p3, bN, b509_49, b509_98]
        rw [if_neg (by omega), if_pos (by omega), b917_72, b917_77, m_wantY, bS, b917_85, if_neg (by decide), b917_88, mrow, bS, b917_93, b509_25 (by rw [rC_4]; omega), rC_4]
        by_cases h6 : e2 - r ≤ 6
        · obtain ⟨bc, bc1, bc2⟩ := c_gaitL (τ := rC σ (r : Int) (r : Int) 0 (-1) (σ 1 6) ((u ||| 2 ^ G : Nat) : Int)) (e := e2) hT hX.rC (by omega) (e2 - r) r (by omega)
          have ebb : bc = bm := by
            rw [Bool.eq_iff_iff, bc2, bm2, decide_eq_true_iff]
            constructor
            · intro z
              exact ⟨h6, fun i _ i2 => z (r + i) (by omega) (by omega)⟩
            · rintro ⟨-, z⟩ i i1 i2
              have := z (i - r) (by omega) (by omega)
              rw [show r + (i - r) = i by omega] at this
              exact this
          subst ebb
          rw [if_neg (by omega), b509_36, b510_0, rC_4, bc1, bS, b509_41]
          cases bc
          · rw [if_pos b01_f, bad4, bN, b507_70, rM_26, b01_f, m_wantN (by decide), bS, b917_101, if_pos rfl, b917_161]
            exact ⟨_, _, rfl, rfl, OUT.bad (f := 4) (by repeat (first | exact FC.refl | apply FC.rC | refine FC.put (by decide) ?_)) (by repeat (first | exact FM.refl | apply FM.rM | refine FM.p50 (by decide) ?_ | refine FM.p53 (by first | decide | omega) ?_ | refine FM.pH (by decide) (by first | exact Nat.le_add_right _ _ | omega) ?_ | refine FM.p60 (by first | exact Nat.le_add_right _ _ | omega) ?_)) (by decide) rfl rfl rfl rfl⟩
          · have hd : ∀ i, r ≤ i → i < e2 → 97 ≤ T i ∧ T i ≤ 99 := bc2.mp rfl
            obtain ⟨β, c1, c2, c3, c4, c5, c6⟩ := c_letL (G := G) (r := r) (e := e2) (t := (r : Int)) (o := σ 1 6) (gg := ((u ||| 2 ^ G : Nat) : Int)) hT (by omega) (by omega) (by omega) hd (e2 - r) 0 σ (by omega) hX (by omega)
            obtain ⟨γ, d1, d2, d3, d4⟩ := m_letL (G := G) (r := r) (e := e2) hT (by omega) (by omega) (by omega) hG6 hd (e2 - r) 0 (q_put (q_put σ 50 22 ((u ||| 2 ^ G : Nat) : Int)) 61 (6 + G) ((e2 : Int) - (r : Int))) (by omega) ((hY.put (by decide)).put (by constructor <;> (try left) <;> decide))
            rw [if_neg (by decide), b509_52]
            have c1' : ev 509 55 [qR 1, qR 3, qI (G : Int), qI (e2 : Int), qI 0] [] (rC σ (r : Int) (r : Int) 0 (-1) (σ 1 6) ((u ||| 2 ^ G : Nat) : Int)) = some (none, rC β (e2 : Int) (r : Int) 0 (-1) (σ 1 6) ((u ||| 2 ^ G : Nat) : Int)) := c1
            have d1' : ev 917 119 [qR 50, qI (G : Int), qI 0] [] (rM (q_put (q_put σ 50 22 ((u ||| 2 ^ G : Nat) : Int)) 61 (6 + G) ((e2 : Int) - (r : Int))) (e2 : Int) (r : Int) ((e2 : Int) - (r : Int)) 0 (-1)) = some (none, rM γ (e2 : Int) (r : Int) ((e2 : Int) - (r : Int)) 0 (-1)) := d1
            rw [c1', bN, b507_70, b01_t, m_wantY, bS, b917_101, if_neg (by decide), b917_104 (by omega), rM_27, show (6 + (G : Int)).toNat = 6 + G by omega, rM_put (by decide), d1']
            have fc : FC σ (rC β (e2 : Int) (r : Int) 0 (-1) (σ 1 6) ((u ||| 2 ^ G : Nat) : Int)) := FC.rC ⟨fun k _ _ k3 => c2 k (fun z => k3 (by omega)) (fun z => k3 (by omega)), by rw [c2 1 (by decide) (by decide)]⟩
            have fg : FM (q_put (q_put σ 50 22 ((u ||| 2 ^ G : Nat) : Int)) 61 (6 + G) ((e2 : Int) - (r : Int))) γ := by
              refine ⟨fun k hk => d2 k (by rintro rfl; revert hk; decide), fun j _ => by rw [d2 50 (by decide)], fun j _ => by rw [d2 53 (by decide)], fun k hk j _ => by rw [d2 k (by rintro rfl; revert hk; decide)], fun j hj => d3 j (fun m _ _ => by omega)⟩
            have fm : FM σ (rM γ (e2 : Int) (r : Int) ((e2 : Int) - (r : Int)) 0 (-1)) := FM.rM (FM.trans (FM.pH (by decide) (Nat.le_add_right _ _) (FM.p50 (by decide) FM.refl)) fg)
            have x50 : ∀ j, j ≠ 22 → γ 50 j = σ 50 j := by
              intro j hj
              rw [d2 50 (by decide), put_ne (by decide), rw_sl hj]
            have x5 : ∀ k, k ≠ 50 → k ≠ 60 → k ≠ 61 → γ k = σ k := by
              intro k k1 k2 k3
              rw [d2 k k2, put_ne k3, put_ne k1]
            have x22 : γ 50 22 = ((u ||| 2 ^ G : Nat) : Int) := by
              rw [d2 50 (by decide), put_ne (by decide), rw_eq]
            have x61 : γ 61 (6 + G) = (e2 : Int) - (r : Int) := by
              rw [d2 61 (by decide), rw_eq]
            have x61' : ∀ j, j ≠ 6 + G → γ 61 j = σ 61 j := by
              intro j hj
              rw [d2 61 (by decide), rw_sl hj, put_ne (by decide)]
            rw [if_pos (by omega)] at c6
            refine ⟨_, _, rfl, rfl, fc, fm, Or.inr ⟨e2, by omega, LD.mk hB0 fc fm ⟨rfl, rfl, by omega, rfl, rfl, rfl, rfl⟩ ?_ ?_ ?_ ?_⟩⟩
            · unfold D_S
              simp (disch := decide) only [mix_c, mix_m, rC_ne, rC_1, rC_2, rC_3, rC_4, rC_5, rC_6, rC_7, rM_ne, rM_o, rM_25, rM_26, rM_27, rM_28, rM_29, rw_ne, rw_sl, rw_eq, true_and, and_true]
              rw [c2 3 (by decide) (by decide), x50 17 (by decide), x50 18 (by decide), x50 19 (by decide), x50 20 (by decide), x50 4 (by decide), x50 21 (by decide), x22, x5 53 (by decide) (by decide) (by decide)]
              omega
            · unfold D_H
              simp (disch := decide) only [mix_c, mix_m, rC_ne, rC_1, rC_2, rC_3, rC_4, rC_5, rC_6, rC_7, rM_ne, rM_o, rM_25, rM_26, rM_27, rM_28, rM_29, rw_ne, rw_sl, rw_eq, true_and, and_true]
              rw [c2 4 (by decide) (by decide), c2 5 (by decide) (by decide), x50 17 (by decide), x5 54 (by decide) (by decide) (by decide), x5 55 (by decide) (by decide) (by decide)]
              exact hH
            · unfold D_W
              simp (disch := decide) only [mix_c, mix_m, rC_ne, rC_1, rC_2, rC_3, rC_4, rC_5, rC_6, rC_7, rM_ne, rM_o, rM_25, rM_26, rM_27, rM_28, rM_29, rw_ne, rw_sl, rw_eq, true_and, and_true]
              rw [x50 17 (by decide), x5 55 (by decide) (by decide) (by decide)]
              exact hW
            · unfold D_G
              simp (disch := decide) only [mix_c, mix_m, rC_ne, rC_1, rC_2, rC_3, rC_4, rC_5, rC_6, rC_7, rM_ne, rM_o, rM_25, rM_26, rM_27, rM_28, rM_29, rw_ne, rw_sl, rw_eq, true_and, and_true]
              rw [x50 17 (by decide), x50 18 (by decide), c2 6 (by decide) (by decide), c2 7 (by decide) (by decide), c2 8 (by decide) (by decide), c2 9 (by decide) (by decide), x5 56 (by decide) (by decide) (by decide), x5 57 (by decide) (by decide) (by decide), x5 58 (by decide) (by decide) (by decide), x5 59 (by decide) (by decide) (by decide)]
              intro g hg
              obtain ⟨q1, q2, q3, q4, q5, q6, q7, q8, q9, q10, q11, q12, q13, q14, q15, q16⟩ := hG g hg
              by_cases eg : g = G
              · subst eg
                rw [c6, x61]
                refine ⟨q1, q2, q3, q4, q5, q6, by omega, q8, q9, q10, q11, q12, q13, by omega, by omega, fun i hi => ?_⟩
                have hdi := hd (r + i) (by omega) (by omega)
                rw [c4 i (by omega) (by omega), d4 i (by omega) (by omega)]
                omega
              · rw [c5 g eg, x61' (6 + g) (by omega)]
                refine ⟨q1, q2, q3, q4, q5, q6, q7, q8, q9, q10, q11, q12, q13, q14, q15, fun i hi => ?_⟩
                rw [c3 _ (fun m _ _ => by omega), d3 _ (fun m _ _ => by omega), put_ne (by decide), put_ne (by decide)]
                exact q16 i hi
        · have ebm : bm = false := by
            cases hbm : bm
            · rfl
            · exact absurd (of_decide_eq_true (bm2.mp hbm).1) h6
          subst ebm
          rw [if_pos (by omega), bad4, bN, b507_70, rM_26, b01_f, m_wantN (by decide), bS, b917_101, if_pos rfl, b917_161]
          exact ⟨_, _, rfl, rfl, OUT.bad (f := 4) (by repeat (first | exact FC.refl | apply FC.rC | refine FC.put (by decide) ?_)) (by repeat (first | exact FM.refl | apply FM.rM | refine FM.p50 (by decide) ?_ | refine FM.p53 (by first | decide | omega) ?_ | refine FM.pH (by decide) (by first | exact Nat.le_add_right _ _ | omega) ?_ | refine FM.p60 (by first | exact Nat.le_add_right _ _ | omega) ?_)) (by decide) rfl rfl rfl rfl⟩
    · rw [if_neg (by decide), b507_40, b515_0, rC_5, rC_p2, rC_p3, bN, b507_45, rC_2, if_neg (by decide), b507_70, if_neg (by decide), b917_35, b917_36, rM_26, m_wantN (by decide), bS, b917_44, if_pos rfl, b917_47]
      exact ⟨_, _, rfl, rfl, OUT.bad (f := 4) (by repeat (first | exact FC.refl | apply FC.rC | refine FC.put (by decide) ?_)) (by repeat (first | exact FM.refl | apply FM.rM | refine FM.p50 (by decide) ?_ | refine FM.p53 (by first | decide | omega) ?_ | refine FM.pH (by decide) (by first | exact Nat.le_add_right _ _ | omega) ?_ | refine FM.p60 (by first | exact Nat.le_add_right _ _ | omega) ?_)) (by decide) rfl rfl rfl rfl⟩
  · obtain ⟨v, hv⟩ := m_numN (s := (a : Int)) (l := l) (b := -1) hT hY hen f1
    have g1 := nF_bad f1
    rw [c_numN hT hX hen f1, bS, b507_21, rC_2, if_neg f1, b507_45, rC_2, if_neg f1, b507_70, hv, bS, b917_11, rM_28, if_pos g1.2.2, b917_47]
    exact ⟨_, _, rfl, rfl, OUT.bad (by repeat (first | exact FC.refl | apply FC.rC | refine FC.put (by decide) ?_)) (by repeat (first | exact FM.refl | apply FM.rM | refine FM.p50 (by decide) ?_ | refine FM.p53 (by first | decide | omega) ?_ | refine FM.pH (by decide) (by first | exact Nat.le_add_right _ _ | omega) ?_ | refine FM.p60 (by first | exact Nat.le_add_right _ _ | omega) ?_)) ⟨g1.1, g1.2.1⟩ rfl rfl rfl rfl⟩
end LH
