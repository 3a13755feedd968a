/-! ===== keep, goBack ===== -/
theorem R_N.tr {σ σ' : SS} {N N' : Int} {c b c' b' : Nat} (h : R_N σ N c b) (hN : N ≤ N') (hg : σ 50 14 ≤ 6) (e0 : ∀ j, 3 ≤ j → j ≤ 8 → σ' c' j = σ c j) (e1 : ∀ j, j < 6 → σ' (c' + 1) j = σ (c + 1) j) (e2 : ∀ j, j < 6 → σ' (c' + 2) j = σ (c + 2) j) (e3 : ∀ j, j < 6 → σ' (c' + 3) j = σ (c + 3) j) (e51 : ∀ j, j < 24 → σ' 51 (b' + j) = σ 51 (b + j)) (e13 : σ' 50 13 = σ 50 13) (e14 : σ' 50 14 = σ 50 14) : R_N σ' N' c' b' := by
  unfold R_N at h ⊢
  rw [e0 3 (by omega) (by omega), e0 4 (by omega) (by omega), e0 5 (by omega) (by omega), e0 6 (by omega) (by omega), e0 7 (by omega) (by omega), e0 8 (by omega) (by omega), e51 21 (by omega), e51 22 (by omega), e51 18 (by omega), e51 19 (by omega), e51 20 (by omega), e51 23 (by omega), e13, e14]
  obtain ⟨h1, h2, h3⟩ := h
  refine ⟨h1, by omega, fun g hgg => ?_⟩
  have := h3 g hgg
  rw [Nat.add_assoc, Nat.add_assoc] at this
  rw [e1 g (by omega), e2 g (by omega), e3 g (by omega), Nat.add_assoc, Nat.add_assoc, e51 g (by omega), e51 (6 + g) (by omega), e51 (12 + g) (by omega)]
  exact this
/-- the images alone are written -/
theorem RR.img {σ σ1 σ2 : SS} {N N' : Int} (h : RR σ N) (hN : N ≤ N') (hN' : N' ≤ 100000) (ec : ∀ k, k ∈ [1, 2, 12, 13, 14, 16, 17, 18, 19, 20, 21, 22, 23, 24, 35, 36, 37, 38, 39, 40, 41] → σ1 k = σ k) (em : ∀ k, k ∈ [50, 53, 54, 55, 57, 58, 59, 60, 61, 62, 66, 67, 68, 69, 70, 71] → σ2 k = σ k) (e51 : ∀ j, j < 32 → σ2 51 j = σ 51 j) (hk : R_K (mix σ1 σ2) N') : RR (mix σ1 σ2) N' := by
  have ht := h.t
  obtain ⟨h1, h2, h3, h4, h5, h6, h7⟩ := h
  have e : ∀ k, k ∈ [1, 2, 12, 13, 14, 16, 17, 18, 19, 20, 21, 22, 23, 24, 35, 36, 37, 38, 39, 40, 41, 50, 53, 54, 55, 57, 58, 59, 60, 61, 62, 66, 67, 68, 69, 70, 71] → mix σ1 σ2 k = σ k := by
    intro k hk
    by_cases hlt : k < 50
    · rw [mix_c hlt]; exact ec k (by revert hlt; revert hk; revert k; decide)
    · rw [mix_m (by omega)]; exact em k (by revert hlt; revert hk; revert k; decide)
  have sub : ∀ {l : List Nat}, (∀ k ∈ l, k ∈ [1, 2, 12, 13, 14, 16, 17, 18, 19, 20, 21, 22, 23, 24, 35, 36, 37, 38, 39, 40, 41, 50, 53, 54, 55, 57, 58, 59, 60, 61, 62, 66, 67, 68, 69, 70, 71]) → ∀ k, k ∈ l → mix σ1 σ2 k = σ k := fun hl k hk => e k (hl k hk)
  have e50 : ∀ {l : List Nat} (j : Nat), j ∈ l → mix σ1 σ2 50 j = σ 50 j := fun j _ => by rw [e 50 (by decide)]
  exact ⟨h1.cg (sub (by decide)) e50, h2.cg hN (by omega) (e 21 (by decide)) (e 22 (by decide)) (e 23 (by decide)) (e 24 (by decide)) (fun j _ hj => by rw [mix_m (by decide)]; exact e51 j (by omega)) e50, hk, h4.cg (sub (by decide)) e50, h5.cg (sub (by decide)) (by rw [e 1 (by decide)]) (by rw [e 1 (by decide)]) e50, by omega, hN'⟩
/-- w's rows copied -/
def cp51 (σ : SS) (a b i : Nat) : SS := fun k j => if k = 51 ∧ b ≤ j ∧ j < b + i then σ 51 (j - b + a) else σ k j
theorem cp51_ne {σ : SS} {a b i k : Nat} (h : k ≠ 51) : cp51 σ a b i k = σ k := by
  funext j
  unfold cp51
  rw [if_neg (fun z => h z.1)]
theorem cp51_in {σ : SS} {a b i j : Nat} (h : j < i) : cp51 σ a b i 51 (b + j) = σ 51 (a + j) := by
  unfold cp51
  rw [if_pos ⟨rfl, by omega, by omega⟩, show b + j - b + a = a + j by omega]
theorem cp51_out {σ : SS} {a b i j : Nat} (h : j < b ∨ b + i ≤ j) : cp51 σ a b i 51 j = σ 51 j := by
  unfold cp51
  rw [if_neg (by omega)]
section O8
variable {σ : SS} {N : Int}
theorem m_copyL {a b : Nat} (hab : a + 32 ≤ b ∨ b + 32 ≤ a) (ha : a + 32 ≤ 96) (hb : b + 32 ≤ 96) : ∀ (k i : Nat), i + k = 32 → ev 975 2 [qR 50, qI (a : Int), qI (b : Int), qI (i : Int)] [] (cp51 σ a b i) = some (none, cp51 σ a b 32)
  | 0, i, hk => by
    have e : i = 32 := by omega
    rw [b975_2, if_neg (by omega), b975_30, e]
  | k + 1, i, hk => by
    rw [b975_2, if_pos (by omega), b975_8 (by omega)]
    have e : q_put (cp51 σ a b i) 51 ((b : Int) + i).toNat (cp51 σ a b i 51 ((a : Int) + i).toNat) = cp51 σ a b (i + 1) := by
      rw [show ((b : Int) + i).toNat = b + i by omega, show ((a : Int) + i).toNat = a + i by omega, cp51_out (by omega)]
      funext k' j'
      unfold q_put cp51
      by_cases h1 : k' = 51 ∧ j' = b + i
      · rw [if_pos h1, if_pos ⟨h1.1, by omega, by omega⟩, h1.2, show b + i - b + a = a + i by omega]
      · rw [if_neg h1]
        by_cases h2 : k' = 51 ∧ b ≤ j' ∧ j' < b + i
        · rw [if_pos h2, if_pos ⟨h2.1, by omega, by omega⟩]
        · rw [if_neg h2, if_neg (by omega)]
    rw [e]
    exact m_copyL hab ha hb k (i + 1) (by omega)
theorem cp51_0 {a b : Nat} : cp51 σ a b 0 = σ := by
  funext k j
  unfold cp51
  rw [if_neg (by omega)]
theorem m_copy {a b : Nat} (hab : a + 32 ≤ b ∨ b + 32 ≤ a) (ha : a + 32 ≤ 96) (hb : b + 32 ≤ 96) : ev 975 0 [qR 50, qI (a : Int), qI (b : Int), qU] [] σ = some (none, cp51 σ a b 32) := by
  rw [b975_0]
  have := m_copyL (σ := σ) hab ha hb 32 0 (by omega)
  rw [cp51_0] at this
  exact this
theorem op_keep {w : Int} (h : RR σ N) (hN : N + 999 ≤ 100000) : Op 846 976 [qR 0, qI w] [qR 50, qI w] σ N := by
  have ht := h.t
  have hn := h.n
  by_cases hw : 0 ≤ w ∧ w ≤ 1
  · have hw2 : w = 0 ∨ w = 1 := by omega
    have h6 : σ 21 6 = 0 ∨ σ 21 6 = 1 := by omega
    obtain ⟨k1, k2, k3, k4, k5, k6⟩ := h.2.2.1
    rcases hw2 with rfl | rfl
    · refine ⟨1, (q_put (q_put (q_put (q_put (q_put (q_put (q_put (q_cpy (q_cpy (q_cpy σ 27 (σ 22) 0 0 6) 28 (σ 23) 0 0 6) 29 (σ 24) 0 0 6) 26 3 (σ 21 3)) 26 4 (σ 21 4)) 26 5 (σ 21 5)) 26 6 (σ 21 6)) 26 7 (σ 21 7)) 26 8 (σ 21 8)) 0 5 (q_or ((q_put (q_put (q_put (q_put (q_put (q_put (q_cpy (q_cpy (q_cpy σ 27 (σ 22) 0 0 6) 28 (σ 23) 0 0 6) 29 (σ 24) 0 0 6) 26 3 (σ 21 3)) 26 4 (σ 21 4)) 26 5 (σ 21 5)) 26 6 (σ 21 6)) 26 7 (σ 21 7)) 26 8 (σ 21 8)) 0 5) (q_shl 1 0))), q_put (cp51 σ 0 32 32) 52 0 1, ?_, ?_, ?_⟩
      · simp (disch := first | omega | exact b01_or _) only [b846_0, b846_4, b846_12_f0, b846_25, b301x0_0, Option.bind_some, q_push_some, q_push_none, Int.reduceLT, if_true, if_false]
      · have hc := m_copy (σ := σ) (a := 0) (b := 32) (by omega) (by omega) (by omega)
        simp (disch := first | omega | exact b01_or _) only [b976_0, b976_7, m_in, Option.bind_some, q_push_some, q_push_none, b01_eq0, b01_eq1, decide_eq_false_iff_not, decide_eq_true_eq, ite_not, b01_t, b01_f, one_ne0, zero_eq0, Bool.true_eq_false, Bool.false_eq_true, ite_true, ite_false, and_self, and_true, true_and, not_true_eq_false, not_false_eq_true, Int.reduceLE]
        rw [b976_13 (by omega)]
        refine Eq.trans (congrArg (fun z => Option.bind z _) hc) ?_
        simp (disch := first | omega | exact b01_or _) only [Option.bind_some, q_push_some, q_push_none, b976_24]
        rfl
      · refine h.img (by omega) hN ?_ ?_ ?_ ?_
        · intro k hk
          rw [put_ne (by rintro rfl; revert hk; decide), put_ne (by rintro rfl; revert hk; decide), put_ne (by rintro rfl; revert hk; decide), put_ne (by rintro rfl; revert hk; decide), put_ne (by rintro rfl; revert hk; decide), put_ne (by rintro rfl; revert hk; decide), put_ne (by rintro rfl; revert hk; decide), rc_ne (by rintro rfl; revert hk; decide), rc_ne (by rintro rfl; revert hk; decide), rc_ne (by rintro rfl; revert hk; decide)]
        · intro k hk
          rw [put_ne (by rintro rfl; revert hk; decide), cp51_ne (by rintro rfl; revert hk; decide)]
        · intro j hj
          rw [put_ne (by decide), cp51_out (by omega)]
        · unfold R_K
          simp (disch := decide) only [mix_c, mix_m, rw_ne, rc_ne, rw_sl, rw_eq, cp51_ne]
          refine ⟨?_, Or.inr trivial, k3, ?_, fun _ => ?_, fun z => ?_⟩
          · rcases k1 with z | z | z | z <;> rw [z] <;> decide
          · rcases k1 with z | z | z | z <;> rw [z] <;> rcases k2 with y | y <;> rcases k3 with x | x <;> rw [x] <;> first | decide | omega
          · refine h.2.1.tr (by omega) (by omega) ?_ ?_ ?_ ?_ ?_ ?_ ?_
            · intro j h1 h2
              have hj : j = 3 ∨ j = 4 ∨ j = 5 ∨ j = 6 ∨ j = 7 ∨ j = 8 := by omega
              rcases hj with rfl | rfl | rfl | rfl | rfl | rfl <;> simp (disch := decide) only [mix_c, rw_ne, rw_sl, rw_eq]
            · intro j hj
              simp (disch := first | decide | omega) only [mix_c, rw_ne, rc_ne, rc_in]
            · intro j hj
              simp (disch := first | decide | omega) only [mix_c, rw_ne, rc_ne, rc_in]
            · intro j hj
              simp (disch := first | decide | omega) only [mix_c, rw_ne, rc_ne, rc_in]
            · intro j hj
              simp (disch := first | decide | omega) only [mix_m, rw_ne, cp51_in]
            · simp (disch := decide) only [mix_m, rw_ne, cp51_ne]
            · simp (disch := decide) only [mix_m, rw_ne, cp51_ne]
          · refine (k6 z).cg (by omega) (by omega) ?_ ?_ ?_ ?_ ?_ ?_
            · simp (disch := decide) only [mix_c, rw_ne, rc_ne]
            · simp (disch := decide) only [mix_c, rw_ne, rc_ne]
            · simp (disch := decide) only [mix_c, rw_ne, rc_ne]
            · simp (disch := decide) only [mix_c, rw_ne, rc_ne]
            · intro j h1 h2
              simp (disch := first | decide | omega) only [mix_m, rw_ne, cp51_out]
            · intro j hj
              simp (disch := decide) only [mix_m, rw_ne, cp51_ne]
    · refine ⟨1, (q_put (q_put (q_put (q_put (q_put (q_put (q_put (q_cpy (q_cpy (q_cpy σ 31 (σ 22) 0 0 6) 32 (σ 23) 0 0 6) 33 (σ 24) 0 0 6) 30 3 (σ 21 3)) 30 4 (σ 21 4)) 30 5 (σ 21 5)) 30 6 (σ 21 6)) 30 7 (σ 21 7)) 30 8 (σ 21 8)) 0 5 (q_or ((q_put (q_put (q_put (q_put (q_put (q_put (q_cpy (q_cpy (q_cpy σ 31 (σ 22) 0 0 6) 32 (σ 23) 0 0 6) 33 (σ 24) 0 0 6) 30 3 (σ 21 3)) 30 4 (σ 21 4)) 30 5 (σ 21 5)) 30 6 (σ 21 6)) 30 7 (σ 21 7)) 30 8 (σ 21 8)) 0 5) (q_shl 1 1))), q_put (cp51 σ 0 64 32) 52 1 1, ?_, ?_, ?_⟩
      · simp (disch := first | omega | exact b01_or _) only [b846_0, b846_4, b846_12_f1, b846_25, b301x1_0, Option.bind_some, q_push_some, q_push_none, Int.reduceLT, if_true, if_false]
      · have hc := m_copy (σ := σ) (a := 0) (b := 64) (by omega) (by omega) (by omega)
        simp (disch := first | omega | exact b01_or _) only [b976_0, b976_7, m_in, Option.bind_some, q_push_some, q_push_none, b01_eq0, b01_eq1, decide_eq_false_iff_not, decide_eq_true_eq, ite_not, b01_t, b01_f, one_ne0, zero_eq0, Bool.true_eq_false, Bool.false_eq_true, ite_true, ite_false, and_self, and_true, true_and, not_true_eq_false, not_false_eq_true, Int.reduceLE]
        rw [b976_13 (by omega)]
        refine Eq.trans (congrArg (fun z => Option.bind z _) hc) ?_
        simp (disch := first | omega | exact b01_or _) only [Option.bind_some, q_push_some, q_push_none, b976_24]
        rfl
      · refine h.img (by omega) hN ?_ ?_ ?_ ?_
        · intro k hk
          rw [put_ne (by rintro rfl; revert hk; decide), put_ne (by rintro rfl; revert hk; decide), put_ne (by rintro rfl; revert hk; decide), put_ne (by rintro rfl; revert hk; decide), put_ne (by rintro rfl; revert hk; decide), put_ne (by rintro rfl; revert hk; decide), put_ne (by rintro rfl; revert hk; decide), rc_ne (by rintro rfl; revert hk; decide), rc_ne (by rintro rfl; revert hk; decide), rc_ne (by rintro rfl; revert hk; decide)]
        · intro k hk
          rw [put_ne (by rintro rfl; revert hk; decide), cp51_ne (by rintro rfl; revert hk; decide)]
        · intro j hj
          rw [put_ne (by decide), cp51_out (by omega)]
        · unfold R_K
          simp (disch := decide) only [mix_c, mix_m, rw_ne, rc_ne, rw_sl, rw_eq, cp51_ne]
          refine ⟨?_, k2, Or.inr trivial, ?_, fun z => ?_, fun _ => ?_⟩
          · rcases k1 with z | z | z | z <;> rw [z] <;> decide
          · rcases k1 with z | z | z | z <;> rw [z] <;> rcases k2 with y | y <;> rcases k3 with x | x <;> rw [y] <;> first | decide | omega
          · refine (k5 z).cg (by omega) (by omega) ?_ ?_ ?_ ?_ ?_ ?_
            · simp (disch := decide) only [mix_c, rw_ne, rc_ne]
            · simp (disch := decide) only [mix_c, rw_ne, rc_ne]
            · simp (disch := decide) only [mix_c, rw_ne, rc_ne]
            · simp (disch := decide) only [mix_c, rw_ne, rc_ne]
            · intro j h1 h2
              simp (disch := first | decide | omega) only [mix_m, rw_ne, cp51_out]
            · intro j hj
              simp (disch := decide) only [mix_m, rw_ne, cp51_ne]
          · refine h.2.1.tr (by omega) (by omega) ?_ ?_ ?_ ?_ ?_ ?_ ?_
            · intro j h1 h2
              have hj : j = 3 ∨ j = 4 ∨ j = 5 ∨ j = 6 ∨ j = 7 ∨ j = 8 := by omega
              rcases hj with rfl | rfl | rfl | rfl | rfl | rfl <;> simp (disch := decide) only [mix_c, rw_ne, rw_sl, rw_eq]
            · intro j hj
              simp (disch := first | decide | omega) only [mix_c, rw_ne, rc_ne, rc_in]
            · intro j hj
              simp (disch := first | decide | omega) only [mix_c, rw_ne, rc_ne, rc_in]
            · intro j hj
              simp (disch := first | decide | omega) only [mix_c, rw_ne, rc_ne, rc_in]
            · intro j hj
              simp (disch := first | decide | omega) only [mix_m, rw_ne, cp51_in]
            · simp (disch := decide) only [mix_m, rw_ne, cp51_ne]
            · simp (disch := decide) only [mix_m, rw_ne, cp51_ne]
  · refine Op.ro h hN (a := -1000000001) ?_ ?_
    · by_cases c1 : w < 0
      · simp (disch := first | omega | exact b01_or _) only [b846_0, b846_9, c1, if_true]
      · have c2 : ¬ w < 2 := by omega
        simp (disch := first | omega | exact b01_or _) only [b846_0, b846_4, b846_9, c1, c2, if_false]
    · simp (disch := first | omega | exact b01_or _) only [b976_0, b976_7, b976_10, m_in, hw, Option.bind_some, q_push_some, q_push_none, b01_eq0, b01_eq1, decide_eq_false_iff_not, decide_eq_true_eq, ite_not, b01_t, b01_f, one_ne0, zero_eq0, Bool.true_eq_false, Bool.false_eq_true, ite_true, ite_false, and_self, and_true, true_and, not_true_eq_false, not_false_eq_true]
theorem op_goBack {w : Int} (h : RR σ N) (hN : N + 999 ≤ 100000) : Op 847 977 [qR 0, qI w] [qR 50, qI w] σ N := by
  have ht := h.t
  have hn := h.n
  by_cases hw : 0 ≤ w ∧ w ≤ 1
  · have hw2 : w = 0 ∨ w = 1 := by omega
    obtain ⟨k1, k2, k3, k4, k5, k6⟩ := h.2.2.1
    have kr : 0 ≤ σ 0 5 ∧ σ 0 5 ≤ 2147483647 := by omega
    rcases hw2 with rfl | rfl
    · have hbit : (σ 0 5).toNat.testBit 0 = decide (σ 52 0 = 1) := by
        rcases k1 with z | z | z | z <;> rw [z] <;> rcases k2 with y | y <;> rcases k3 with x | x <;> rw [y] <;> first | decide | omega
      by_cases hs : σ 52 0 = 1
      · have hr := k5 hs
        have hr2 := hr.2.1
        have hr1 := hr.1
        have h6 : σ 26 6 = 0 ∨ σ 26 6 = 1 := by omega
        refine ⟨1, (q_put (q_put (q_put (q_put (q_put (q_put (q_cpy (q_cpy (q_cpy σ 22 (σ 27) 0 0 6) 23 (σ 28) 0 0 6) 24 (σ 29) 0 0 6) 21 3 (σ 26 3)) 21 4 (σ 26 4)) 21 5 (σ 26 5)) 21 6 (σ 26 6)) 21 7 (σ 26 7)) 21 8 (σ 26 8)), cp51 σ 32 0 32, ?_, ?_, ?_⟩
        · simp (disch := first | omega | exact b01_or _) only [b847_0, b847_4, b847_12, b847_20, b847_26_f0, b847_39, b301x2_0, c_has kr, Int.toNat_zero, hbit, hs, Option.bind_some, q_push_some, q_push_none, b01_eq0, b01_eq1, decide_eq_false_iff_not, decide_eq_true_eq, ite_not, b01_t, b01_f, one_ne0, zero_eq0, Bool.true_eq_false, Bool.false_eq_true, ite_true, ite_false, and_self, and_true, true_and, not_true_eq_false, not_false_eq_true, Int.reduceLT, Int.reduceLE, Bool.and_true]
          rfl
        · have hc := m_copy (σ := σ) (a := 32) (b := 0) (by omega) (by omega) (by omega)
          have hz : ¬ σ 52 0 = 0 := by omega
          simp (disch := first | omega | exact b01_or _) only [b977_0, b977_7, b977_13, m_in, Int.toNat_zero, hz, Option.bind_some, q_push_some, q_push_none, b01_eq0, b01_eq1, decide_eq_false_iff_not, decide_eq_true_eq, ite_not, b01_t, b01_f, one_ne0, zero_eq0, Bool.true_eq_false, Bool.false_eq_true, ite_true, ite_false, and_self, and_true, true_and, not_true_eq_false, not_false_eq_true, Int.reduceLE]
          rw [b977_25 (by omega)]
          refine Eq.trans (congrArg (fun z => Option.bind z _) hc) ?_
          simp (disch := first | omega | exact b01_or _) only [Option.bind_some, q_push_some, q_push_none, b977_36]
        · refine h.night (by omega) hN ?_ ?_ ?_ ?_
          · intro k hk
            rw [put_ne (by rintro rfl; revert hk; decide), put_ne (by rintro rfl; revert hk; decide), put_ne (by rintro rfl; revert hk; decide), put_ne (by rintro rfl; revert hk; decide), put_ne (by rintro rfl; revert hk; decide), put_ne (by rintro rfl; revert hk; decide), rc_ne (by rintro rfl; revert hk; decide), rc_ne (by rintro rfl; revert hk; decide), rc_ne (by rintro rfl; revert hk; decide)]
          · intro k hk
            rw [cp51_ne (by rintro rfl; revert hk; decide)]
          · intro j hj
            rw [cp51_out (by omega)]
          · refine hr.tr (by omega) (by omega) ?_ ?_ ?_ ?_ ?_ ?_ ?_
            · intro j h1 h2
              have hj : j = 3 ∨ j = 4 ∨ j = 5 ∨ j = 6 ∨ j = 7 ∨ j = 8 := by omega
              rcases hj with rfl | rfl | rfl | rfl | rfl | rfl <;> simp (disch := decide) only [mix_c, rw_ne, rw_sl, rw_eq]
            · intro j hj
              simp (disch := first | decide | omega) only [mix_c, rw_ne, rc_ne, rc_in]
            · intro j hj
              simp (disch := first | decide | omega) only [mix_c, rw_ne, rc_ne, rc_in]
            · intro j hj
              simp (disch := first | decide | omega) only [mix_c, rw_ne, rc_ne, rc_in]
            · intro j hj
              simp (disch := first | decide | omega) only [mix_m, rw_ne, cp51_in]
            · simp (disch := decide) only [mix_m, rw_ne, cp51_ne]
            · simp (disch := decide) only [mix_m, rw_ne, cp51_ne]
      · have hz : σ 52 0 = 0 := by omega
        refine Op.ro h hN (a := -1000000003) ?_ ?_
        · simp (disch := first | omega | exact b01_or _) only [b847_0, b847_4, b847_12, b847_20, b847_23, c_has kr, Int.toNat_zero, hbit, hz, Option.bind_some, q_push_some, q_push_none, b01_eq0, b01_eq1, decide_eq_false_iff_not, decide_eq_true_eq, ite_not, b01_t, b01_f, one_ne0, zero_eq0, Bool.true_eq_false, Bool.false_eq_true, ite_true, ite_false, and_self, and_true, true_and, not_true_eq_false, not_false_eq_true, Int.reduceLT, Int.reduceLE, Int.reduceEq, Bool.and_false]
          rfl
        · simp (disch := first | omega | exact b01_or _) only [b977_0, b977_7, b977_13, b977_22, m_in, Int.toNat_zero, hz, Option.bind_some, q_push_some, q_push_none, b01_eq0, b01_eq1, decide_eq_false_iff_not, decide_eq_true_eq, ite_not, b01_t, b01_f, one_ne0, zero_eq0, Bool.true_eq_false, Bool.false_eq_true, ite_true, ite_false, and_self, and_true, true_and, not_true_eq_false, not_false_eq_true, Int.reduceLE]
    · have hbit : (σ 0 5).toNat.testBit (1 : Int).toNat = decide (σ 52 1 = 1) := by
        rcases k1 with z | z | z | z <;> rw [z] <;> rcases k2 with y | y <;> rcases k3 with x | x <;> rw [x] <;> first | decide | omega
      have t1 : (1 : Int).toNat = 1 := rfl
      by_cases hs : σ 52 1 = 1
      · have hr := k6 hs
        have hr2 := hr.2.1
        have hr1 := hr.1
        have h6 : σ 30 6 = 0 ∨ σ 30 6 = 1 := by omega
        refine ⟨1, (q_put (q_put (q_put (q_put (q_put (q_put (q_cpy (q_cpy (q_cpy σ 22 (σ 31) 0 0 6) 23 (σ 32) 0 0 6) 24 (σ 33) 0 0 6) 21 3 (σ 30 3)) 21 4 (σ 30 4)) 21 5 (σ 30 5)) 21 6 (σ 30 6)) 21 7 (σ 30 7)) 21 8 (σ 30 8)), cp51 σ 64 0 32, ?_, ?_, ?_⟩
        · simp (disch := first | omega | exact b01_or _) only [b847_0, b847_4, b847_12, b847_20, b847_26_f1, b847_39, b301x3_0, c_has kr, hbit, hs, Option.bind_some, q_push_some, q_push_none, b01_eq0, b01_eq1, decide_eq_false_iff_not, decide_eq_true_eq, ite_not, b01_t, b01_f, one_ne0, zero_eq0, Bool.true_eq_false, Bool.false_eq_true, ite_true, ite_false, and_self, and_true, true_and, not_true_eq_false, not_false_eq_true, Int.reduceLT, Int.reduceLE, Bool.and_true]
          rfl
        · have hc := m_copy (σ := σ) (a := 64) (b := 0) (by omega) (by omega) (by omega)
          have hz : ¬ σ 52 1 = 0 := by omega
          simp (disch := first | omega | exact b01_or _) only [b977_0, b977_7, b977_13, m_in, t1, hz, Option.bind_some, q_push_some, q_push_none, b01_eq0, b01_eq1, decide_eq_false_iff_not, decide_eq_true_eq, ite_not, b01_t, b01_f, one_ne0, zero_eq0, Bool.true_eq_false, Bool.false_eq_true, ite_true, ite_false, and_self, and_true, true_and, not_true_eq_false, not_false_eq_true, Int.reduceLE]
          rw [b977_25 (by omega)]
          refine Eq.trans (congrArg (fun z => Option.bind z _) hc) ?_
          simp (disch := first | omega | exact b01_or _) only [Option.bind_some, q_push_some, q_push_none, b977_36]
        · refine h.night (by omega) hN ?_ ?_ ?_ ?_
          · intro k hk
            rw [put_ne (by rintro rfl; revert hk; decide), put_ne (by rintro rfl; revert hk; decide), put_ne (by rintro rfl; revert hk; decide), put_ne (by rintro rfl; revert hk; decide), put_ne (by rintro rfl; revert hk; decide), put_ne (by rintro rfl; revert hk; decide), rc_ne (by rintro rfl; revert hk; decide), rc_ne (by rintro rfl; revert hk; decide), rc_ne (by rintro rfl; revert hk; decide)]
          · intro k hk
            rw [cp51_ne (by rintro rfl; revert hk; decide)]
          · intro j hj
            rw [cp51_out (by omega)]
          · refine hr.tr (by omega) (by omega) ?_ ?_ ?_ ?_ ?_ ?_ ?_
            · intro j h1 h2
              have hj : j = 3 ∨ j = 4 ∨ j = 5 ∨ j = 6 ∨ j = 7 ∨ j = 8 := by omega
              rcases hj with rfl | rfl | rfl | rfl | rfl | rfl <;> simp (disch := decide) only [mix_c, rw_ne, rw_sl, rw_eq]
            · intro j hj
              simp (disch := first | decide | omega) only [mix_c, rw_ne, rc_ne, rc_in]
            · intro j hj
              simp (disch := first | decide | omega) only [mix_c, rw_ne, rc_ne, rc_in]
            · intro j hj
              simp (disch := first | decide | omega) only [mix_c, rw_ne, rc_ne, rc_in]
            · intro j hj
              simp (disch := first | decide | omega) only [mix_m, rw_ne, cp51_in]
            · simp (disch := decide) only [mix_m, rw_ne, cp51_ne]
            · simp (disch := decide) only [mix_m, rw_ne, cp51_ne]
      · have hz : σ 52 1 = 0 := by omega
        refine Op.ro h hN (a := -1000000003) ?_ ?_
        · simp (disch := first | omega | exact b01_or _) only [b847_0, b847_4, b847_12, b847_20, b847_23, c_has kr, hbit, hz, Option.bind_some, q_push_some, q_push_none, b01_eq0, b01_eq1, decide_eq_false_iff_not, decide_eq_true_eq, ite_not, b01_t, b01_f, one_ne0, zero_eq0, Bool.true_eq_false, Bool.false_eq_true, ite_true, ite_false, and_self, and_true, true_and, not_true_eq_false, not_false_eq_true, Int.reduceLT, Int.reduceLE, Int.reduceEq, Bool.and_false]
          rfl
        · simp (disch := first | omega | exact b01_or _) only [b977_0, b977_7, b977_13, b977_22, m_in, t1, hz, Option.bind_some, q_push_some, q_push_none, b01_eq0, b01_eq1, decide_eq_false_iff_not, decide_eq_true_eq, ite_not, b01_t, b01_f, one_ne0, zero_eq0, Bool.true_eq_false, Bool.false_eq_true, ite_true, ite_false, and_self, and_true, true_and, not_true_eq_false, not_false_eq_true, Int.reduceLE]
  · refine Op.ro h hN (a := -1000000001) ?_ ?_
    · by_cases c1 : w < 0
      · simp (disch := first | omega | exact b01_or _) only [b847_0, b847_9, c1, if_true]
      · have c2 : ¬ w < 2 := by omega
        simp (disch := first | omega | exact b01_or _) only [b847_0, b847_4, b847_9, c1, c2, if_false]
    · simp (disch := first | omega | exact b01_or _) only [b977_0, b977_7, b977_10, m_in, hw, Option.bind_some, q_push_some, q_push_none, b01_eq0, b01_eq1, decide_eq_false_iff_not, decide_eq_true_eq, ite_not, b01_t, b01_f, one_ne0, zero_eq0, Bool.true_eq_false, Bool.false_eq_true, ite_true, ite_false, and_self, and_true, true_and, not_true_eq_false, not_false_eq_true]
end O8
