/-! ===== list, put together ===== -/
section LO
variable {σ : SS} {N : Int}
theorem RR.lst {μ : SS} (h : RR σ N) (hN : N + 999 ≤ 100000) (h1 : μ 1 1 = 0) (h2 : μ 50 24 = 0) (h3 : μ 1 3 = μ 50 29) (fc : FC1 σ μ) (fm : FM1 σ μ) : RR μ (N + 999) := by
  have ht := h.t
  have hn := h.n
  obtain ⟨a1, a2, a3, a4, a5, a6, a7⟩ := h
  obtain ⟨f1, f2, f3, f4, f5⟩ := fm
  have c : ∀ k, k < 50 → k ≠ 1 → ¬ (3 ≤ k ∧ k ≤ 11) → μ k = σ k := fc
  have e50 : ∀ j, j ∈ [3, 13, 14, 15, 16] → μ 50 j = σ 50 j := fun j hj => f2 j (by revert hj; revert j; decide)
  refine ⟨?_, ?_, ?_, ?_, ?_, by omega, hN⟩
  · unfold R_T
    rw [c 12 (by decide) (by decide) (by decide), c 13 (by decide) (by decide) (by decide), c 14 (by decide) (by decide) (by decide), c 16 (by decide) (by decide) (by decide), c 17 (by decide) (by decide) (by decide), c 18 (by decide) (by decide) (by decide), c 19 (by decide) (by decide) (by decide), c 20 (by decide) (by decide) (by decide), e50 13 (by decide), e50 14 (by decide), e50 15 (by decide), e50 16 (by decide), e50 3 (by decide), f3 0 (by decide), f3 1 (by decide), f3 2 (by decide)]
    obtain ⟨t1, t2, t3, t4, t5⟩ := a1
    refine ⟨t1, t2, fun x hx => ?_, fun x q hx hb => ?_, fun g hg => ?_⟩
    · rw [f4 54 (by decide) x (by omega), f4 55 (by decide) x (by omega)]
      exact t3 x hx
    · rw [f4 55 (by decide) x (by omega)] at hb
      obtain ⟨w1, w2, w3⟩ := t4 x q hx hb
      rw [f4 55 (by decide) q (by omega)]
      exact ⟨w1, w2, w3⟩
    · obtain ⟨z1, z2, z3, z4, z5, z6, z7, z8, z9, z10, z11, z12, z13⟩ := t5 g hg
      rw [f4 57 (by decide) g (by omega), f4 58 (by decide) g (by omega), f4 59 (by decide) g (by omega), f4 61 (by decide) g (by omega)]
      refine ⟨z1, z2, z3, z4, z5, z6, z7, z8, z9, z10, z11, z12, fun i hi => ?_⟩
      rw [f5 (6 * g + i) (by omega)]
      exact z13 i hi
  · exact a2.cg (by omega) (by omega) (c 21 (by decide) (by decide) (by decide)) (c 22 (by decide) (by decide) (by decide)) (c 23 (by decide) (by decide) (by decide)) (c 24 (by decide) (by decide) (by decide)) (fun j _ _ => by rw [f1 51 (by decide)]) e50
  · refine a3.cg (by omega) (by omega) (fun k hk => ?_) (fun j _ => by rw [f1 51 (by decide)]) e50
    by_cases h52 : k = 52
    · subst h52; exact f1 52 (by decide)
    · exact c k (by revert h52; revert hk; revert k; decide) (by clear h52; revert hk; revert k; decide) (by clear h52; revert hk; revert k; decide)
  · refine a4.cg (fun k hk => ?_) (fun j hj => f2 j (by revert hj; revert j; decide))
    by_cases h50 : k < 50
    · exact c k h50 (by revert hk; revert k; decide) (by revert hk; revert k; decide)
    · exact f1 k (by revert h50; revert hk; revert k; decide)
  · unfold R_X
    rw [h1, h2]
    exact ⟨⟨rfl, h3, by decide, by decide⟩, fun i hi => by omega⟩
theorem c_copyT {τ : SS} : ∃ κ, ev 601 0 [qR 12, qR 3] [] τ = some (none, κ) ∧ (∀ k, ¬ (12 ≤ k ∧ k ≤ 20) → κ k = τ k) ∧ (κ 12 8 = τ 3 8 ∧ κ 12 9 = τ 3 9 ∧ κ 12 10 = τ 3 10 ∧ κ 12 11 = τ 3 11 ∧ κ 12 12 = τ 3 12 ∧ κ 12 13 = τ 3 13 ∧ κ 12 14 = τ 3 14 ∧ κ 12 15 = τ 3 15) ∧ (∀ j, j < 6 → κ 13 j = τ 4 j ∧ κ 14 j = τ 5 j ∧ κ 15 j = τ 6 j ∧ κ 16 j = τ 7 j ∧ κ 17 j = τ 8 j ∧ κ 18 j = τ 9 j ∧ κ 20 j = τ 11 j) ∧ (∀ j, j < 36 → κ 19 j = τ 10 j) := by
  refine ⟨_, b601_0, fun k hk => ?_, ?_, fun j hj => ?_, fun j hj => ?_⟩
  · simp (disch := omega) only [rw_ne, rc_ne]
  · simp (disch := decide) only [rw_ne, rw_sl, rw_eq, and_self]
  · simp (disch := first | decide | omega) only [rw_ne, rc_ne, rc_in, and_self]
  · simp (disch := first | decide | omega) only [rw_ne, rc_ne, rc_in]
theorem c_beginW : ∀ (k x : Nat) (τ : SS), x + k = 6 → ∃ τ', ev 300 2 [qR 21, qR 12, qI (x : Int)] [] τ = some (none, τ') ∧ (∀ c, c ∉ [21, 22, 23, 24] → τ' c = τ c) ∧ (∀ j, x ≤ j → j < 6 → τ' 22 j = τ 15 j ∧ τ' 23 j = 0 ∧ τ' 24 j = -1000) ∧ (∀ j, j < x → τ' 22 j = τ 22 j ∧ τ' 23 j = τ 23 j ∧ τ' 24 j = τ 24 j) ∧ (τ' 21 3 = 0 ∧ τ' 21 4 = 0 ∧ τ' 21 5 = 0 ∧ τ' 21 6 = 0 ∧ τ' 21 7 = 0 ∧ τ' 21 8 = τ 21 8)
  | 0, x, τ, hk => by
    refine ⟨_, by rw [b300_2, if_neg (by omega), b300_42], fun c hc => ?_, fun j h1 h2 => by omega, fun j hj => ?_, ?_⟩
    · simp only [List.mem_cons, List.not_mem_nil, or_false, not_or] at hc
      rw [put_ne hc.1, put_ne hc.1, put_ne hc.1, put_ne hc.1, put_ne hc.1]
    · simp (disch := decide) only [rw_ne, and_self]
    · simp (disch := decide) only [rw_sl, rw_eq, and_self]
  | k + 1, x, τ, hk => by
    obtain ⟨τ', q1, q2, q3, q4, q5⟩ := c_beginW k (x + 1) (q_put (q_put (q_put τ 22 x (τ 15 x)) 23 x 0) 24 x (-1000)) (by omega)
    refine ⟨τ', ?_, fun c hc => ?_, fun j h1 h2 => ?_, fun j hj => ?_, ?_⟩
    · rw [b300_2, if_pos (by omega), b300_8 (by omega), Int.toNat_natCast]
      exact q1
    · rw [q2 c hc]
      simp only [List.mem_cons, List.not_mem_nil, or_false, not_or] at hc
      rw [put_ne hc.2.2.2, put_ne hc.2.2.1, put_ne hc.2.1]
    · by_cases ej : j = x
      · subst ej
        obtain ⟨z1, z2, z3⟩ := q4 j (by omega)
        rw [z1, z2, z3]
        simp (disch := decide) only [rw_ne, rw_eq, and_self]
      · obtain ⟨z1, z2, z3⟩ := q3 j (by omega) h2
        rw [z1]
        refine ⟨?_, z2, z3⟩
        simp (disch := decide) only [rw_ne]
    · obtain ⟨z1, z2, z3⟩ := q4 j (by omega)
      rw [z1, z2, z3]
      simp (disch := first | decide | omega) only [rw_ne, rw_sl, and_self]
    · simp (disch := decide) only [rw_ne] at q5
      exact q5
theorem op_list (h : RR σ N) (hN : N + 999 ≤ 100000) : Op 801 919 [qR 0] [qR 50, qU] σ N := by
  have ht := h.t
  have hn := h.n
  have hb := h.b
  have hXX := h.2.2.2.2.1.2
  obtain ⟨n, hnn⟩ : ∃ n : Nat, σ 50 24 = (n : Int) := ⟨(σ 50 24).toNat, by omega⟩
  have hT : TT n (σ 62) := ⟨by omega, fun i hi => (hXX i (by omega)).2⟩
  have st1 : ev 801 0 [qR 0] [] σ = (ev 500 31 [qR 1, qR 3, qI ((0 : Nat) : Int)] [] (q_put (q_put (q_put (q_put (q_put (q_put (q_put (q_put (q_put (q_put (q_put (q_put (q_put σ 1 2 0) 1 3 (-1)) 1 4 0) 1 6 0) 1 7 0) 3 8 0) 3 9 0) 3 10 0) 3 11 30) 3 12 1) 3 13 0) 3 14 12) 3 15 0)).bind (fun x => ev 801 11 [qR 0] (q_push x.1 []) x.2) := by
    rw [b801_0, b500_0, b600_0, bN, b500_29]
    rfl
  have st2 : ev 919 0 [qR 50, qU] [] σ = ev 919 73 [qR 50, qU] [] (q_put (q_put (q_put (q_put (q_put (q_put (q_put (q_put (q_put (q_put (q_put (q_put (q_put σ 50 25 0) 50 28 0) 50 29 (-1)) 50 17 0) 50 18 0) 50 19 0) 50 20 0) 50 4 12) 50 21 0) 50 22 0) 53 3 30) 53 4 1) 53 5 0) := b919_0
  have fc : FC1 σ (q_put (q_put (q_put (q_put (q_put (q_put (q_put (q_put (q_put (q_put (q_put (q_put (q_put σ 1 2 0) 1 3 (-1)) 1 4 0) 1 6 0) 1 7 0) 3 8 0) 3 9 0) 3 10 0) 3 11 30) 3 12 1) 3 13 0) 3 14 12) 3 15 0) := by
    intro k k1 k2 k3
    simp (disch := omega) only [rw_ne]
  have fm : FM1 σ (q_put (q_put (q_put (q_put (q_put (q_put (q_put (q_put (q_put (q_put (q_put (q_put (q_put σ 50 25 0) 50 28 0) 50 29 (-1)) 50 17 0) 50 18 0) 50 19 0) 50 20 0) 50 4 12) 50 21 0) 50 22 0) 53 3 30) 53 4 1) 53 5 0) := by
    refine ⟨fun k hk => ?_, fun j hj => ?_, fun j hj => ?_, fun k hk j hj => ?_, fun j hj => ?_⟩
    · simp only [List.mem_cons, List.not_mem_nil, or_false] at hk
      simp (disch := omega) only [rw_ne]
    · simp only [List.mem_cons, List.not_mem_nil, or_false] at hj
      simp (disch := omega) only [rw_ne, rw_sl]
    · simp (disch := omega) only [rw_ne, rw_sl]
    · simp only [List.mem_cons, List.not_mem_nil, or_false] at hk
      simp (disch := omega) only [rw_ne]
    · simp (disch := omega) only [rw_ne]
  have hLD : LD (mix (q_put (q_put (q_put (q_put (q_put (q_put (q_put (q_put (q_put (q_put (q_put (q_put (q_put σ 1 2 0) 1 3 (-1)) 1 4 0) 1 6 0) 1 7 0) 3 8 0) 3 9 0) 3 10 0) 3 11 30) 3 12 1) 3 13 0) 3 14 12) 3 15 0) (q_put (q_put (q_put (q_put (q_put (q_put (q_put (q_put (q_put (q_put (q_put (q_put (q_put σ 50 25 0) 50 28 0) 50 29 (-1)) 50 17 0) 50 18 0) 50 19 0) 50 20 0) 50 4 12) 50 21 0) 50 22 0) 53 3 30) 53 4 1) 53 5 0)) n (σ 62) 0 := by
    refine ⟨⟨hT, ?_, ?_, ?_, ?_, ?_, ?_⟩, ?_⟩
    · unfold TX
      simp (disch := decide) only [mix_c, mix_m, rC_ne, rC_1, rC_2, rC_3, rC_4, rC_5, rC_6, rC_7, rM_ne, rM_o, rM_25, rM_26, rM_27, rM_28, rM_29, rw_ne, rw_sl, rw_eq, true_and, and_true]
      exact ⟨by omega, fun i hi => (hXX i (by omega)).1⟩
    · unfold TY
      simp (disch := decide) only [mix_c, mix_m, rC_ne, rC_1, rC_2, rC_3, rC_4, rC_5, rC_6, rC_7, rM_ne, rM_o, rM_25, rM_26, rM_27, rM_28, rM_29, rw_ne, rw_sl, rw_eq, true_and, and_true]
      exact ⟨hnn, fun i hi => trivial⟩
    · unfold D_S
      simp (disch := decide) only [mix_c, mix_m, rC_ne, rC_1, rC_2, rC_3, rC_4, rC_5, rC_6, rC_7, rM_ne, rM_o, rM_25, rM_26, rM_27, rM_28, rM_29, rw_ne, rw_sl, rw_eq, true_and, and_true]
      decide
    · unfold D_H
      simp (disch := decide) only [mix_c, mix_m, rC_ne, rC_1, rC_2, rC_3, rC_4, rC_5, rC_6, rC_7, rM_ne, rM_o, rM_25, rM_26, rM_27, rM_28, rM_29, rw_ne, rw_sl, rw_eq, true_and, and_true]
      intro x hx
      omega
    · unfold D_W
      simp (disch := decide) only [mix_c, mix_m, rC_ne, rC_1, rC_2, rC_3, rC_4, rC_5, rC_6, rC_7, rM_ne, rM_o, rM_25, rM_26, rM_27, rM_28, rM_29, rw_ne, rw_sl, rw_eq, true_and, and_true]
      intro x q hx
      omega
    · unfold D_G
      simp (disch := decide) only [mix_c, mix_m, rC_ne, rC_1, rC_2, rC_3, rC_4, rC_5, rC_6, rC_7, rM_ne, rM_o, rM_25, rM_26, rM_27, rM_28, rM_29, rw_ne, rw_sl, rw_eq, true_and, and_true]
      intro g hg
      omega
    · simp (disch := decide) only [mix_c, mix_m, rC_ne, rC_1, rC_2, rC_3, rC_4, rC_5, rC_6, rC_7, rM_ne, rM_o, rM_25, rM_26, rM_27, rM_28, rM_29, rw_ne, rw_sl, rw_eq, true_and, and_true]
      omega
  obtain ⟨r, s, τ1, τ2, i1, i2, i3⟩ := l_loop (n + 1) _ 0 0 (by omega) hLD (by omega)
  obtain ⟨υ1, υ2, g1, g2, g3⟩ := sim_glue (by simp [okR, P_c]) (by simp) (by simp [okR, P_m]) (by simp) i1 i2
  rw [← g3] at i3
  have hE := END.trans fc fm i3
  clear i1 i2 i3 hLD fc fm
  rw [g1, bS] at st1
  rw [g2] at st2
  clear g1 g2 g3
  obtain ⟨e1, e2, e3, e4, e5⟩ := hE
  rcases e5 with ⟨z1, z2, z3, z4, z5⟩ | ⟨z1, z2, z3⟩
  · have m12 : mix υ1 υ2 1 2 = υ1 1 2 := by rw [mix_c (by decide)]
    rw [m12] at z2 z3 z4
    refine ⟨-10 - υ1 1 2, υ1, υ2, ?_, ?_, h.lst hN e1 e2 e3 e4 z5⟩
    · rw [st1, z1, b801_11, if_pos rfl, b801_14 (by omega)]
    · rw [st2, z2]
  · obtain ⟨κ, k1, k2, k3, k4, k5⟩ := c_copyT (τ := υ1)
    obtain ⟨ω, w1, w2, w3, -, w5⟩ := c_beginW 6 0 κ (by decide)
    have w1' : ev 300 2 [qR 21, qR 12, qI 0] [] κ = some (none, ω) := w1
    unfold TO at z3
    have fcc : ∀ k, k < 50 → k ≠ 1 → ¬ (3 ≤ k ∧ k ≤ 11) → υ1 k = σ k := by
      intro k a b c
      have := e4 k a b c
      rw [mix_c a] at this
      exact this
    simp (disch := decide) only [mix_c, mix_m] at z2 z3 e1 e2 e3
    obtain ⟨y1, y2, y3, y4, y5, y6, y7, y8⟩ := z3
    have e12 : ω 12 = κ 12 := w2 12 (by decide)
    refine ⟨υ2 50 14, q_put (q_put (q_put (q_put ω 35 2 0) 35 4 0) 35 8 0) 0 5 0, υ2, ?_, ?_, ?_⟩
    · rw [st1, z1, b801_11, if_neg (by decide), b801_25, k1, bN, b801_36, b300_0, w1', bN, b801_47, b400_0, bN, b801_54]
      apply congrArg some
      apply congrArg (fun v => (some (qI v), q_put (q_put (q_put (q_put ω 35 2 0) 35 4 0) 35 8 0) 0 5 0))
      simp (disch := decide) only [mix_c, mix_m, rC_ne, rC_1, rC_2, rC_3, rC_4, rC_5, rC_6, rC_7, rM_ne, rM_o, rM_25, rM_26, rM_27, rM_28, rM_29, rw_ne, rw_sl, rw_eq, true_and, and_true]
      rw [e12, k3.2.2.1]
      omega
    · rw [st2, z2]
    · refine ⟨?_, ?_, ?_, ?_, ?_, by omega, hN⟩
      · unfold R_T
        simp (disch := decide) only [mix_c, mix_m, rC_ne, rC_1, rC_2, rC_3, rC_4, rC_5, rC_6, rC_7, rM_ne, rM_o, rM_25, rM_26, rM_27, rM_28, rM_29, rw_ne, rw_sl, rw_eq, true_and, and_true]
        rw [e12, w2 13 (by decide), w2 14 (by decide), w2 16 (by decide), w2 17 (by decide), w2 18 (by decide), w2 19 (by decide), w2 20 (by decide), k3.1, k3.2.1, k3.2.2.1, k3.2.2.2.1, k3.2.2.2.2.1, k3.2.2.2.2.2.1, k3.2.2.2.2.2.2.1, k3.2.2.2.2.2.2.2]
        refine ⟨y1, y2, fun x hx => ?_, y4, fun g hg => ?_⟩
        · rw [(k4 x (by omega)).1, (k4 x (by omega)).2.1]
          exact y3 x hx
        · obtain ⟨-, -, -, p4, p5, p6, p7⟩ := k4 g (by omega)
          rw [p4, p5, p6, p7]
          obtain ⟨x1, x2, x3, x4, x5, x6, x7, x8, x9, x10, x11, x12, x13⟩ := y5 g hg
          refine ⟨x1, x2, x3, x4, x5, x6, x7, x8, x9, x10, x11, x12, fun i hi => ?_⟩
          rw [k5 (6 * g + i) (by omega)]
          exact x13 i hi
      · refine RN_mk ?_ ?_
        · simp (disch := decide) only [mix_c, mix_m, rC_ne, rC_1, rC_2, rC_3, rC_4, rC_5, rC_6, rC_7, rM_ne, rM_o, rM_25, rM_26, rM_27, rM_28, rM_29, rw_ne, rw_sl, rw_eq, true_and, and_true]
          have q8 : ω 21 8 = σ 21 8 := by rw [w5.2.2.2.2.2, k2 21 (by decide), fcc 21 (by decide) (by decide) (by decide)]
          rw [q8]
          omega
        · simp (disch := decide) only [mix_c, mix_m, rC_ne, rC_1, rC_2, rC_3, rC_4, rC_5, rC_6, rC_7, rM_ne, rM_o, rM_25, rM_26, rM_27, rM_28, rM_29, rw_ne, rw_sl, rw_eq, true_and, and_true]
          intro g hg
          obtain ⟨p1, p2, p3, p4, p5⟩ := y6 g hg
          obtain ⟨o1, o2, o3⟩ := w3 g (by omega) (by omega)
          rw [o1, o2, o3, (k4 g (by omega)).2.2.1]
          exact ⟨p1, p2, p3, by omega, by omega, by omega, Or.inr ⟨rfl, p5⟩⟩
      · unfold R_K
        simp (disch := decide) only [mix_c, mix_m, rC_ne, rC_1, rC_2, rC_3, rC_4, rC_5, rC_6, rC_7, rM_ne, rM_o, rM_25, rM_26, rM_27, rM_28, rM_29, rw_ne, rw_sl, rw_eq, true_and, and_true]
        refine ⟨Or.inl trivial, Or.inl y8.2.2.2.1, Or.inl y8.2.2.2.2, by omega, fun z => by omega, fun z => by omega⟩
      · unfold R_B
        simp (disch := decide) only [mix_c, mix_m, rC_ne, rC_1, rC_2, rC_3, rC_4, rC_5, rC_6, rC_7, rM_ne, rM_o, rM_25, rM_26, rM_27, rM_28, rM_29, rw_ne, rw_sl, rw_eq, true_and, and_true]
        refine ⟨by omega, fun i hi => by omega, fun i hi => by omega, fun i hi => by omega⟩
      · unfold R_X
        simp (disch := decide) only [mix_c, mix_m, rC_ne, rC_1, rC_2, rC_3, rC_4, rC_5, rC_6, rC_7, rM_ne, rM_o, rM_25, rM_26, rM_27, rM_28, rM_29, rw_ne, rw_sl, rw_eq, true_and, and_true]
        rw [w2 1 (by decide), k2 1 (by decide), w2 2 (by decide), k2 2 (by decide)]
        exact ⟨by omega, fun i hi => by omega⟩
end LO
