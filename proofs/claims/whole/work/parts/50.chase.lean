/-! ===== chase, fewest ===== -/
section O26
variable {σ : SS} {N : Int}
/-- the most turns from a pair of houses -/
def h_most (σ : SS) (V : Nat → Int) (a b : Nat) (v : Int) : Prop := 0 ≤ v ∧ (∀ s : Nat, (s : Int) < σ 50 13 → V (h_pl a b s) ≤ v) ∧ (v = 0 ∨ ∃ s : Nat, (s : Int) < σ 50 13 ∧ v = V (h_pl a b s))
theorem m_mostL {V : Nat → Int} {kk L a b : Int} (h : RR σ N) (ha : 0 ≤ a ∧ a < σ 50 13) (hb : 0 ≤ b ∧ b < σ 50 13) : ∀ (k : Nat) (x r : Int), 0 ≤ x → x + k = σ 50 13 → ∃ r', ev 952 37 [qR 50, qI kk, qI L, qI a, qI b, qI r, qI x] [] (hM σ V) = ev 952 90 [qR 50, qI kk, qI L, qI a, qI b, qI r', qI (σ 50 13)] [] (hM σ V) ∧ r ≤ r' ∧ (∀ s : Nat, x ≤ s → (s : Int) < σ 50 13 → V (h_pl a.toNat b.toNat s) ≤ r') ∧ (r' = r ∨ ∃ s : Nat, (s : Int) < σ 50 13 ∧ r' = V (h_pl a.toNat b.toNat s))
  | 0, x, r, h0, hk => by
    have e8 : hM σ V 50 13 = σ 50 13 := by rw [hM_ne (by decide)]
    have e : x = σ 50 13 := by omega
    refine ⟨r, ?_, by omega, fun s h1 h2 => by omega, Or.inl rfl⟩
    rw [b952_37, e8, if_neg (by omega), e]
  | k + 1, x, r, h0, hk => by
    have ht := h.t
    have e8 : hM σ V 50 13 = σ 50 13 := by rw [hM_ne (by decide)]
    have e64 : hM σ V 64 = V := rfl
    have epl : ((a * 6 + b) * 6 + x).toNat = h_pl a.toNat b.toNat x.toNat := by unfold h_pl; omega
    rw [b952_37, e8, if_pos (by omega), b952_46, b948_0 (by omega), Option.bind_some, q_push_some]
    dsimp only
    rw [b952_58 (by omega), e64, epl]
    by_cases hlt : r < V (h_pl a.toNat b.toNat x.toNat)
    · rw [if_pos hlt, b952_64, b948_0 (by omega), Option.bind_some, q_push_some]
      dsimp only
      rw [b952_76 (by omega), e64, epl, b952_82 (by omega)]
      obtain ⟨r', r1, r2, r3, r4⟩ := m_mostL h ha hb k (x + 1) (V (h_pl a.toNat b.toNat x.toNat)) (by omega) (by omega)
      refine ⟨r', r1, by clear r3 r4; omega, fun s h1 h2 => ?_, ?_⟩
      · by_cases e : s = x.toNat
        · subst e; exact r2
        · exact r3 s (by omega) h2
      · rcases r4 with z | z
        · exact Or.inr ⟨x.toNat, by omega, z⟩
        · exact Or.inr z
    · rw [if_neg hlt, b952_80, b952_82 (by omega)]
      obtain ⟨r', r1, r2, r3, r4⟩ := m_mostL h ha hb k (x + 1) r (by omega) (by omega)
      refine ⟨r', r1, r2, fun s h1 h2 => ?_, r4⟩
      by_cases e : s = x.toNat
      · subst e; clear r3 r4; omega
      · exact r3 s (by omega) h2
theorem m_leastB {V : Nat → Int} {tg : Bool} {kk a : Int} (h : RR σ N) (hk1 : (kk = 1 ∧ tg = true) ∨ (kk = 2 ∧ tg = false)) (ha : 0 ≤ a ∧ a < σ 50 13) : ∀ (k : Nat) (x L : Int) (v5 v6 : AV), 0 ≤ x → x + k = σ 50 13 → ∃ L' w5 w6, ev 952 22 [qR 50, qI kk, qI L, qI a, qI x, v5, v6] [] (hM σ V) = ev 952 120 [qR 50, qI kk, qI L', qI a, qI (σ 50 13), w5, w6] [] (hM σ V) ∧ L' ≤ L ∧ (∀ b : Nat, x ≤ b → (b : Int) < σ 50 13 → (tg = true → b = a.toNat) → ∃ v, h_most σ V a.toNat b v ∧ L' ≤ v) ∧ (L' = L ∨ ∃ b : Nat, (b : Int) < σ 50 13 ∧ (tg = true → b = a.toNat) ∧ h_most σ V a.toNat b L')
  | 0, x, L, v5, v6, h0, hk => by
    have e8 : hM σ V 50 13 = σ 50 13 := by rw [hM_ne (by decide)]
    have e : x = σ 50 13 := by omega
    refine ⟨L, v5, v6, ?_, by omega, fun b h1 h2 => by omega, Or.inl rfl⟩
    rw [b952_22, e8, if_neg (by omega), e]
  | k + 1, x, L, v5, v6, h0, hk => by
    have ht := h.t
    have e8 : hM σ V 50 13 = σ 50 13 := by rw [hM_ne (by decide)]
    obtain ⟨r, r1, r2, r3, r4⟩ := m_mostL (V := V) (kk := kk) (L := L) (b := x) h ha (by omega) (σ 50 13).toNat 0 0 (by omega) (by omega)
    have hmost : h_most σ V a.toNat x.toNat r := ⟨r2, fun s hs => r3 s (by omega) hs, r4⟩
    clear r3 r4
    rw [b952_22, e8, if_pos (by omega), b952_31, r1]
    by_cases hal : (tg = true → x.toNat = a.toNat)
    · have st : ev 952 90 [qR 50, qI kk, qI L, qI a, qI x, qI r, qI (σ 50 13)] [] (hM σ V) = ev 952 101 [qR 50, qI kk, qI L, qI a, qI x, qI r, qI (σ 50 13)] [] (hM σ V) := by
        rcases hk1 with ⟨k1, k2⟩ | ⟨k1, k2⟩
        · rw [b952_90, if_neg (by omega), b952_95, if_pos (by have := hal k2; omega)]
        · rw [b952_90, if_pos k1]
      rw [st, b952_101]
      by_cases hlt : r < L
      · rw [if_pos hlt, b952_107, b952_113 (by omega)]
        obtain ⟨L', w5, w6, p1, p2, p3, p4⟩ := m_leastB h hk1 ha k (x + 1) r (qI r) (qI (σ 50 13)) (by omega) (by omega)
        refine ⟨L', w5, w6, p1, by clear p3 p4; omega, fun b h1 h2 h3 => ?_, ?_⟩
        · by_cases e : b = x.toNat
          · subst e; exact ⟨r, hmost, p2⟩
          · exact p3 b (by omega) h2 h3
        · rcases p4 with z | z
          · exact Or.inr ⟨x.toNat, by omega, hal, by rw [z]; exact hmost⟩
          · exact Or.inr z
      · rw [if_neg hlt, b952_112, b952_113 (by omega)]
        obtain ⟨L', w5, w6, p1, p2, p3, p4⟩ := m_leastB h hk1 ha k (x + 1) L (qI r) (qI (σ 50 13)) (by omega) (by omega)
        refine ⟨L', w5, w6, p1, p2, fun b h1 h2 h3 => ?_, p4⟩
        by_cases e : b = x.toNat
        · subst e; exact ⟨r, hmost, by clear p3 p4; omega⟩
        · exact p3 b (by omega) h2 h3
    · have st : ev 952 90 [qR 50, qI kk, qI L, qI a, qI x, qI r, qI (σ 50 13)] [] (hM σ V) = ev 952 112 [qR 50, qI kk, qI L, qI a, qI x, qI r, qI (σ 50 13)] [] (hM σ V) := by
        rcases hk1 with ⟨k1, k2⟩ | ⟨k1, k2⟩
        · rw [b952_90, if_neg (by omega), b952_95, if_neg (fun z => hal (fun _ => by rw [z]))]
        · exact absurd (fun z => by rw [k2] at z; cases z) hal
      rw [st, b952_112, b952_113 (by omega)]
      obtain ⟨L', w5, w6, p1, p2, p3, p4⟩ := m_leastB h hk1 ha k (x + 1) L (qI r) (qI (σ 50 13)) (by omega) (by omega)
      refine ⟨L', w5, w6, p1, p2, fun b h1 h2 h3 => ?_, p4⟩
      by_cases e : b = x.toNat
      · subst e; exact absurd h3 hal
      · exact p3 b (by omega) h2 h3
theorem m_leastA {V : Nat → Int} {tg : Bool} {kk : Int} (h : RR σ N) (hk1 : (kk = 1 ∧ tg = true) ∨ (kk = 2 ∧ tg = false)) : ∀ (k : Nat) (x L : Int) (v4 v5 v6 : AV), 0 ≤ x → x + k = σ 50 13 → ∃ L' w3 w4 w5 w6, ev 952 11 [qR 50, qI kk, qI L, qI x, v4, v5, v6] [] (hM σ V) = ev 952 126 [qR 50, qI kk, qI L', qI w3, w4, w5, w6] [] (hM σ V) ∧ L' ≤ L ∧ (∀ a b : Nat, x ≤ a → (a : Int) < σ 50 13 → (b : Int) < σ 50 13 → (tg = true → b = a) → ∃ v, h_most σ V a b v ∧ L' ≤ v) ∧ (L' = L ∨ ∃ a b : Nat, (a : Int) < σ 50 13 ∧ (b : Int) < σ 50 13 ∧ (tg = true → b = a) ∧ h_most σ V a b L')
  | 0, x, L, v4, v5, v6, h0, hk => by
    have e8 : hM σ V 50 13 = σ 50 13 := by rw [hM_ne (by decide)]
    refine ⟨L, x, v4, v5, v6, ?_, by omega, fun a b h1 h2 => by omega, Or.inl rfl⟩
    rw [b952_11, e8, if_neg (by omega)]
  | k + 1, x, L, v4, v5, v6, h0, hk => by
    have ht := h.t
    have e8 : hM σ V 50 13 = σ 50 13 := by rw [hM_ne (by decide)]
    have hx1 : x < σ 50 13 := by omega
    have hx2 : -2147483648 ≤ x + 1 ∧ x + 1 ≤ 2147483647 := by omega
    obtain ⟨L1, w5, w6, p1, p2, p3, p4⟩ := m_leastB (V := V) (a := x) h hk1 (by omega) (σ 50 13).toNat 0 L v5 v6 (by omega) (by omega)
    obtain ⟨L', u3, u4, u5, u6, q1, q2, q3, q4⟩ := m_leastA h hk1 k (x + 1) L1 (qI (σ 50 13)) w5 w6 (by omega) (by omega)
    have hle : L' ≤ L := Int.le_trans q2 p2
    refine ⟨L', u3, u4, u5, u6, ?_, hle, fun a b h1 h2 h3 h4 => ?_, ?_⟩
    · rw [b952_11, e8, if_pos hx1, b952_19, p1, b952_120 hx2]
      exact q1
    · by_cases e : a = x.toNat
      · subst e
        obtain ⟨v, v1, v2⟩ := p3 b (by omega) h3 h4
        exact ⟨v, v1, Int.le_trans q2 v2⟩
      · exact q3 a b (by omega) h2 h3 h4
    · rcases q4 with z | z
      · rcases p4 with y | ⟨b, y1, y2, y3⟩
        · exact Or.inl (by rw [z, y])
        · exact Or.inr ⟨x.toNat, b, by omega, y1, y2, by rw [z]; exact y3⟩
      · exact Or.inr z
/-- the model's fewest turns -/
theorem m_turns {V : Nat → Int} {tg : Bool} {kk : Int} (h : RR σ N) (hk1 : (kk = 1 ∧ tg = true) ∨ (kk = 2 ∧ tg = false)) : ∃ r V', ev 952 0 [qR 50, qI kk, qU, qU, qU, qU, qU] [] (hM σ V) = some (some (qI r), hM σ V') ∧ h_ans σ tg r := by
  have ht := h.t
  obtain ⟨V1, e1, e2, e3⟩ := m_find (V := V) h hk1
  obtain ⟨L, w3, w4, w5, w6, p1, p2, p3, p4⟩ := m_leastA (V := V1) h hk1 (σ 50 13).toNat 0 99999999 qU qU qU (by omega) (by omega)
  have up : ∀ u, h_full σ tg u → L ≤ u := by
    rintro u ⟨a, b, ha, hb, hal, hs⟩
    obtain ⟨v, ⟨v0, v1, v2⟩, v3⟩ := p3 a b (by omega) (by omega) (by omega) hal
    have : v ≤ u := by
      rcases v2 with z | ⟨s, s1, s2⟩
      · omega
      · have := h_V_W e2 e3 ha hb (show s < (σ 50 13).toNat by omega) hal (hs s (by omega))
        omega
    omega
  rw [b952_0, e1, Option.bind_some, q_push_none]
  dsimp only
  rw [b952_5, p1]
  by_cases hL : L < 99999999
  · refine ⟨L, V1, by rw [b952_126, if_pos hL, b952_137, b952_138], ?_⟩
    obtain ⟨a, b, a1, a2, a3, a4⟩ : ∃ a b : Nat, (a : Int) < σ 50 13 ∧ (b : Int) < σ 50 13 ∧ (tg = true → b = a) ∧ h_most σ V1 a b L := by
      rcases p4 with z | z
      · exfalso; omega
      · exact z
    have hfull : h_full σ tg L.toNat := by
      refine ⟨a, b, by omega, by omega, a3, fun s hs => ?_⟩
      have h1 := a4.2.1 s (by omega)
      have h2 := e2.1 (h_pl a b s) (by unfold h_pl; omega)
      rcases (e2.2 a b s (by omega) (by omega) hs a3).2 with z | z
      · omega
      · exact h_W_le' z (by omega)
    have hL0 := a4.1
    obtain ⟨v, v1, v2, v3⟩ := h_full_216 h hfull
    have h3 := up v v3
    refine Or.inr ⟨L.toNat, by omega, by omega, hfull, fun u hu hf => ?_⟩
    have := up u hf
    omega
  · refine ⟨-1, V1, by rw [b952_126, if_neg hL, b952_133, b952_138], Or.inl ⟨rfl, fun u hu => ?_⟩⟩
    obtain ⟨v, v1, v2, v3⟩ := h_full_216 h hu
    have := up v v3
    omega
theorem RR.hunts (h : RR σ N) (hN : N + 999 ≤ 100000) {f m V : Nat → Int} : RR (mix (hC σ f m) (hM σ V)) (N + 999) := h.cg2 (by omega) hN (fun k hk => hC_ne (by constructor <;> (rintro rfl; revert hk; decide))) (fun k hk => hM_ne (by rintro rfl; revert hk; decide))
theorem op_chase {n : Int} (h : RR σ N) (hN : N + 999 ≤ 100000) : Op 822 953 [qR 0, qI n] [qR 50, qI n] σ N := by
  have ht := h.t
  by_cases hn : 1 ≤ n ∧ n ≤ 2
  · by_cases h0 : σ 50 13 = 0
    · refine Op.ro h hN (a := -1000000003) ?_ ?_
      · rw [b822_0, if_neg (by omega), b822_5, if_neg (by omega), b822_13, if_pos (by omega), b822_23]
      · rw [b953_0, m_in, Option.bind_some, q_push_some]
        dsimp only
        rw [decide_eq_true hn, b953_9, if_neg (by decide), b953_15, if_pos h0, b953_22, b953_32]
    · have go : ∀ tg : Bool, ((n = 1 ∧ tg = true) ∨ (n = 2 ∧ tg = false)) → Op 822 953 [qR 0, qI n] [qR 50, qI n] σ N := by
        intro tg hk1
        obtain ⟨r, f, m, c1, c2⟩ := c_turns (f := σ 45) (m := σ 46) (tg := tg) h
        obtain ⟨r2, V, d1, d2⟩ := m_turns (V := σ 64) h hk1
        rw [hC_id] at c1
        rw [hM_id] at d1
        have e := h_ans_un c2 d2
        subst e
        refine ⟨r, hC σ f m, hM σ V, ?_, ?_, h.hunts hN⟩
        · rw [b822_0, if_neg (by omega), b822_5, if_neg (by omega), b822_13, if_neg (by omega), b822_26]
          rcases hk1 with ⟨k1, k2⟩ | ⟨k1, k2⟩
          · rw [k2, b01_t] at c1
            rw [if_pos k1, b822_35, b822_40, c1, Option.bind_some, q_push_some]
            dsimp only
            rw [b822_43]
          · rw [k2, b01_f] at c1
            rw [if_neg (by omega), b822_39, b822_40, c1, Option.bind_some, q_push_some]
            dsimp only
            rw [b822_43]
        · rw [b953_0, m_in, Option.bind_some, q_push_some]
          dsimp only
          rw [decide_eq_true hn, b953_9, if_neg (by decide), b953_15, if_neg h0, b953_27, d1, Option.bind_some, q_push_some]
          dsimp only
          rw [b953_32]
      by_cases h1 : n = 1
      · exact go true (Or.inl ⟨h1, rfl⟩)
      · exact go false (Or.inr ⟨by omega, rfl⟩)
  · refine Op.ro h hN (a := -1000000002) ?_ ?_
    · by_cases h1 : n < 1
      · rw [b822_0, if_pos h1, b822_10]
      · rw [b822_0, if_neg h1, b822_5, if_pos (by omega), b822_10]
    · rw [b953_0, m_in, Option.bind_some, q_push_some]
      dsimp only
      rw [decide_eq_false hn, b953_9, if_pos b01_f, b953_12]
theorem h_ans_neg {tg : Bool} {r : Int} (h : h_ans σ tg r) : r = -1 ∨ 0 ≤ r := by
  rcases h with ⟨z, -⟩ | ⟨t, z, -⟩
  · exact Or.inl z
  · exact Or.inr (by omega)
theorem op_fewest (h : RR σ N) (hN : N + 999 ≤ 100000) : Op 823 954 [qR 0] [qR 50] σ N := by
  have ht := h.t
  by_cases h0 : σ 50 13 = 0
  · refine Op.ro h hN (a := -1) ?_ ?_
    · rw [b823_0, if_pos (by omega), b823_10]
    · rw [b954_0, if_pos h0, b954_7]
  · obtain ⟨r, f, m, c1, c2⟩ := c_turns (f := σ 45) (m := σ 46) (tg := true) h
    obtain ⟨r2, V, d1, d2⟩ := m_turns (V := σ 64) (kk := 1) (tg := true) h (Or.inl ⟨rfl, rfl⟩)
    rw [hC_id, b01_t] at c1
    rw [hM_id] at d1
    have e := h_ans_un c2 d2
    subst e
    have hr := h_ans_neg c2
    by_cases h1 : r = -1
    · obtain ⟨s, f', m', p1, p2⟩ := c_turns (f := f) (m := m) (tg := false) h
      obtain ⟨s2, V', q1, q2⟩ := m_turns (V := V) (kk := 2) (tg := false) h (Or.inr ⟨rfl, rfl⟩)
      rw [b01_f] at p1
      have e := h_ans_un p2 q2
      subst e
      have hs := h_ans_neg p2
      by_cases h2 : s = -1
      · refine ⟨-1, hC σ f' m', hM σ V', ?_, ?_, h.hunts hN⟩
        · rw [b823_0, if_neg (by omega), b823_12, c1, Option.bind_some, q_push_some]
          dsimp only
          rw [b823_20, if_pos h1, b823_26, p1, Option.bind_some, q_push_some]
          dsimp only
          rw [b823_34, if_pos h2, b823_42, b823_43]
        · rw [b954_0, if_neg h0, b954_9, d1, Option.bind_some, q_push_some]
          dsimp only
          rw [b954_14, if_pos (by omega), b954_21, q1, Option.bind_some, q_push_some]
          dsimp only
          rw [b954_26, if_pos (by omega), b954_33, b954_34]
      · refine ⟨2, hC σ f' m', hM σ V', ?_, ?_, h.hunts hN⟩
        · rw [b823_0, if_neg (by omega), b823_12, c1, Option.bind_some, q_push_some]
          dsimp only
          rw [b823_20, if_pos h1, b823_26, p1, Option.bind_some, q_push_some]
          dsimp only
          rw [b823_34, if_neg h2, b823_38, b823_43]
        · rw [b954_0, if_neg h0, b954_9, d1, Option.bind_some, q_push_some]
          dsimp only
          rw [b954_14, if_pos (by omega), b954_21, q1, Option.bind_some, q_push_some]
          dsimp only
          rw [b954_26, if_neg (by omega), b954_29, b954_34]
    · refine ⟨1, hC σ f m, hM σ V, ?_, ?_, h.hunts hN⟩
      · rw [b823_0, if_neg (by omega), b823_12, c1, Option.bind_some, q_push_some]
        dsimp only
        rw [b823_20, if_neg h1, b823_24]
      · rw [b954_0, if_neg h0, b954_9, d1, Option.bind_some, q_push_some]
        dsimp only
        rw [b954_14, if_neg (by omega), b954_17, b954_34]
end O26
