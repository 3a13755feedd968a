/-! ===== chase: the model's row of turns ===== -/
section O24
variable {σ : SS} {N : Int}
def hM (σ : SS) (V : Nat → Int) : SS := fun k => if k = 64 then V else σ k
theorem hM_ne {V : Nat → Int} {k : Nat} (h : k ≠ 64) : hM σ V k = σ k := by
  unfold hM
  rw [if_neg h]
theorem hM_64 {V : Nat → Int} {i : Nat} {v : Int} : q_put (hM σ V) 64 i v = hM σ (updn V i v) := by
  funext k j
  unfold q_put hM updn
  by_cases h : k = 64
  · subst h
    simp
  · simp [h]
theorem hM_id : hM σ (σ 64) = σ := by
  funext k
  unfold hM
  split
  · subst k; rfl
  · rfl
theorem m_may {V : Nat → Int} {a x : Int} (h : RR σ N) (ha : 0 ≤ a ∧ a < σ 50 13) (hx : 0 ≤ x ∧ x < σ 50 13) : ev 947 0 [qR 50, qI a, qI x] [] (hM σ V) = some (some (qI (b01 (h_B σ a.toNat x.toNat))), hM σ V) := by
  have ht := h.t
  have hh := h.h ha.1 ha.2
  have e55 : hM σ V 55 = σ 55 := hM_ne (by decide)
  by_cases e : a = x
  · have hb : h_B σ a.toNat x.toNat = true := by
      unfold h_B
      rw [decide_eq_true (show x.toNat = a.toNat by rw [e]), Bool.true_or]
    rw [b947_0, if_pos e, b947_18, b947_23 (by omega), hb]
    rfl
  · have hb : h_B σ a.toNat x.toNat = (σ 55 a.toNat).toNat.testBit x.toNat := by
      unfold h_B g_A
      rw [decide_eq_false (show ¬ x.toNat = a.toNat by omega), Bool.false_or, decide_eq_true (show ((a.toNat : Nat) : Int) < σ 50 13 by omega), Bool.true_and]
    rw [b947_0, if_neg e, b947_5 (by omega), e55, m_has (by omega), Option.bind_some, q_push_some, ← hb]
    dsimp only
    cases h_B σ a.toNat x.toNat
    · rw [b947_15, if_pos b01_f, b947_22, b947_23 (by omega)]; rfl
    · rw [b947_15, if_neg (by decide), b947_18, b947_23 (by omega)]; rfl
def h_pl (a b s : Nat) : Nat := (a * 6 + b) * 6 + s
/-- no number there is beyond FAR -/
def h_rng (V : Nat → Int) : Prop := ∀ i, i < 216 → 0 ≤ V i ∧ V i ≤ 99999999
/-- the worst of where she may go -/
theorem m_worstL {V : Nat → Int} {a b s : Int} (h : RR σ N) (hV : h_rng V) (ha : 0 ≤ a ∧ a < σ 50 13) (hb : 0 ≤ b ∧ b < σ 50 13) (hs : 0 ≤ s ∧ s < σ 50 13) : ∀ (k : Nat) (x w : Int), 0 ≤ x → x + k = σ 50 13 → 0 ≤ w ∧ w ≤ 99999999 → ∃ r, ev 949 6 [qR 50, qI a, qI b, qI s, qI w, qI x] [] (hM σ V) = some (some (qI r), hM σ V) ∧ w ≤ r ∧ r ≤ 99999999 ∧ (∀ q : Nat, x ≤ q → (q : Int) < σ 50 13 → h_B σ s.toNat q = true → V (h_pl a.toNat b.toNat q) ≤ r) ∧ (r = w ∨ ∃ q : Nat, x ≤ q ∧ (q : Int) < σ 50 13 ∧ h_B σ s.toNat q = true ∧ r = V (h_pl a.toNat b.toNat q))
  | 0, x, w, h0, hk, hw => by
    have ht := h.t
    have e8 : hM σ V 50 13 = σ 50 13 := by rw [hM_ne (by decide)]
    refine ⟨w, ?_, by omega, by omega, fun q h1 h2 => by omega, Or.inl rfl⟩
    rw [b949_6, e8, if_neg (by omega), b949_67]
  | k + 1, x, w, h0, hk, hw => by
    have ht := h.t
    have e8 : hM σ V 50 13 = σ 50 13 := by rw [hM_ne (by decide)]
    have e64 : hM σ V 64 = V := rfl
    have epl : ((a * 6 + b) * 6 + x).toNat = h_pl a.toNat b.toNat x.toNat := by unfold h_pl; omega
    have hv := hV (h_pl a.toNat b.toNat x.toNat) (by unfold h_pl; omega)
    rw [b949_6, e8, if_pos (by omega), b949_15, m_may h hs (by omega), Option.bind_some, q_push_some]
    dsimp only
    rw [b949_22]
    cases hB : h_B σ s.toNat x.toNat
    · rw [if_pos b01_f, b949_57, b949_59 (by omega)]
      obtain ⟨r, r1, r2, r3, r4, r5⟩ := m_worstL h hV ha hb hs k (x + 1) w (by omega) (by omega) hw
      refine ⟨r, r1, r2, r3, fun q h1 h2 h3 => ?_, ?_⟩
      · by_cases hq : q = x.toNat
        · subst hq; rw [hB] at h3; cases h3
        · exact r4 q (by omega) h2 h3
      · rcases r5 with z | ⟨q, h1, h2, h3⟩
        · exact Or.inl z
        · exact Or.inr ⟨q, by omega, h2, h3⟩
    · rw [if_neg (by decide), b949_25, b948_0 (by omega), Option.bind_some, q_push_some]
      dsimp only
      rw [b949_36 (by omega), e64, epl]
      by_cases hlt : w < V (h_pl a.toNat b.toNat x.toNat)
      · rw [if_pos hlt, b949_42, b948_0 (by omega), Option.bind_some, q_push_some]
        dsimp only
        rw [b949_53 (by omega), e64, epl, b949_59 (by omega)]
        obtain ⟨r, r1, r2, r3, r4, r5⟩ := m_worstL h hV ha hb hs k (x + 1) (V (h_pl a.toNat b.toNat x.toNat)) (by omega) (by omega) (by omega)
        refine ⟨r, r1, by omega, r3, fun q h1 h2 h3 => ?_, ?_⟩
        · by_cases hq : q = x.toNat
          · subst hq; exact r2
          · exact r4 q (by omega) h2 h3
        · rcases r5 with z | ⟨q, h1, h2, h3⟩
          · exact Or.inr ⟨x.toNat, by omega, by omega, hB, z⟩
          · exact Or.inr ⟨q, by omega, h2, h3⟩
      · rw [if_neg hlt, b949_57, b949_59 (by omega)]
        obtain ⟨r, r1, r2, r3, r4, r5⟩ := m_worstL h hV ha hb hs k (x + 1) w (by omega) (by omega) hw
        refine ⟨r, r1, r2, r3, fun q h1 h2 h3 => ?_, ?_⟩
        · by_cases hq : q = x.toNat
          · subst hq; omega
          · exact r4 q (by omega) h2 h3
        · rcases r5 with z | ⟨q, h1, h2, h3⟩
          · exact Or.inl z
          · exact Or.inr ⟨q, by omega, h2, h3⟩
/-- the turns by way of a pair of houses -/
def h_val (σ : SS) (V : Nat → Int) (a b s : Nat) (v : Int) : Prop := ((s = a ∨ s = b) ∧ v = 1) ∨ (¬ (s = a ∨ s = b) ∧ 1 ≤ v ∧ v ≤ 100000000 ∧ (∀ q : Nat, (q : Int) < σ 50 13 → h_B σ s q = true → V (h_pl a b q) ≤ v - 1) ∧ (v = 1 ∨ ∃ q : Nat, (q : Int) < σ 50 13 ∧ h_B σ s q = true ∧ v - 1 = V (h_pl a b q)))
/-- may they go there -/
def h_mv (σ : SS) (tg : Bool) (a b a' b' : Nat) : Prop := h_B σ a a' = true ∧ (tg = true → b' = a') ∧ (tg = false → h_B σ b b' = true)
theorem m_val {V : Nat → Int} {kk a b s x y r v8 : Int} {v9 : AV} (h : RR σ N) (hV : h_rng V) (hs : 0 ≤ s ∧ s < σ 50 13) (hx : 0 ≤ x ∧ x < σ 50 13) (hy : 0 ≤ y ∧ y < σ 50 13) : ∃ v r' v9', ev 950 76 [qR 50, qI kk, qI a, qI b, qI s, qI r, qI x, qI y, qI v8, v9] [] (hM σ V) = ev 950 124 [qR 50, qI kk, qI a, qI b, qI s, qI r', qI x, qI y, qI v8, v9'] [] (hM σ V) ∧ h_val σ V x.toNat y.toNat s.toNat v ∧ ((r' = v ∧ v < r) ∨ (r' = r ∧ r ≤ v)) := by
  have ht := h.t
  have fin : ∀ v, ∃ r' v9', ev 950 106 [qR 50, qI kk, qI a, qI b, qI s, qI r, qI x, qI y, qI v8, v9] [qI v] (hM σ V) = ev 950 124 [qR 50, qI kk, qI a, qI b, qI s, qI r', qI x, qI y, qI v8, v9'] [] (hM σ V) ∧ ((r' = v ∧ v < r) ∨ (r' = r ∧ r ≤ v)) := by
    intro v
    by_cases hlt : v < r
    · exact ⟨v, qI v, by rw [b950_106, if_pos hlt, b950_115, b950_122], Or.inl ⟨rfl, hlt⟩⟩
    · exact ⟨r, qI v, by rw [b950_106, if_neg hlt, b950_120, b950_122], Or.inr ⟨rfl, by omega⟩⟩
  by_cases h1 : x = s
  · obtain ⟨r', v9', f1, f2⟩ := fin 1
    exact ⟨1, r', v9', by rw [b950_76, if_pos h1, b950_90]; exact f1, Or.inl ⟨Or.inl (by rw [h1]), rfl⟩, f2⟩
  · by_cases h2 : y = s
    · obtain ⟨r', v9', f1, f2⟩ := fin 1
      exact ⟨1, r', v9', by rw [b950_76, if_neg h1, b950_83, if_pos h2, b950_90]; exact f1, Or.inl ⟨Or.inr (by rw [h2]), rfl⟩, f2⟩
    · obtain ⟨w, w1, w2, w3, w4, w5⟩ := m_worstL (a := x) (b := y) (s := s) h hV hx hy hs (σ 50 13).toNat 0 0 (by omega) (by omega) (by omega)
      obtain ⟨r', v9', f1, f2⟩ := fin (1 + w)
      have nb : ¬ (s.toNat = x.toNat ∨ s.toNat = y.toNat) := by clear w5 w4; omega
      refine ⟨1 + w, r', v9', ?_, Or.inr ⟨nb, by clear w5; omega, by clear w5; omega, fun q q1 q2 => ?_, ?_⟩, f2⟩
      · rw [b950_76, if_neg h1, b950_83, if_neg h2, b950_94, b949_0, w1, Option.bind_some, q_push_some]
        dsimp only
        rw [b950_105 (by omega)]
        exact f1
      · have := w4 q (by omega) q1 q2
        omega
      · rcases w5 with z | ⟨q, q1, q2, q3, q4⟩
        · exact Or.inl (by omega)
        · exact Or.inr ⟨q, q2, q3, by omega⟩
theorem m_mv {V : Nat → Int} {tg : Bool} {kk a b s x y r : Int} {v8 v9 : AV} (h : RR σ N) (hk1 : (kk = 1 ∧ tg = true) ∨ (kk = 2 ∧ tg = false)) (ha : 0 ≤ a ∧ a < σ 50 13) (hb : 0 ≤ b ∧ b < σ 50 13) (hx : 0 ≤ x ∧ x < σ 50 13) (hy : 0 ≤ y ∧ y < σ 50 13) : (ev 950 29 [qR 50, qI kk, qI a, qI b, qI s, qI r, qI x, qI y, v8, v9] [] (hM σ V) = ev 950 76 [qR 50, qI kk, qI a, qI b, qI s, qI r, qI x, qI y, qI 1, v9] [] (hM σ V) ∧ h_mv σ tg a.toNat b.toNat x.toNat y.toNat) ∨ (ev 950 29 [qR 50, qI kk, qI a, qI b, qI s, qI r, qI x, qI y, v8, v9] [] (hM σ V) = ev 950 124 [qR 50, qI kk, qI a, qI b, qI s, qI r, qI x, qI y, qI 0, v9] [] (hM σ V) ∧ ¬ h_mv σ tg a.toNat b.toNat x.toNat y.toNat) := by
  have ht := h.t
  have no : ev 950 68 [qR 50, qI kk, qI a, qI b, qI s, qI r, qI x, qI y, v8, v9] [] (hM σ V) = ev 950 124 [qR 50, qI kk, qI a, qI b, qI s, qI r, qI x, qI y, qI 0, v9] [] (hM σ V) := by rw [b950_68, b950_69, if_pos rfl]
  have yes : ev 950 64 [qR 50, qI kk, qI a, qI b, qI s, qI r, qI x, qI y, v8, v9] [] (hM σ V) = ev 950 76 [qR 50, qI kk, qI a, qI b, qI s, qI r, qI x, qI y, qI 1, v9] [] (hM σ V) := by rw [b950_64, b950_69, if_neg (by decide)]
  rw [b950_29, m_may h ha hx, Option.bind_some, q_push_some]
  dsimp only
  rw [b950_36]
  cases hB : h_B σ a.toNat x.toNat
  · right
    rw [if_pos b01_f]
    exact ⟨no, fun z => by rw [z.1] at hB; cases hB⟩
  · rw [if_neg (by decide), b950_39]
    rcases hk1 with ⟨k1, k2⟩ | ⟨k1, k2⟩
    · rw [if_pos k1, b950_44]
      by_cases e : x = y
      · left
        rw [if_pos e, b950_51]
        exact ⟨yes, hB, fun _ => by rw [e], fun z => by rw [k2] at z; cases z⟩
      · right
        rw [if_neg e]
        exact ⟨no, fun z => e (by have := z.2.1 k2; omega)⟩
    · rw [if_neg (by omega), b950_54, m_may h hb hy, Option.bind_some, q_push_some]
      dsimp only
      rw [b950_61]
      cases hB2 : h_B σ b.toNat y.toNat
      · right
        rw [if_pos b01_f]
        exact ⟨no, fun z => by rw [z.2.2 k2] at hB2; cases hB2⟩
      · left
        rw [if_neg (by decide)]
        exact ⟨yes, hB, fun z => (by rw [k2] at z; cases z), fun _ => hB2⟩
theorem m_bestB {V : Nat → Int} {tg : Bool} {kk a b s x : Int} (h : RR σ N) (hV : h_rng V) (hk1 : (kk = 1 ∧ tg = true) ∨ (kk = 2 ∧ tg = false)) (ha : 0 ≤ a ∧ a < σ 50 13) (hb : 0 ≤ b ∧ b < σ 50 13) (hs : 0 ≤ s ∧ s < σ 50 13) (hx : 0 ≤ x ∧ x < σ 50 13) : ∀ (k : Nat) (y r : Int) (v8 v9 : AV), 0 ≤ y → y + k = σ 50 13 → ∃ r' w8 w9, ev 950 20 [qR 50, qI kk, qI a, qI b, qI s, qI r, qI x, qI y, v8, v9] [] (hM σ V) = ev 950 130 [qR 50, qI kk, qI a, qI b, qI s, qI r', qI x, qI (σ 50 13), w8, w9] [] (hM σ V) ∧ r' ≤ r ∧ (∀ y' : Nat, y ≤ y' → (y' : Int) < σ 50 13 → h_mv σ tg a.toNat b.toNat x.toNat y' → ∃ v, h_val σ V x.toNat y' s.toNat v ∧ r' ≤ v) ∧ (r' = r ∨ ∃ y' : Nat, (y' : Int) < σ 50 13 ∧ h_mv σ tg a.toNat b.toNat x.toNat y' ∧ h_val σ V x.toNat y' s.toNat r')
  | 0, y, r, v8, v9, h0, hk => by
    have ht := h.t
    have e8 : hM σ V 50 13 = σ 50 13 := by rw [hM_ne (by decide)]
    have e : y = σ 50 13 := by omega
    refine ⟨r, v8, v9, ?_, by omega, fun y' h1 h2 => by omega, Or.inl rfl⟩
    rw [b950_20, e8, if_neg (by omega), e]
  | k + 1, y, r, v8, v9, h0, hk => by
    have ht := h.t
    have e8 : hM σ V 50 13 = σ 50 13 := by rw [hM_ne (by decide)]
    rw [b950_20, e8, if_pos (by omega)]
    rcases m_mv (V := V) (s := s) (r := r) (v8 := v8) (v9 := v9) (y := y) h hk1 ha hb hx (by omega) with ⟨p1, p2⟩ | ⟨p1, p2⟩
    · obtain ⟨v, r1, w9, q1, q2, q3⟩ := m_val (kk := kk) (a := a) (b := b) (r := r) (v8 := 1) (v9 := v9) (y := y) h hV hs hx (by omega)
      rw [p1, q1, b950_124 (by omega)]
      obtain ⟨r', w8', w9', d1, d2, d3, d4⟩ := m_bestB h hV hk1 ha hb hs hx k (y + 1) r1 (qI 1) w9 (by omega) (by omega)
      refine ⟨r', w8', w9', d1, by omega, fun y' h1 h2 h3 => ?_, ?_⟩
      · by_cases hy : y' = y.toNat
        · subst hy; exact ⟨v, q2, by clear d4 d3; omega⟩
        · exact d3 y' (by omega) h2 h3
      · rcases d4 with z | z
        · rcases q3 with ⟨z1, z2⟩ | ⟨z1, z2⟩
          · right
            refine ⟨y.toNat, by omega, p2, ?_⟩
            rw [z, z1]; exact q2
          · left; omega
        · exact Or.inr z
    · rw [p1, b950_124 (by omega)]
      obtain ⟨r', w8', w9', d1, d2, d3, d4⟩ := m_bestB h hV hk1 ha hb hs hx k (y + 1) r (qI 0) v9 (by omega) (by omega)
      refine ⟨r', w8', w9', d1, by omega, fun y' h1 h2 h3 => ?_, d4⟩
      by_cases hy : y' = y.toNat
      · subst hy; exact absurd h3 p2
      · exact d3 y' (by omega) h2 h3
theorem m_bestA {V : Nat → Int} {tg : Bool} {kk a b s : Int} (h : RR σ N) (hV : h_rng V) (hk1 : (kk = 1 ∧ tg = true) ∨ (kk = 2 ∧ tg = false)) (ha : 0 ≤ a ∧ a < σ 50 13) (hb : 0 ≤ b ∧ b < σ 50 13) (hs : 0 ≤ s ∧ s < σ 50 13) : ∀ (k : Nat) (x r : Int) (v7 v8 v9 : AV), 0 ≤ x → x + k = σ 50 13 → ∃ r', ev 950 8 [qR 50, qI kk, qI a, qI b, qI s, qI r, qI x, v7, v8, v9] [] (hM σ V) = some (some (qI r'), hM σ V) ∧ r' ≤ r ∧ (∀ x' y' : Nat, x ≤ x' → (x' : Int) < σ 50 13 → (y' : Int) < σ 50 13 → h_mv σ tg a.toNat b.toNat x' y' → ∃ v, h_val σ V x' y' s.toNat v ∧ r' ≤ v) ∧ (r' = r ∨ ∃ x' y' : Nat, (x' : Int) < σ 50 13 ∧ (y' : Int) < σ 50 13 ∧ h_mv σ tg a.toNat b.toNat x' y' ∧ h_val σ V x' y' s.toNat r')
  | 0, x, r, v7, v8, v9, h0, hk => by
    have ht := h.t
    have e8 : hM σ V 50 13 = σ 50 13 := by rw [hM_ne (by decide)]
    refine ⟨r, ?_, by omega, fun x' y' h1 h2 => by omega, Or.inl rfl⟩
    rw [b950_8, e8, if_neg (by omega), b950_136]
  | k + 1, x, r, v7, v8, v9, h0, hk => by
    have ht := h.t
    have e8 : hM σ V 50 13 = σ 50 13 := by rw [hM_ne (by decide)]
    obtain ⟨r1, w8, w9, p1, p2, p3, p4⟩ := m_bestB (x := x) h hV hk1 ha hb hs (by omega) (σ 50 13).toNat 0 r v8 v9 (by omega) (by omega)
    obtain ⟨r', d1, d2, d3, d4⟩ := m_bestA h hV hk1 ha hb hs k (x + 1) r1 (qI (σ 50 13)) w8 w9 (by omega) (by omega)
    refine ⟨r', ?_, by omega, fun x' y' h1 h2 h3 h4 => ?_, ?_⟩
    · rw [b950_8, e8, if_pos (by omega), b950_17, p1, b950_130 (by omega)]
      exact d1
    · by_cases hx : x' = x.toNat
      · subst hx
        obtain ⟨v, v1, v2⟩ := p3 y' (by omega) h3 h4
        exact ⟨v, v1, by omega⟩
      · exact d3 x' y' (by omega) h2 h3 h4
    · rcases d4 with z | z
      · rcases p4 with y | ⟨y', y1, y2, y3⟩
        · left; omega
        · right
          refine ⟨x.toNat, y', by omega, y1, y2, ?_⟩
          rw [z]; exact y3
      · exact Or.inr z
/-- the best turn -/
theorem m_best {V : Nat → Int} {tg : Bool} {kk a b s : Int} (h : RR σ N) (hV : h_rng V) (hk1 : (kk = 1 ∧ tg = true) ∨ (kk = 2 ∧ tg = false)) (ha : 0 ≤ a ∧ a < σ 50 13) (hb : 0 ≤ b ∧ b < σ 50 13) (hs : 0 ≤ s ∧ s < σ 50 13) : ∃ r, ev 950 0 [qR 50, qI kk, qI a, qI b, qI s, qU, qU, qU, qU, qU] [] (hM σ V) = some (some (qI r), hM σ V) ∧ r ≤ 99999999 ∧ (∀ x' y' : Nat, (x' : Int) < σ 50 13 → (y' : Int) < σ 50 13 → h_mv σ tg a.toNat b.toNat x' y' → ∃ v, h_val σ V x' y' s.toNat v ∧ r ≤ v) ∧ (r = 99999999 ∨ ∃ x' y' : Nat, (x' : Int) < σ 50 13 ∧ (y' : Int) < σ 50 13 ∧ h_mv σ tg a.toNat b.toNat x' y' ∧ h_val σ V x' y' s.toNat r) := by
  have ht := h.t
  obtain ⟨r', d1, d2, d3, d4⟩ := m_bestA h hV hk1 ha hb hs (σ 50 13).toNat 0 99999999 qU qU qU (by omega) (by omega)
  exact ⟨r', by rw [b950_0]; exact d1, d2, fun x' y' h1 h2 h3 => d3 x' y' (by omega) h1 h2 h3, d4⟩
end O24
