/-! ===== chase: the class's loop of turns ===== -/
section O23
variable {σ : SS} {N : Int}
theorem c_theirA {m : Nat → Int} {t : Nat} {tg : Bool} (h : RR σ N) (hm : h_row σ (h_M (σ 50 13).toNat (h_B σ) (h_X (σ 50 13).toNat (h_B σ) tg t)) m) : ∀ (k : Nat) (x : Int) (f : Nat → Int) (c : Bool) (v4 v5 v6 : AV), 0 ≤ x → x + k = σ 50 13 → (∀ a' b' : Nat, x ≤ a' → (a' : Int) < σ 50 13 → (b' : Int) < σ 50 13 → f (a' * 6 + b') = (h_r σ tg t a' b' : Int)) → ∃ f' c', ev 105 4 [qR 44, qI (b01 tg), qI (b01 c), qI x, v4, v5, v6] [] (hC σ f m) = some (some (qI (b01 c')), hC σ f' m) ∧ (∀ i : Nat, (i : Int) < x * 6 → f' i = f i) ∧ (∀ a' b' : Nat, x ≤ a' → (a' : Int) < σ 50 13 → (b' : Int) < σ 50 13 → f' (a' * 6 + b') = (h_r σ tg (t + 1) a' b' : Int)) ∧ (c' = true ↔ c = true ∨ ∃ a' b' : Nat, x ≤ a' ∧ (a' : Int) < σ 50 13 ∧ (b' : Int) < σ 50 13 ∧ h_r σ tg (t + 1) a' b' ≠ h_r σ tg t a' b')
  | 0, x, f, c, v4, v5, v6, h0, hk, hf => by
    have ht := h.t
    have e8 : hC σ f m 12 8 = σ 50 13 := by rw [hC_ne (by decide)]; omega
    refine ⟨f, c, ?_, fun i _ => rfl, fun a' b' h1 h2 => by omega, ?_⟩
    · rw [b105_4, e8, if_neg (by omega), b105_113 (b01_or _)]
    · constructor
      · exact Or.inl
      · rintro (z | ⟨a', b', h1, h2, -⟩)
        · exact z
        · omega
  | k + 1, x, f, c, v4, v5, v6, h0, hk, hf => by
    have ht := h.t
    have e8 : hC σ f m 12 8 = σ 50 13 := by rw [hC_ne (by decide)]; omega
    obtain ⟨f1, c1, w5, w6, p1, p2, p3, p4⟩ := c_theirB (a := x) h hm (by omega) (σ 50 13).toNat 0 f c v5 v6 (by omega) (by omega) (fun b' h1 h2 => hf x.toNat b' (by omega) (by omega) h2)
    obtain ⟨f', c', q1, q2, q3, q4⟩ := c_theirA h hm k (x + 1) f1 c1 (qI (σ 50 13)) w5 w6 (by omega) (by omega) (fun a' b' h1 h2 h3 => by rw [p2 _ (fun b2 h4 h5 => by omega)]; exact hf a' b' (by omega) h2 h3)
    refine ⟨f', c', ?_, fun i hi => ?_, fun a' b' h1 h2 h3 => ?_, ?_⟩
    · rw [b105_4, e8, if_pos (by omega), b105_15, p1, b105_107 (by omega)]
      exact q1
    · rw [q2 i (by omega), p2 i (fun b' h1 h2 => by omega)]
    · by_cases ha : a' = x.toNat
      · subst ha
        rw [q2 _ (by omega)]
        exact p3 b' (by omega) h3
      · exact q3 a' b' (by omega) h2 h3
    · rw [q4, p4]
      constructor
      · rintro ((z | ⟨b', h1, h2, h3⟩) | ⟨a', b', h1, h2, h3, h4⟩)
        · exact Or.inl z
        · exact Or.inr ⟨x.toNat, b', by omega, by omega, h2, h3⟩
        · exact Or.inr ⟨a', b', by omega, h2, h3, h4⟩
      · rintro (z | ⟨a', b', h1, h2, h3, h4⟩)
        · exact Or.inl (Or.inl z)
        · by_cases ha : a' = x.toNat
          · subst ha
            exact Or.inl (Or.inr ⟨b', by omega, h3, h4⟩)
          · exact Or.inr ⟨a', b', by omega, h2, h3, h4⟩
/-- their turn: the rows a turn further, and whether anything is new -/
theorem c_their {f m : Nat → Int} {t : Nat} {tg : Bool} (h : RR σ N) (hm : h_row σ (h_M (σ 50 13).toNat (h_B σ) (h_X (σ 50 13).toNat (h_B σ) tg t)) m) (hf : h_row σ (h_X (σ 50 13).toNat (h_B σ) tg t) f) : ∃ f' c', ev 105 0 [qR 44, qI (b01 tg), qU, qU, qU, qU, qU] [] (hC σ f m) = some (some (qI (b01 c')), hC σ f' m) ∧ h_row σ (h_X (σ 50 13).toNat (h_B σ) tg (t + 1)) f' ∧ (c' = false → ∀ a b s : Nat, a < (σ 50 13).toNat → b < (σ 50 13).toNat → s < (σ 50 13).toNat → (tg = true → b = a) → h_W (σ 50 13).toNat (h_B σ) tg (t + 1) a b s = h_W (σ 50 13).toNat (h_B σ) tg t a b s) := by
  have ht := h.t
  obtain ⟨f', c', e1, -, e3, e4⟩ := c_theirA h hm (σ 50 13).toNat 0 f false qU qU qU (by omega) (by omega) (fun a' b' _ h1 h2 => hf a' b' h1 h2)
  refine ⟨f', c', ?_, fun a b ha hb => e3 a b (by omega) ha hb, fun hc a b s ha hb hs hal => ?_⟩
  · rw [b105_0]
    exact e1
  · have hno : h_r σ tg (t + 1) a b = h_r σ tg t a b := by
      apply Classical.byContradiction
      intro z
      have := e4.mpr (Or.inr ⟨a, b, by omega, by omega, by omega, z⟩)
      rw [hc] at this; cases this
    have := congrArg (fun z => z.testBit s) hno
    unfold h_r at this
    simp only [bset_tb, decide_eq_true hs, Bool.true_and, h_X_al hal] at this
    exact this
/-- begin -/
theorem c_beginB {m : Nat → Int} {a : Int} (ha : 0 ≤ a ∧ a < 6) : ∀ (k : Nat) (x : Int) (f : Nat → Int), 0 ≤ x → x + k = 6 → ∃ f', ev 101 10 [qR 44, qI a, qI x] [] (hC σ f m) = ev 101 40 [qR 44, qI a, qI 6] [] (hC σ f' m) ∧ (∀ i : Nat, (i : Int) < a * 6 + x → f' i = f i) ∧ (∀ b' : Nat, x ≤ b' → b' < 6 → f' (a.toNat * 6 + b') = ((2 ^ a.toNat ||| 2 ^ b' : Nat) : Int))
  | 0, x, f, h0, hk => by
    have e : x = 6 := by omega
    exact ⟨f, by rw [b101_10, if_neg (by omega), e], fun i _ => rfl, fun b' h1 h2 => by omega⟩
  | k + 1, x, f, h0, hk => by
    obtain ⟨f', e1, e2, e3⟩ := c_beginB ha k (x + 1) (updn f (a.toNat * 6 + x.toNat) ((2 ^ a.toNat ||| 2 ^ x.toNat : Nat) : Int)) (by omega) (by omega)
    refine ⟨f', ?_, fun i hi => ?_, fun b' h1 h2 => ?_⟩
    · rw [b101_10, if_pos (by omega), b101_16 (by omega), (h_ab (a := a) (b := x) ha (by omega)).1, hC_45, show (a * 6 + x).toNat = a.toNat * 6 + x.toNat by omega]
      exact e1
    · rw [e2 i (by omega), updn_ne (by omega)]
    · by_cases hb : b' = x.toNat
      · subst hb
        rw [e2 _ (by omega), updn_same]
      · exact e3 b' (by omega) h2
theorem c_beginA {m : Nat → Int} : ∀ (k : Nat) (x : Int) (f : Nat → Int) (v : AV), 0 ≤ x → x + k = 6 → ∃ f', ev 101 2 [qR 44, qI x, v] [] (hC σ f m) = some (none, hC σ f' m) ∧ (∀ i : Nat, (i : Int) < x * 6 → f' i = f i) ∧ (∀ a' b' : Nat, x ≤ a' → a' < 6 → b' < 6 → f' (a' * 6 + b') = ((2 ^ a' ||| 2 ^ b' : Nat) : Int))
  | 0, x, f, v, h0, hk => by
    exact ⟨f, by rw [b101_2, if_neg (by omega), b101_46], fun i _ => rfl, fun a' b' h1 h2 => by omega⟩
  | k + 1, x, f, v, h0, hk => by
    obtain ⟨f1, d1, d2, d3⟩ := c_beginB (σ := σ) (m := m) (a := x) (by omega) 6 0 f (by omega) (by omega)
    obtain ⟨f', e1, e2, e3⟩ := c_beginA k (x + 1) f1 (qI 6) (by omega) (by omega)
    refine ⟨f', ?_, fun i hi => ?_, fun a' b' h1 h2 h3 => ?_⟩
    · rw [b101_2, if_pos (by omega), b101_8, d1, b101_40 (by omega)]
      exact e1
    · rw [e2 i (by omega), d2 i (by omega)]
    · by_cases ha : a' = x.toNat
      · subst ha
        rw [e2 _ (by omega)]
        exact d3 b' (by omega) h3
      · exact e3 a' b' (by omega) h2 h3
theorem c_begin {f m : Nat → Int} {tg : Bool} (h : RR σ N) : ∃ f', ev 101 0 [qR 44, qU, qU] [] (hC σ f m) = some (none, hC σ f' m) ∧ h_row σ (h_X (σ 50 13).toNat (h_B σ) tg 0) f' := by
  have ht := h.t
  obtain ⟨f', e1, -, e3⟩ := c_beginA (σ := σ) (m := m) 6 0 f qU (by omega) (by omega)
  refine ⟨f', ?_, fun a b ha hb => ?_⟩
  · rw [b101_0]
    exact e1
  · rw [e3 a b (by omega) (by omega) (by omega)]
    congr 1
    apply bset_ext (q := fun _ => false)
    intro i
    rw [Nat.testBit_or, Nat.testBit_two_pow, Nat.testBit_two_pow]
    have eX : h_X (σ 50 13).toNat (h_B σ) tg 0 a b i = (decide (i = a) || decide (i = b)) := by
      unfold h_X
      split <;> rfl
    rw [eX, dec_iff (show a = i ↔ i = a from eq_comm), dec_iff (show b = i ↔ i = b from eq_comm)]
    by_cases hi : i < (σ 50 13).toNat
    · rw [decide_eq_true hi, Bool.true_and]
    · rw [decide_eq_false hi, Bool.false_and, decide_eq_false (show ¬ i = a by omega), decide_eq_false (show ¬ i = b by omega)]; rfl
/-- she is met for sure from some pair of houses -/
def h_full (σ : SS) (tg : Bool) (t : Nat) : Prop := ∃ a b : Nat, a < (σ 50 13).toNat ∧ b < (σ 50 13).toNat ∧ (tg = true → b = a) ∧ ∀ s, s < (σ 50 13).toNat → h_W (σ 50 13).toNat (h_B σ) tg t a b s = true
theorem bset_t : ∀ n, bset (fun _ => true) n + 1 = 2 ^ n
  | 0 => rfl
  | n + 1 => by
    have ih := bset_t n
    have e : bset (fun _ => true) (n + 1) = 2 ^ (n + 1) - 1 := by
      apply Nat.eq_of_testBit_eq
      intro i
      rw [bset_tb, Nat.testBit_two_pow_sub_one, Bool.and_true]
    have : 0 < 2 ^ (n + 1) := Nat.two_pow_pos _
    omega
theorem bset_all {p : Nat → Bool} {n : Nat} : bset p n = bset (fun _ => true) n ↔ ∀ i, i < n → p i = true := by
  constructor
  · intro e i hi
    have := congrArg (fun z => z.testBit i) e
    simp only [bset_tb, decide_eq_true hi, Bool.true_and] at this
    exact this
  · intro hp
    exact bset_congr (fun i hi => by rw [hp i hi])
theorem c_meetsB {f m : Nat → Int} {t : Nat} {tg : Bool} {a : Int} (h : RR σ N) (hf : h_row σ (h_X (σ 50 13).toNat (h_B σ) tg t) f) (ha : 0 ≤ a ∧ a < σ 50 13) : ∀ (k : Nat) (x : Int) (v : AV), 0 ≤ x → x + k = σ 50 13 → (∃ v', ev 102 28 [qR 44, qI (b01 tg), qI (bset (fun _ => true) (σ 50 13).toNat : Nat), qI a, qI x, v] [] (hC σ f m) = ev 102 86 [qR 44, qI (b01 tg), qI (bset (fun _ => true) (σ 50 13).toNat : Nat), qI a, qI (σ 50 13), v'] [] (hC σ f m) ∧ ∀ b' : Nat, x ≤ b' → (b' : Int) < σ 50 13 → (tg = true → b' = a.toNat) → ¬ ∀ s, s < (σ 50 13).toNat → h_W (σ 50 13).toNat (h_B σ) tg t a.toNat b' s = true) ∨ (ev 102 28 [qR 44, qI (b01 tg), qI (bset (fun _ => true) (σ 50 13).toNat : Nat), qI a, qI x, v] [] (hC σ f m) = some (some (qI 1), hC σ f m) ∧ h_full σ tg t)
  | 0, x, v, h0, hk => by
    have ht := h.t
    have e8 : hC σ f m 12 8 = σ 50 13 := by rw [hC_ne (by decide)]; omega
    have e : x = σ 50 13 := by omega
    exact Or.inl ⟨v, by rw [b102_28, e8, if_neg (by omega), e], fun b' h1 h2 => by omega⟩
  | k + 1, x, v, h0, hk => by
    have ht := h.t
    have e8 : hC σ f m 12 8 = σ 50 13 := by rw [hC_ne (by decide)]; omega
    have e45 : hC σ f m 45 (a * 6 + x).toNat = ((bset (h_X (σ 50 13).toNat (h_B σ) tg t a.toNat x.toNat) (σ 50 13).toNat : Nat) : Int) := by
      show f _ = _
      rw [show (a * 6 + x).toNat = a.toNat * 6 + x.toNat by omega]
      exact hf a.toNat x.toNat (by omega) (by omega)
    rw [b102_28, e8, if_pos (by omega)]
    by_cases hal : (tg = true → x.toNat = a.toNat)
    · have st : ev 102 40 [qR 44, qI (b01 tg), qI (bset (fun _ => true) (σ 50 13).toNat : Nat), qI a, qI x, v] [] (hC σ f m) = ev 102 50 [qR 44, qI (b01 tg), qI (bset (fun _ => true) (σ 50 13).toNat : Nat), qI a, qI x, v] [] (hC σ f m) := by
        cases tg
        · rw [b102_40, if_pos b01_f]
        · rw [b102_40, if_neg (by decide), b102_44, if_pos (by have := hal rfl; omega)]
      rw [st, b102_50, b102_55, if_neg (by decide), b102_62 (by omega), e45]
      by_cases hq : bset (h_X (σ 50 13).toNat (h_B σ) tg t a.toNat x.toNat) (σ 50 13).toNat = bset (fun _ => true) (σ 50 13).toNat
      · right
        rw [if_pos (by rw [hq]), b102_78]
        refine ⟨rfl, a.toNat, x.toNat, by omega, by omega, hal, fun s hs => ?_⟩
        have := bset_all.mp hq s hs
        rw [h_X_al hal] at this
        exact this
      · rw [if_neg (fun z => hq (by omega)), b102_80 (by omega)]
        have hno : ¬ ∀ s, s < (σ 50 13).toNat → h_W (σ 50 13).toNat (h_B σ) tg t a.toNat x.toNat s = true := fun z => hq (bset_all.mpr fun s hs => by rw [h_X_al hal]; exact z s hs)
        rcases c_meetsB (m := m) h hf ha k (x + 1) (qI 1) (by omega) (by omega) with ⟨v', q1, q2⟩ | q
        · refine Or.inl ⟨v', q1, fun b' h1 h2 h3 => ?_⟩
          by_cases hb : b' = x.toNat
          · subst hb; exact hno
          · exact q2 b' (by omega) h2 h3
        · exact Or.inr q
    · have htg : tg = true := by
        cases tg
        · exact absurd (fun z => by cases z) hal
        · rfl
      have hne : ¬ a = x := fun z => hal (fun _ => by rw [z])
      have st : ev 102 40 [qR 44, qI (b01 tg), qI (bset (fun _ => true) (σ 50 13).toNat : Nat), qI a, qI x, v] [] (hC σ f m) = ev 102 54 [qR 44, qI (b01 tg), qI (bset (fun _ => true) (σ 50 13).toNat : Nat), qI a, qI x, v] [] (hC σ f m) := by
        subst htg
        rw [b102_40, if_neg (by decide), b102_44, if_neg hne]
      rw [st, b102_54, b102_55, if_pos rfl, b102_80 (by omega)]
      rcases c_meetsB (m := m) h hf ha k (x + 1) (qI 0) (by omega) (by omega) with ⟨v', q1, q2⟩ | q
      · refine Or.inl ⟨v', q1, fun b' h1 h2 h3 => ?_⟩
        by_cases hb : b' = x.toNat
        · subst hb; exact absurd h3 hal
        · exact q2 b' (by omega) h2 h3
      · exact Or.inr q
theorem c_meetsA {f m : Nat → Int} {t : Nat} {tg : Bool} (h : RR σ N) (hf : h_row σ (h_X (σ 50 13).toNat (h_B σ) tg t) f) : ∀ (k : Nat) (x : Int) (v w : AV), 0 ≤ x → x + k = σ 50 13 → (ev 102 14 [qR 44, qI (b01 tg), qI (bset (fun _ => true) (σ 50 13).toNat : Nat), qI x, v, w] [] (hC σ f m) = some (some (qI 0), hC σ f m) ∧ ∀ a' b' : Nat, x ≤ a' → (a' : Int) < σ 50 13 → (b' : Int) < σ 50 13 → (tg = true → b' = a') → ¬ ∀ s, s < (σ 50 13).toNat → h_W (σ 50 13).toNat (h_B σ) tg t a' b' s = true) ∨ (ev 102 14 [qR 44, qI (b01 tg), qI (bset (fun _ => true) (σ 50 13).toNat : Nat), qI x, v, w] [] (hC σ f m) = some (some (qI 1), hC σ f m) ∧ h_full σ tg t)
  | 0, x, v, w, h0, hk => by
    have ht := h.t
    have e8 : hC σ f m 12 8 = σ 50 13 := by rw [hC_ne (by decide)]; omega
    exact Or.inl ⟨by rw [b102_14, e8, if_neg (by omega), b102_92], fun a' b' h1 h2 => by omega⟩
  | k + 1, x, v, w, h0, hk => by
    have ht := h.t
    have e8 : hC σ f m 12 8 = σ 50 13 := by rw [hC_ne (by decide)]; omega
    rw [b102_14, e8, if_pos (by omega), b102_25]
    rcases c_meetsB (m := m) (a := x) h hf (by omega) (σ 50 13).toNat 0 w (by omega) (by omega) with ⟨v', q1, q2⟩ | q
    · rw [q1, b102_86 (by omega)]
      rcases c_meetsA (m := m) h hf k (x + 1) (qI (σ 50 13)) v' (by omega) (by omega) with ⟨p1, p2⟩ | p
      · refine Or.inl ⟨p1, fun a' b' h1 h2 h3 h4 => ?_⟩
        by_cases ha : a' = x.toNat
        · subst ha; exact q2 b' (by omega) h3 h4
        · exact p2 a' b' (by omega) h2 h3 h4
      · exact Or.inr p
    · exact Or.inr q
theorem c_meets {f m : Nat → Int} {t : Nat} {tg : Bool} (h : RR σ N) (hf : h_row σ (h_X (σ 50 13).toNat (h_B σ) tg t) f) : (ev 102 0 [qR 44, qI (b01 tg), qU, qU, qU, qU] [] (hC σ f m) = some (some (qI 0), hC σ f m) ∧ ¬ h_full σ tg t) ∨ (ev 102 0 [qR 44, qI (b01 tg), qU, qU, qU, qU] [] (hC σ f m) = some (some (qI 1), hC σ f m) ∧ h_full σ tg t) := by
  have ht := h.t
  have e8 : hC σ f m 12 8 = σ 50 13 := by rw [hC_ne (by decide)]; omega
  have hs := q_shl1 (k := (σ 50 13).toNat) (by omega)
  rw [show (((σ 50 13).toNat : Nat) : Int) = σ 50 13 by omega] at hs
  have hb := bset_t (σ 50 13).toNat
  have h64 := bset_64 (p := fun _ => true) (n := (σ 50 13).toNat) (by omega)
  have e : q_shl 1 (hC σ f m 12 8) - 1 = ((bset (fun _ => true) (σ 50 13).toNat : Nat) : Int) := by
    rw [e8, hs]
    omega
  rw [b102_0 (by rw [e]; omega), e]
  rcases c_meetsA (m := m) h hf (σ 50 13).toNat 0 qU qU (by omega) (by omega) with ⟨p1, p2⟩ | p
  · refine Or.inl ⟨p1, ?_⟩
    rintro ⟨a, b, ha, hb, hal, hs⟩
    exact p2 a b (by omega) (by omega) (by omega) hal hs
  · exact Or.inr p
/-- the fewest turns, or -1 -/
def h_ans (σ : SS) (tg : Bool) (r : Int) : Prop := (r = -1 ∧ ∀ t, ¬ h_full σ tg t) ∨ ∃ t : Nat, r = t ∧ t ≤ 216 ∧ h_full σ tg t ∧ ∀ u, u < t → ¬ h_full σ tg u
theorem h_full_st {tg : Bool} {t : Nat} (hst : ∀ a b s : Nat, a < (σ 50 13).toNat → b < (σ 50 13).toNat → s < (σ 50 13).toNat → (tg = true → b = a) → h_W (σ 50 13).toNat (h_B σ) tg (t + 1) a b s = h_W (σ 50 13).toNat (h_B σ) tg t a b s) {u : Nat} (hu : h_full σ tg u) : ∃ v, v ≤ t ∧ v ≤ u ∧ h_full σ tg v := by
  by_cases hlt : u ≤ t
  · exact ⟨u, hlt, Nat.le_refl _, hu⟩
  · obtain ⟨a, b, ha, hb, hal, hs⟩ := hu
    refine ⟨t, Nat.le_refl _, by omega, a, b, ha, hb, hal, fun s h1 => ?_⟩
    have := hs s h1
    rw [show u = t + (u - t) by omega, h_W_stab hst (u - t) a b s ha hb h1 hal] at this
    exact this
theorem h_full_216 {tg : Bool} (h : RR σ N) {u : Nat} (hu : h_full σ tg u) : ∃ v, v ≤ 216 ∧ v ≤ u ∧ h_full σ tg v := by
  have ht := h.t
  obtain ⟨t, t1, t2⟩ := h_still (n := (σ 50 13).toNat) (B := h_B σ) (tg := tg)
  obtain ⟨v, v1, v2, v3⟩ := h_full_st t2 hu
  have h6 : (σ 50 13).toNat ≤ 6 := by omega
  have m1 : (σ 50 13).toNat * (σ 50 13).toNat ≤ 6 * 6 := Nat.mul_le_mul h6 h6
  have m2 : (σ 50 13).toNat * ((σ 50 13).toNat * (σ 50 13).toNat) ≤ 6 * (6 * 6) := Nat.mul_le_mul h6 m1
  exact ⟨v, by omega, v2, v3⟩
theorem h_ans_un {tg : Bool} {r s : Int} (h1 : h_ans σ tg r) (h2 : h_ans σ tg s) : r = s := by
  rcases h1 with ⟨a1, a2⟩ | ⟨t, a1, -, a3, a4⟩
  · rcases h2 with ⟨b1, b2⟩ | ⟨u, b1, -, b3, b4⟩
    · omega
    · exact absurd b3 (a2 u)
  · rcases h2 with ⟨b1, b2⟩ | ⟨u, b1, -, b3, b4⟩
    · exact absurd a3 (b2 t)
    · have c1 : ¬ t < u := fun z => b4 t z a3
      have c2 : ¬ u < t := fun z => a4 u z b3
      omega
theorem c_turnsL {tg : Bool} (h : RR σ N) : ∀ (k t : Nat) (f m : Nat → Int), t + k = 217 → h_row σ (h_X (σ 50 13).toNat (h_B σ) tg t) f → (∀ u, u < t → ¬ h_full σ tg u) → ∃ r f' m', ev 100 10 [qR 44, qI (b01 tg), qI 216, qI (t : Int)] [] (hC σ f m) = some (some (qI r), hC σ f' m') ∧ h_ans σ tg r
  | 0, t, f, m, hk, hf, hno => by
    refine ⟨-1, f, m, ?_, Or.inl ⟨rfl, fun u hu => ?_⟩⟩
    · rw [b100_10, if_pos (by omega), b100_45]
    · obtain ⟨v, v1, -, v3⟩ := h_full_216 h hu
      exact hno v (by omega) v3
  | k + 1, t, f, m, hk, hf, hno => by
    have ht := h.t
    rw [b100_10, if_neg (by omega), b100_15]
    rcases c_meets (m := m) h hf with ⟨p1, p2⟩ | ⟨p1, p2⟩
    · rw [p1, Option.bind_some, q_push_some]
      dsimp only
      rw [b100_20, if_pos rfl, b100_25]
      obtain ⟨m1, d1, d2⟩ := c_her (m := m) h hf
      rw [d1, Option.bind_some, q_push_none]
      dsimp only
      rw [b100_29]
      obtain ⟨f1, c1, e1, e2, e3⟩ := c_their h d2 hf
      rw [e1, Option.bind_some, q_push_some]
      dsimp only
      rw [b100_34]
      cases c1
      · rw [if_pos b01_f, b100_37]
        refine ⟨-1, f1, m1, rfl, Or.inl ⟨rfl, fun u hu => ?_⟩⟩
        obtain ⟨v, v1, -, v3⟩ := h_full_st (e3 rfl) hu
        by_cases hv : v = t
        · subst hv; exact p2 v3
        · exact hno v (by omega) v3
      · rw [if_neg (by decide), b100_39 (by omega)]
        exact c_turnsL h k (t + 1) f1 m1 (by omega) e2 (fun u hu => by
          by_cases hv : u = t
          · subst hv; exact p2
          · exact hno u (by omega))
    · rw [p1, Option.bind_some, q_push_some]
      dsimp only
      rw [b100_20, if_neg (by decide), b100_23]
      exact ⟨t, f, m, rfl, Or.inr ⟨t, rfl, by omega, p2, hno⟩⟩
/-- the class's fewest turns -/
theorem c_turns {f m : Nat → Int} {tg : Bool} (h : RR σ N) : ∃ r f' m', ev 100 0 [qR 44, qI (b01 tg), qU, qU] [] (hC σ f m) = some (some (qI r), hC σ f' m') ∧ h_ans σ tg r := by
  obtain ⟨f1, e1, e2⟩ := c_begin (f := f) (m := m) (tg := tg) h
  obtain ⟨r, f', m', d1, d2⟩ := c_turnsL h 217 0 f1 m (by omega) e2 (fun u hu => by omega)
  refine ⟨r, f', m', ?_, d2⟩
  rw [b100_0, e1, Option.bind_some, q_push_none]
  dsimp only
  rw [b100_4]
  exact d1
end O23
