/-! ===== chase: her turn ===== -/
section O20
variable {σ : SS} {N : Int}
theorem h_ab {a b : Int} (ha : 0 ≤ a ∧ a < 6) (hb : 0 ≤ b ∧ b < 6) : q_or (q_shl 1 a) (q_shl 1 b) = ((2 ^ a.toNat ||| 2 ^ b.toNat : Nat) : Int) ∧ 2 ^ a.toNat ||| 2 ^ b.toNat < 64 := by
  have h1 := q_shl1 (k := a.toNat) (by omega)
  have h2 := q_shl1 (k := b.toNat) (by omega)
  rw [show ((a.toNat : Nat) : Int) = a by omega] at h1
  rw [show ((b.toNat : Nat) : Int) = b by omega] at h2
  have p1 : 2 ^ a.toNat < 2 ^ 6 := Nat.pow_lt_pow_right (by omega) (by omega)
  have p2 : 2 ^ b.toNat < 2 ^ 6 := Nat.pow_lt_pow_right (by omega) (by omega)
  have p3 : 2 ^ a.toNat ||| 2 ^ b.toNat < 2 ^ 6 := Nat.or_lt_two_pow p1 p2
  rw [h1, h2, q_or_nat (by omega) (by omega)]
  exact ⟨rfl, by omega⟩
theorem c_herB {f : Nat → Int} {W : Nat → Nat → Nat → Bool} {a : Int} (h : RR σ N) (hf : h_row σ W f) (ha : 0 ≤ a ∧ a < σ 50 13) : ∀ (k : Nat) (x : Int) (m : Nat → Int) (v : AV), 0 ≤ x → x + k = σ 50 13 → ∃ m' v', ev 103 15 [qR 44, qI a, qI x, v] [] (hC σ f m) = ev 103 63 [qR 44, qI a, qI (σ 50 13), v'] [] (hC σ f m') ∧ (∀ i : Nat, (∀ b' : Nat, x ≤ b' → (b' : Int) < σ 50 13 → i ≠ a.toNat * 6 + b') → m' i = m i) ∧ ∀ b' : Nat, x ≤ b' → (b' : Int) < σ 50 13 → m' (a.toNat * 6 + b') = ((bset (h_M (σ 50 13).toNat (h_B σ) W a.toNat b') (σ 50 13).toNat : Nat) : Int)
  | 0, x, m, v, h0, hk => by
    have ht := h.t
    have e8 : hC σ f m 12 8 = σ 50 13 := by rw [hC_ne (by decide)]; omega
    have e : x = σ 50 13 := by omega
    refine ⟨m, v, ?_, fun i _ => rfl, fun b' h1 h2 => by omega⟩
    rw [b103_15, e8, if_neg (by omega), e]
  | k + 1, x, m, v, h0, hk => by
    have ht := h.t
    have e8 : hC σ f m 12 8 = σ 50 13 := by rw [hC_ne (by decide)]; omega
    have hw := bset_64 (p := W a.toNat x.toNat) (n := (σ 50 13).toNat) (by omega)
    have e45 : hC σ f m 45 (a * 6 + x).toNat = ((bset (W a.toNat x.toNat) (σ 50 13).toNat : Nat) : Int) := by
      show f _ = _
      rw [show (a * 6 + x).toNat = a.toNat * 6 + x.toNat by omega]
      exact hf a.toNat x.toNat (by omega) (by omega)
    obtain ⟨ab1, ab2⟩ := h_ab (a := a) (b := x) (by omega) (by omega)
    have eM : q_or (((2 ^ a.toNat ||| 2 ^ x.toNat : Nat) : Nat) : Int) (bset (fun s => ball (fun s' => !h_B σ s s' || (bset (W a.toNat x.toNat) (σ 50 13).toNat).testBit s') (σ 50 13).toNat) (σ 50 13).toNat : Nat) = ((bset (h_M (σ 50 13).toNat (h_B σ) W a.toNat x.toNat) (σ 50 13).toNat : Nat) : Int) := by
      rw [q_or_nat (by omega) (bset_31 (by omega))]
      congr 1
      apply Nat.eq_of_testBit_eq
      intro i
      rw [Nat.testBit_or, Nat.testBit_or, Nat.testBit_two_pow, Nat.testBit_two_pow, bset_tb, bset_tb]
      unfold h_M
      have eb : ball (fun s' => !h_B σ i s' || (bset (W a.toNat x.toNat) (σ 50 13).toNat).testBit s') (σ 50 13).toNat = ball (fun s' => !h_B σ i s' || W a.toNat x.toNat s') (σ 50 13).toNat := by
        cases hq : ball (fun s' => !h_B σ i s' || W a.toNat x.toNat s') (σ 50 13).toNat
        · cases hp : ball (fun s' => !h_B σ i s' || (bset (W a.toNat x.toNat) (σ 50 13).toNat).testBit s') (σ 50 13).toNat
          · rfl
          · rw [ball_iff] at hp
            have : ball (fun s' => !h_B σ i s' || W a.toNat x.toNat s') (σ 50 13).toNat = true := ball_iff.mpr fun j hj => by
              have := hp j hj
              rw [bset_tb, decide_eq_true hj, Bool.true_and] at this
              exact this
            rw [hq] at this; cases this
        · rw [ball_iff] at hq ⊢
          intro j hj
          rw [bset_tb, decide_eq_true hj, Bool.true_and]
          exact hq j hj
      rw [eb, dec_iff (show a.toNat = i ↔ i = a.toNat from eq_comm), dec_iff (show x.toNat = i ↔ i = x.toNat from eq_comm)]
      by_cases hi : i < (σ 50 13).toNat
      · rw [decide_eq_true hi, Bool.true_and, Bool.true_and]
      · rw [decide_eq_false hi, Bool.false_and, Bool.false_and, decide_eq_false (show ¬ i = a.toNat by omega), decide_eq_false (show ¬ i = x.toNat by omega)]; rfl
    obtain ⟨m', v', e1, e2, e3⟩ := c_herB h hf ha k (x + 1) (updn m (a.toNat * 6 + x.toNat) ((bset (h_M (σ 50 13).toNat (h_B σ) W a.toNat x.toNat) (σ 50 13).toNat : Nat) : Int)) (qI (a * 6 + x)) (by omega) (by omega)
    refine ⟨m', v', ?_, fun i hi => ?_, fun b' h1 h2 => ?_⟩
    · rw [b103_15, e8, if_pos (by omega), b103_26 (by omega), e45, c_esc h hw, Option.bind_some, q_push_some]
      dsimp only
      rw [b103_55 (by omega), ab1, eM, hC_46, show (a * 6 + x).toNat = a.toNat * 6 + x.toNat by omega]
      exact e1
    · rw [e2 i (fun b' h1 h2 => hi b' (by omega) h2), updn_ne (by
        have := hi x.toNat (by omega) (by omega)
        exact this)]
    · by_cases hb : b' = x.toNat
      · subst hb
        rw [e2 _ (fun b' h3 h4 => by omega), updn_same]
      · exact e3 b' (by omega) h2
theorem c_herA {f : Nat → Int} {W : Nat → Nat → Nat → Bool} (h : RR σ N) (hf : h_row σ W f) : ∀ (k : Nat) (x : Int) (m : Nat → Int) (v w : AV), 0 ≤ x → x + k = σ 50 13 → ∃ m', ev 103 2 [qR 44, qI x, v, w] [] (hC σ f m) = some (none, hC σ f m') ∧ (∀ i : Nat, (i : Int) < x * 6 → m' i = m i) ∧ ∀ a' b' : Nat, x ≤ a' → (a' : Int) < σ 50 13 → (b' : Int) < σ 50 13 → m' (a' * 6 + b') = ((bset (h_M (σ 50 13).toNat (h_B σ) W a' b') (σ 50 13).toNat : Nat) : Int)
  | 0, x, m, v, w, h0, hk => by
    have ht := h.t
    have e8 : hC σ f m 12 8 = σ 50 13 := by rw [hC_ne (by decide)]; omega
    refine ⟨m, ?_, fun i _ => rfl, fun a' b' h1 h2 => by omega⟩
    rw [b103_2, e8, if_neg (by omega), b103_69]
  | k + 1, x, m, v, w, h0, hk => by
    have ht := h.t
    have e8 : hC σ f m 12 8 = σ 50 13 := by rw [hC_ne (by decide)]; omega
    obtain ⟨m1, v1, a1, a2, a3⟩ := c_herB (a := x) h hf (by omega) (σ 50 13).toNat 0 m w (by omega) (by omega)
    obtain ⟨m', b1, b2, b3⟩ := c_herA h hf k (x + 1) m1 (qI (σ 50 13)) v1 (by omega) (by omega)
    refine ⟨m', ?_, fun i hi => ?_, fun a' b' h1 h2 h3 => ?_⟩
    · rw [b103_2, e8, if_pos (by omega), b103_13, a1, b103_63 (by omega)]
      exact b1
    · rw [b2 i (by omega), a2 i (fun b' h1 h2 => by omega)]
    · by_cases hax : a' = x.toNat
      · subst hax
        rw [b2 _ (by omega)]
        exact a3 b' (by omega) h3
      · exact b3 a' b' (by omega) h2 h3
/-- her turn: the rows where she is to go -/
theorem c_her {f m : Nat → Int} {W : Nat → Nat → Nat → Bool} (h : RR σ N) (hf : h_row σ W f) : ∃ m', ev 103 0 [qR 44, qU, qU, qU] [] (hC σ f m) = some (none, hC σ f m') ∧ h_row σ (h_M (σ 50 13).toNat (h_B σ) W) m' := by
  have ht := h.t
  obtain ⟨m', e1, -, e3⟩ := c_herA h hf (σ 50 13).toNat 0 m qU qU (by omega) (by omega)
  refine ⟨m', ?_, fun a b ha hb => e3 a b (by omega) ha hb⟩
  rw [b103_0]
  exact e1
end O20
