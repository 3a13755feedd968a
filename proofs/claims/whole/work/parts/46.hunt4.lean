/-! ===== chase: their turn, all pairs ===== -/
section O22
variable {σ : SS} {N : Int}
def h_r (σ : SS) (tg : Bool) (t a b : Nat) : Nat := bset (h_X (σ 50 13).toNat (h_B σ) tg t a b) (σ 50 13).toNat
theorem c_theirB {m : Nat → Int} {t : Nat} {tg : Bool} {a : Int} (h : RR σ N) (hm : h_row σ (h_M (σ 50 13).toNat (h_B σ) (h_X (σ 50 13).toNat (h_B σ) tg t)) m) (ha : 0 ≤ a ∧ a < σ 50 13) : ∀ (k : Nat) (x : Int) (f : Nat → Int) (c : Bool) (v5 v6 : AV), 0 ≤ x → x + k = σ 50 13 → (∀ b' : Nat, x ≤ b' → (b' : Int) < σ 50 13 → f (a.toNat * 6 + b') = (h_r σ tg t a.toNat b' : Int)) → ∃ f' c' w5 w6, ev 105 18 [qR 44, qI (b01 tg), qI (b01 c), qI a, qI x, v5, v6] [] (hC σ f m) = ev 105 107 [qR 44, qI (b01 tg), qI (b01 c'), qI a, qI (σ 50 13), w5, w6] [] (hC σ f' m) ∧ (∀ i : Nat, (∀ b' : Nat, x ≤ b' → (b' : Int) < σ 50 13 → i ≠ a.toNat * 6 + b') → f' i = f i) ∧ (∀ b' : Nat, x ≤ b' → (b' : Int) < σ 50 13 → f' (a.toNat * 6 + b') = (h_r σ tg (t + 1) a.toNat b' : Int)) ∧ (c' = true ↔ c = true ∨ ∃ b' : Nat, x ≤ b' ∧ (b' : Int) < σ 50 13 ∧ h_r σ tg (t + 1) a.toNat b' ≠ h_r σ tg t a.toNat b')
  | 0, x, f, c, v5, v6, h0, hk, hf => by
    have ht := h.t
    have e8 : hC σ f m 12 8 = σ 50 13 := by rw [hC_ne (by decide)]; omega
    have e : x = σ 50 13 := by omega
    refine ⟨f, c, v5, v6, ?_, fun i _ => rfl, fun b' h1 h2 => by omega, ?_⟩
    · rw [b105_18, e8, if_neg (by omega), e]
    · constructor
      · exact Or.inl
      · rintro (z | ⟨b', h1, h2, -⟩)
        · exact z
        · omega
  | k + 1, x, f, c, v5, v6, h0, hk, hf => by
    have ht := h.t
    have e8 : hC σ f m 12 8 = σ 50 13 := by rw [hC_ne (by decide)]; omega
    obtain ⟨c1, w5, w6, p1, p2⟩ := c_pair (f := f) (x := x) (c := c) (v5 := v5) (v6 := v6) h hm ha (by omega) (hf x.toNat (by omega) (by omega))
    obtain ⟨f', c', u5, u6, q1, q2, q3, q4⟩ := c_theirB h hm ha k (x + 1) (updn f (a.toNat * 6 + x.toNat) ((bset (h_X (σ 50 13).toNat (h_B σ) tg (t + 1) a.toNat x.toNat) (σ 50 13).toNat : Nat) : Int)) c1 w5 w6 (by omega) (by omega) (fun b' h1 h2 => by rw [updn_ne (by omega)]; exact hf b' (by omega) h2)
    refine ⟨f', c', u5, u6, ?_, fun i hi => ?_, fun b' h1 h2 => ?_, ?_⟩
    · rw [b105_18, e8, if_pos (by omega), p1, b105_101 (by omega)]
      exact q1
    · rw [q2 i (fun b' h1 h2 => hi b' (by omega) h2), updn_ne (hi x.toNat (by omega) (by omega))]
    · by_cases hb : b' = x.toNat
      · subst hb
        rw [q2 _ (fun b' h3 h4 => by omega), updn_same]
        rfl
      · exact q3 b' (by omega) h2
    · rw [q4, p2]
      constructor
      · rintro ((z | z) | ⟨b', h1, h2, h3⟩)
        · exact Or.inl z
        · exact Or.inr ⟨x.toNat, by omega, by omega, z⟩
        · exact Or.inr ⟨b', by omega, h2, h3⟩
      · rintro (z | ⟨b', h1, h2, h3⟩)
        · exact Or.inl (Or.inl z)
        · by_cases hb : b' = x.toNat
          · subst hb
            exact Or.inl (Or.inr h3)
          · exact Or.inr ⟨b', by omega, h2, h3⟩
end O22
