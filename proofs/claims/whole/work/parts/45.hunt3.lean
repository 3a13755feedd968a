/-! ===== chase: their turn ===== -/
section O21
variable {σ : SS} {N : Int}
/-- the class's rows: where they never go together nothing is written -/
def h_X (n : Nat) (B : Nat → Nat → Bool) (tg : Bool) (t a b s : Nat) : Bool := if (tg = true → b = a) then h_W n B tg t a b s else h_W n B tg 0 a b s
theorem h_X_al {n : Nat} {B : Nat → Nat → Bool} {tg : Bool} {t a b s : Nat} (h : (tg = true → b = a)) : h_X n B tg t a b s = h_W n B tg t a b s := by
  unfold h_X
  rw [if_pos h]
theorem h_M_X {n : Nat} {B : Nat → Nat → Bool} {tg : Bool} {t a b s : Nat} (h : (tg = true → b = a)) : h_M n B (h_X n B tg t) a b s = h_M n B (h_W n B tg t) a b s := by
  unfold h_M
  have : (fun s' => !B s s' || h_X n B tg t a b s') = fun s' => !B s s' || h_W n B tg t a b s' := by
    funext s'
    rw [h_X_al h]
  rw [this]
theorem h_go_X {n : Nat} {B : Nat → Nat → Bool} {tg : Bool} {t a b s : Nat} : h_go n B tg (h_M n B (h_X n B tg t)) a b s n = h_go n B tg (h_M n B (h_W n B tg t)) a b s n := by
  unfold h_go
  cases tg
  · have : ∀ a' b', h_M n B (h_X n B false t) a' b' s = h_M n B (h_W n B false t) a' b' s := fun a' b' => h_M_X (fun z => by cases z)
    simp only [this]
  · have : ∀ a', h_M n B (h_X n B true t) a' a' s = h_M n B (h_W n B true t) a' a' s := fun a' => h_M_X (fun _ => rfl)
    simp only [this, if_true]
theorem h_W_go {n : Nat} {B : Nat → Nat → Bool} {tg : Bool} {t a b s : Nat} : h_W n B tg (t + 1) a b s = (h_W n B tg t a b s || h_go n B tg (h_M n B (h_X n B tg t)) a b s n) := by
  rw [h_go_X]
  rfl
/-- one pair of theirs -/
theorem c_pair {f m : Nat → Int} {t : Nat} {tg : Bool} {a x : Int} (h : RR σ N) (hm : h_row σ (h_M (σ 50 13).toNat (h_B σ) (h_X (σ 50 13).toNat (h_B σ) tg t)) m) (ha : 0 ≤ a ∧ a < σ 50 13) (hx : 0 ≤ x ∧ x < σ 50 13) (hf : f (a.toNat * 6 + x.toNat) = ((bset (h_X (σ 50 13).toNat (h_B σ) tg t a.toNat x.toNat) (σ 50 13).toNat : Nat) : Int)) {c : Bool} {v5 v6 : AV} : ∃ c' w5 w6, ev 105 30 [qR 44, qI (b01 tg), qI (b01 c), qI a, qI x, v5, v6] [] (hC σ f m) = ev 105 101 [qR 44, qI (b01 tg), qI (b01 c'), qI a, qI x, w5, w6] [] (hC σ (updn f (a.toNat * 6 + x.toNat) ((bset (h_X (σ 50 13).toNat (h_B σ) tg (t + 1) a.toNat x.toNat) (σ 50 13).toNat : Nat) : Int)) m) ∧ (c' = true ↔ c = true ∨ bset (h_X (σ 50 13).toNat (h_B σ) tg (t + 1) a.toNat x.toNat) (σ 50 13).toNat ≠ bset (h_X (σ 50 13).toNat (h_B σ) tg t a.toNat x.toNat) (σ 50 13).toNat) := by
  have ht := h.t
  by_cases hal : (tg = true → x.toNat = a.toNat)
  · have hgo := c_go (f := f) (a := a.toNat) (b := x.toNat) (tg := tg) h hm (by omega) (by omega)
    rw [show ((a.toNat : Nat) : Int) = a by omega, show ((x.toNat : Nat) : Int) = x by omega] at hgo
    have e45 : hC σ f m 45 (a * 6 + x).toNat = ((bset (h_X (σ 50 13).toNat (h_B σ) tg t a.toNat x.toNat) (σ 50 13).toNat : Nat) : Int) := by
      show f _ = _
      rw [show (a * 6 + x).toNat = a.toNat * 6 + x.toNat by omega]
      exact hf
    have eor : q_or (bset (h_X (σ 50 13).toNat (h_B σ) tg t a.toNat x.toNat) (σ 50 13).toNat : Nat) (bset (fun s => h_go (σ 50 13).toNat (h_B σ) tg (h_M (σ 50 13).toNat (h_B σ) (h_X (σ 50 13).toNat (h_B σ) tg t)) a.toNat x.toNat s (σ 50 13).toNat) (σ 50 13).toNat : Nat) = ((bset (h_X (σ 50 13).toNat (h_B σ) tg (t + 1) a.toNat x.toNat) (σ 50 13).toNat : Nat) : Int) := by
      rw [q_or_nat (bset_31 (by omega)) (bset_31 (by omega))]
      congr 1
      apply Nat.eq_of_testBit_eq
      intro i
      rw [Nat.testBit_or, bset_tb, bset_tb, bset_tb, h_X_al hal, h_X_al hal, h_W_go]
      cases decide (i < (σ 50 13).toNat) <;> simp
    have st : ev 105 30 [qR 44, qI (b01 tg), qI (b01 c), qI a, qI x, v5, v6] [] (hC σ f m) = ev 105 43 [qR 44, qI (b01 tg), qI (b01 c), qI a, qI x, v5, v6] [] (hC σ f m) := by
      cases tg
      · rw [b105_30, if_pos b01_f]
      · rw [b105_30, if_neg (by decide), b105_34, if_pos (by have := hal rfl; omega)]
    rw [st, b105_43 (by omega), hgo, Option.bind_some, q_push_some]
    dsimp only
    rw [e45, b105_67, eor]
    have fin : ∀ c' : Bool, ev 105 91 [qR 44, qI (b01 tg), qI (b01 c), qI a, qI x, qI (a * 6 + x), qI ((bset (h_X (σ 50 13).toNat (h_B σ) tg (t + 1) a.toNat x.toNat) (σ 50 13).toNat : Nat) : Int)] [qI (b01 c')] (hC σ f m) = ev 105 101 [qR 44, qI (b01 tg), qI (b01 c'), qI a, qI x, qI (a * 6 + x), qI ((bset (h_X (σ 50 13).toNat (h_B σ) tg (t + 1) a.toNat x.toNat) (σ 50 13).toNat : Nat) : Int)] [] (hC σ (updn f (a.toNat * 6 + x.toNat) ((bset (h_X (σ 50 13).toNat (h_B σ) tg (t + 1) a.toNat x.toNat) (σ 50 13).toNat : Nat) : Int)) m) := by
      intro c'
      rw [b105_91 (by omega), hC_45, show (a * 6 + x).toNat = a.toNat * 6 + x.toNat by omega]
    cases c
    · rw [if_pos b01_f, b105_74 (by omega), e45]
      by_cases hq : bset (h_X (σ 50 13).toNat (h_B σ) tg (t + 1) a.toNat x.toNat) (σ 50 13).toNat = bset (h_X (σ 50 13).toNat (h_B σ) tg t a.toNat x.toNat) (σ 50 13).toNat
      · refine ⟨false, qI (a * 6 + x), qI ((bset (h_X (σ 50 13).toNat (h_B σ) tg (t + 1) a.toNat x.toNat) (σ 50 13).toNat : Nat) : Int), ?_, ?_⟩
        · rw [if_pos (by rw [hq]), b105_90]
          exact fin false
        · simp [hq]
      · refine ⟨true, qI (a * 6 + x), qI ((bset (h_X (σ 50 13).toNat (h_B σ) tg (t + 1) a.toNat x.toNat) (σ 50 13).toNat : Nat) : Int), ?_, ?_⟩
        · rw [if_neg (fun z => hq (by omega)), b105_86]
          exact fin true
        · simp [hq]
    · rw [if_neg (by decide), b105_86]
      exact ⟨true, _, _, fin true, by simp⟩
  · have htg : tg = true := by
      cases tg
      · exact absurd (fun z => by cases z) hal
      · rfl
    have hne : ¬ a = x := fun z => hal (fun _ => by rw [z])
    have eX : ∀ u, h_X (σ 50 13).toNat (h_B σ) tg u a.toNat x.toNat = h_W (σ 50 13).toNat (h_B σ) tg 0 a.toNat x.toNat := by
      intro u
      funext s
      unfold h_X
      rw [if_neg hal]
    refine ⟨c, v5, v6, ?_, ?_⟩
    · rw [eX, ← eX t, ← hf, updn_self]
      subst htg
      rw [b105_30, if_neg (by decide), b105_34, if_neg hne, b105_40]
    · rw [eX, eX]
      simp
end O21
