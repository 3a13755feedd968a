/-! ===== ways: what is reached in how many steps ===== -/
def bany (p : Nat → Bool) : Nat → Bool
  | 0 => false
  | n + 1 => bany p n || p n
theorem bany_iff {p : Nat → Bool} : ∀ {n : Nat}, bany p n = true ↔ ∃ j, j < n ∧ p j = true
  | 0 => by
    constructor
    · intro h; cases h
    · rintro ⟨j, hj, -⟩; omega
  | n + 1 => by
    unfold bany
    rw [Bool.or_eq_true, bany_iff]
    constructor
    · rintro (⟨j, hj, hp⟩ | hp)
      · exact ⟨j, by omega, hp⟩
      · exact ⟨n, by omega, hp⟩
    · rintro ⟨j, hj, hp⟩
      by_cases h : j = n
      · subst h; exact Or.inr hp
      · exact Or.inl ⟨j, by omega, hp⟩
theorem bany_congr {p q : Nat → Bool} : ∀ {n : Nat}, (∀ i, i < n → p i = q i) → bany p n = bany q n
  | 0, _ => rfl
  | n + 1, h => by
    unfold bany
    rw [bany_congr (fun i hi => h i (by omega)), h n (by omega)]
theorem bcnt_mono {p q : Nat → Bool} (h : ∀ i, p i = true → q i = true) : ∀ n, bcnt p n ≤ bcnt q n
  | 0 => Nat.le_refl _
  | n + 1 => by
    have ih := bcnt_mono h n
    unfold bcnt
    by_cases hp : p n = true
    · rw [if_pos hp, if_pos (h n hp)]; omega
    · rw [if_neg hp]; split <;> omega
theorem bcnt_strict {p q : Nat → Bool} (h : ∀ i, p i = true → q i = true) {x : Nat} (hq : q x = true) (hp : ¬ p x = true) : ∀ n, x < n → bcnt p n + 1 ≤ bcnt q n
  | 0, hx => by omega
  | n + 1, hx => by
    unfold bcnt
    by_cases e : x = n
    · subst e
      have := bcnt_mono h x
      rw [if_neg hp, if_pos hq]; omega
    · have ih := bcnt_strict h hq hp n (by omega)
      by_cases hpn : p n = true
      · rw [if_pos hpn, if_pos (h n hpn)]; omega
      · rw [if_neg hpn]; split <;> omega
def g_S (A : Nat → Nat → Bool) (goal : Nat) : Nat → Nat → Bool
  | 0, i => decide (i = goal)
  | k + 1, i => g_S A goal k i || bany (fun j => g_S A goal k j && A j i) 6
theorem g_S_mono {A : Nat → Nat → Bool} {goal k i : Nat} (h : g_S A goal k i = true) : g_S A goal (k + 1) i = true := by
  unfold g_S
  rw [h]; rfl
theorem g_S_le {A : Nat → Nat → Bool} {goal i k : Nat} (h : g_S A goal k i = true) : ∀ m, g_S A goal (k + m) i = true
  | 0 => h
  | m + 1 => g_S_mono (g_S_le h m)
theorem g_S_stab {A : Nat → Nat → Bool} {goal k : Nat} (h : ∀ i, i < 6 → g_S A goal (k + 1) i = g_S A goal k i) : ∀ m i, i < 6 → g_S A goal (k + m) i = g_S A goal k i
  | 0, i, _ => rfl
  | m + 1, i, hi => by
    have ih := g_S_stab h m
    show (g_S A goal (k + m) i || bany (fun j => g_S A goal (k + m) j && A j i) 6) = _
    rw [ih i hi, bany_congr (q := fun j => g_S A goal k j && A j i) (fun j hj => by rw [ih j hj])]
    exact h i hi
theorem g_S_cnt {A : Nat → Nat → Bool} {goal : Nat} (hg : goal < 6) : ∀ k, (∀ j, j < k → ∃ i, i < 6 ∧ g_S A goal (j + 1) i ≠ g_S A goal j i) → k + 1 ≤ bcnt (g_S A goal k) 6
  | 0, _ => by
    have := bcnt_strict (p := fun _ => false) (q := g_S A goal 0) (fun i h => by cases h) (x := goal) (by simp [g_S]) (by simp) 6 hg
    omega
  | k + 1, h => by
    have ih := g_S_cnt hg k (fun j hj => h j (by omega))
    obtain ⟨i, hi, hne⟩ := h k (by omega)
    have hq : g_S A goal (k + 1) i = true := by
      cases hz : g_S A goal (k + 1) i
      · cases hy : g_S A goal k i
        · rw [hz, hy] at hne; exact absurd rfl hne
        · rw [g_S_mono hy] at hz; cases hz
      · rfl
    have hp : ¬ g_S A goal k i = true := fun z => by rw [hq, z] at hne; exact hne rfl
    have := bcnt_strict (p := g_S A goal k) (q := g_S A goal (k + 1)) (fun i h => g_S_mono h) hq hp 6 hi
    omega
/-- five steps reach all that is reached -/
theorem g_S_5 {A : Nat → Nat → Bool} {goal : Nat} (hg : goal < 6) {m i : Nat} (hi : i < 6) : g_S A goal (5 + m) i = g_S A goal 5 i := by
  have hex : ∃ k, k ≤ 5 ∧ ∀ i, i < 6 → g_S A goal (k + 1) i = g_S A goal k i := by
    apply Classical.byContradiction
    intro hno
    have h6 := g_S_cnt (A := A) hg 6 (fun j hj => by
      apply Classical.byContradiction
      intro hn
      exact hno ⟨j, by omega, fun i hi => Classical.byContradiction fun z => hn ⟨i, hi, z⟩⟩)
    have := bcnt_le (g_S A goal 6) 6
    omega
  obtain ⟨k, hk, hs⟩ := hex
  have e1 := g_S_stab hs (5 - k) i hi
  have e2 := g_S_stab hs (5 - k + m) i hi
  rw [show k + (5 - k) = 5 by omega] at e1
  rw [show k + (5 - k + m) = 5 + m by omega] at e2
  rw [e1, e2]
/-- in how few steps, at most n; else d -/
def g_D (A : Nat → Nat → Bool) (goal : Nat) (d : Int) (i : Nat) : Nat → Int
  | 0 => if g_S A goal 0 i then 0 else d
  | k + 1 => if g_S A goal k i then g_D A goal d i k else if g_S A goal (k + 1) i then ((k + 1 : Nat) : Int) else d
theorem g_D_in {A : Nat → Nat → Bool} {goal i : Nat} {d : Int} : ∀ {k : Nat}, g_S A goal k i = true → 0 ≤ g_D A goal d i k ∧ g_D A goal d i k ≤ k ∧ g_S A goal (g_D A goal d i k).toNat i = true ∧ ∀ m : Nat, g_S A goal m i = true → g_D A goal d i k ≤ m
  | 0, h => by
    unfold g_D
    rw [if_pos h]
    exact ⟨by omega, by omega, h, fun m _ => by omega⟩
  | k + 1, h => by
    unfold g_D
    by_cases hk : g_S A goal k i = true
    · rw [if_pos hk]
      have ih := g_D_in (d := d) hk
      exact ⟨ih.1, by omega, ih.2.2.1, ih.2.2.2⟩
    · rw [if_neg hk, if_pos h]
      refine ⟨by omega, by omega, by rw [Int.toNat_natCast]; exact h, fun m hm => ?_⟩
      by_cases hl : m ≤ k
      · have := g_S_le hm (k - m)
        rw [show m + (k - m) = k by omega] at this
        exact absurd this hk
      · omega
theorem g_D_out {A : Nat → Nat → Bool} {goal i : Nat} {d : Int} : ∀ {k : Nat}, ¬ g_S A goal k i = true → g_D A goal d i k = d
  | 0, h => by unfold g_D; rw [if_neg h]
  | k + 1, h => by
    unfold g_D
    rw [if_neg (fun z => h (g_S_mono z)), if_neg h]
def g_A (σ : SS) (j i : Nat) : Bool := decide ((j : Int) < σ 50 13) && (σ 55 j).toNat.testBit i
section O14
variable {σ : SS} {N : Int}
theorem g_A_lt (h : RR σ N) {j i : Nat} (ha : g_A σ j i = true) : (j : Int) < σ 50 13 ∧ (i : Int) < σ 50 13 ∧ g_A σ i j = true := by
  unfold g_A at ha ⊢
  rw [Bool.and_eq_true] at ha
  have hj := of_decide_eq_true ha.1
  have q := h.1.2.2.2.1 j i hj ha.2
  exact ⟨hj, q.1, by rw [decide_eq_true q.1, q.2.2]; rfl⟩
def tC (σ : SS) (f : Nat → Int) : SS := fun k => if k = 43 then f else σ k
theorem tC_ne {f : Nat → Int} {k : Nat} (h : k ≠ 43) : tC σ f k = σ k := by unfold tC; rw [if_neg h]
theorem tC_43 {f : Nat → Int} {i : Nat} {v : Int} : q_put (tC σ f) 43 i v = tC σ (updn f i v) := by
  funext k j
  unfold q_put tC updn
  by_cases h : k = 43
  · subst h
    simp
  · simp [h]
theorem tC_id : tC σ (σ 43) = σ := by
  funext k
  unfold tC
  split
  · subst k; rfl
  · rfl
theorem RR.tourC (h : RR σ N) {f : Nat → Int} : RR (tC σ f) N := by
  have hn := h.n
  have := h.cg2 (σ1 := tC σ f) (σ2 := σ) (N' := N) (by omega) (by omega) (fun k hk => tC_ne (by rintro rfl; revert hk; decide)) (fun _ _ => rfl)
  have e : mix (tC σ f) σ = tC σ f := by
    funext k
    unfold mix
    split
    · rfl
    · rw [tC_ne (by omega)]
  rw [e] at this
  exact this
theorem bset_ext {p q : Nat → Bool} {n a : Nat} (ha : ∀ i, a.testBit i = (decide (i < n) && p i)) : a = bset p n := by
  apply Nat.eq_of_testBit_eq
  intro i
  rw [ha, bset_tb]
/-- near to a set -/
theorem c_nearL {s : Nat} (h : RR σ N) (hs : s < 64) : ∀ (k : Nat) (x : Int), 0 ≤ x → x + k = 6 → ev 702 4 [qR 42, qI (s : Int), qI (bset (fun i => bany (fun j => s.testBit j && g_A σ j i) x.toNat) 6 : Nat), qI x] [] σ = some (some (qI (bset (fun i => bany (fun j => s.testBit j && g_A σ j i) 6) 6 : Nat)), σ)
  | 0, x, h0, hk => by
    have e : x = 6 := by omega
    rw [b702_4, if_neg (by omega), b702_38, e]; rfl
  | k + 1, x, h0, hk => by
    have ht := h.t
    have ih := c_nearL h hs k (x + 1) (by omega) (by omega)
    rw [show (x + 1).toNat = x.toNat + 1 by omega] at ih
    have ex : ((x.toNat : Nat) : Int) = x := by omega
    rw [b702_4, if_pos (by omega), b702_10, c_has (by omega), decide_eq_true h0, Bool.true_and, Int.toNat_natCast, Option.bind_some, q_push_some]
    dsimp only
    cases hb : s.testBit x.toNat
    · rw [b702_15, if_pos b01_f, b702_32 (by omega)]
      have e : bset (fun i => bany (fun j => s.testBit j && g_A σ j i) (x.toNat + 1)) 6 = bset (fun i => bany (fun j => s.testBit j && g_A σ j i) x.toNat) 6 := by
        apply bset_congr
        intro i _
        rw [bany, hb, Bool.false_and, Bool.or_false]
      rw [e] at ih
      exact ih
    · rw [b702_15, if_neg (by decide), b702_18]
      by_cases hx : x < σ 50 13
      · have hH := h.h h0 hx
        rw [c_waysFrom h ⟨h0, hx⟩, Option.bind_some, q_push_some]
        dsimp only
        rw [b702_30, b702_32 (by omega)]
        have e : q_or (bset (fun i => bany (fun j => s.testBit j && g_A σ j i) x.toNat) 6 : Nat) (σ 55 x.toNat) = (bset (fun i => bany (fun j => s.testBit j && g_A σ j i) (x.toNat + 1)) 6 : Nat) := by
          have q := q_or_nat (a := bset (fun i => bany (fun j => s.testBit j && g_A σ j i) x.toNat) 6) (b := (σ 55 x.toNat).toNat) (bset_31 (by omega)) (by omega)
          rw [show (((σ 55 x.toNat).toNat : Nat) : Int) = σ 55 x.toNat by omega] at q
          rw [q]
          congr 1
          apply Nat.eq_of_testBit_eq
          intro i
          rw [Nat.testBit_or, bset_tb, bset_tb, bany, hb, Bool.true_and]
          unfold g_A
          rw [decide_eq_true (show ((x.toNat : Nat) : Int) < σ 50 13 by omega), Bool.true_and]
          by_cases hi : i < 6
          · rw [decide_eq_true hi, Bool.true_and, Bool.true_and]
          · have : (σ 55 x.toNat).toNat.testBit i = false := by
              cases hz : (σ 55 x.toNat).toNat.testBit i
              · rfl
              · have := (h.1.2.2.2.1 x.toNat i (by omega) hz).1
                omega
            rw [this, decide_eq_false hi, Bool.false_and, Bool.false_and]; rfl
        rw [e]
        exact ih
      · rw [c_waysFromX h (fun z => hx z.2), Option.bind_some, q_push_some]
        dsimp only
        rw [b702_30, q_or_0 (bset_31 (by omega)), b702_32 (by omega)]
        have e : bset (fun i => bany (fun j => s.testBit j && g_A σ j i) (x.toNat + 1)) 6 = bset (fun i => bany (fun j => s.testBit j && g_A σ j i) x.toNat) 6 := by
          apply bset_congr
          intro i _
          rw [bany]
          unfold g_A
          rw [decide_eq_false (show ¬ ((x.toNat : Nat) : Int) < σ 50 13 by omega), Bool.false_and, Bool.and_false, Bool.or_false]
        rw [e] at ih
        exact ih
end O14
