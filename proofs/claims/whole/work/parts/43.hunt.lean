/-! ===== chase: the class's rows ===== -/
section O19
variable {σ : SS} {N : Int}
/-- may go in a turn -/
def h_B (σ : SS) (a x : Nat) : Bool := decide (x = a) || g_A σ a x
def hC (σ : SS) (f m : Nat → Int) : SS := fun k => if k = 45 then f else if k = 46 then m else σ k
theorem hC_ne {f m : Nat → Int} {k : Nat} (h : k ≠ 45 ∧ k ≠ 46) : hC σ f m k = σ k := by
  unfold hC
  rw [if_neg h.1, if_neg h.2]
theorem hC_45 {f m : Nat → Int} {i : Nat} {v : Int} : q_put (hC σ f m) 45 i v = hC σ (updn f i v) m := by
  funext k j
  unfold q_put hC updn
  by_cases h : k = 45
  · subst h
    simp
  · simp [h]
theorem hC_46 {f m : Nat → Int} {i : Nat} {v : Int} : q_put (hC σ f m) 46 i v = hC σ f (updn m i v) := by
  funext k j
  unfold q_put hC updn
  by_cases h : k = 46
  · subst h
    simp
  · simp [h]
theorem hC_id : hC σ (σ 45) (σ 46) = σ := by
  funext k
  unfold hC
  split
  · subst k; rfl
  · split
    · subst k; rfl
    · rfl
theorem RR.huntC (h : RR σ N) {f m : Nat → Int} : RR (hC σ f m) N := by
  have hn := h.n
  have := h.cg2 (σ1 := hC σ f m) (σ2 := σ) (N' := N) (by omega) (by omega) (fun k hk => hC_ne (by constructor <;> (rintro rfl; revert hk; decide))) (fun _ _ => rfl)
  have e : mix (hC σ f m) σ = hC σ f m := by
    funext k
    unfold mix
    split
    · rfl
    · rw [hC_ne (by omega)]
  rw [e] at this
  exact this
/-- the class's set of where one may go -/
theorem c_reachB {a : Int} {f m : Nat → Int} (h : RR σ N) (ha : 0 ≤ a ∧ a < σ 50 13) : ev 610 0 [qR 12, qI a] [] (hC σ f m) = some (some (qI (bset (h_B σ a.toNat) 6 : Nat)), hC σ f m) := by
  have hR := h.huntC (f := f) (m := m)
  obtain ⟨re, e1, e2, e3⟩ := c_reached (a := a) (f := (hC σ f m) 43) hR ha
  rw [tC_id] at e1
  rw [e1]
  have : re = bset (h_B σ a.toNat) 6 := by
    apply Nat.eq_of_testBit_eq
    intro i
    rw [bset_tb]
    by_cases hi : i < 6
    · rw [e3 i hi, decide_eq_true hi, Bool.true_and]
      unfold h_B
      rw [dec_iff (show (i : Int) = a ↔ i = a.toNat by omega)]
      rfl
    · rw [decide_eq_false hi, Bool.false_and]
      exact Nat.testBit_lt_two_pow (Nat.lt_of_lt_of_le e2 (by
        have := Nat.pow_le_pow_right (n := 2) (by omega) (show 6 ≤ i by omega)
        omega))
  rw [this]
theorem h_B_lt (h : RR σ N) {a x : Nat} (ha : (a : Int) < σ 50 13) (hb : h_B σ a x = true) : (x : Int) < σ 50 13 := by
  unfold h_B at hb
  rw [Bool.or_eq_true] at hb
  rcases hb with z | z
  · have := of_decide_eq_true z
    omega
  · exact (g_A_lt h z).2.1
/-- hers without escape -/
theorem c_escL {f m : Nat → Int} {w : Nat} (h : RR σ N) (hw : w < 64) : ∀ (k : Nat) (x : Int), 0 ≤ x → x + k = σ 50 13 → ev 104 4 [qR 44, qI (w : Int), qI (bset (fun s => ball (fun s' => !h_B σ s s' || w.testBit s') (σ 50 13).toNat) x.toNat : Nat), qI x] [] (hC σ f m) = some (some (qI (bset (fun s => ball (fun s' => !h_B σ s s' || w.testBit s') (σ 50 13).toNat) (σ 50 13).toNat : Nat)), hC σ f m)
  | 0, x, h0, hk => by
    have ht := h.t
    have e8 : hC σ f m 12 8 = σ 50 13 := by rw [hC_ne (by decide)]; omega
    have e : x = σ 50 13 := by omega
    rw [b104_4, e8, if_neg (by omega), b104_42, e]
  | k + 1, x, h0, hk => by
    have ht := h.t
    have e8 : hC σ f m 12 8 = σ 50 13 := by rw [hC_ne (by decide)]; omega
    have hR := bset_64 (p := h_B σ x.toNat) (n := 6) (by omega)
    obtain ⟨c, c1, c2, c3⟩ := q_andn (a := bset (h_B σ x.toNat) 6) (b := w) (by omega) (by omega)
    have hz : (c : Int) = 0 ↔ ball (fun s' => !h_B σ x.toNat s' || w.testBit s') (σ 50 13).toNat = true := by
      rw [ball_iff]
      constructor
      · intro z j hj
        have e : c = 0 := by omega
        have q := c3 j
        rw [e, Nat.zero_testBit, bset_tb, decide_eq_true (show j < 6 by omega), Bool.true_and] at q
        cases hb : h_B σ x.toNat j
        · rfl
        · rw [hb, Bool.true_and] at q
          cases hv : w.testBit j
          · rw [hv] at q; cases q
          · rfl
      · intro hall
        have e : c = 0 := by
          apply Nat.eq_of_testBit_eq
          intro j
          rw [Nat.zero_testBit, c3, bset_tb]
          by_cases hj : j < (σ 50 13).toNat
          · have q := hall j hj
            cases hb : h_B σ x.toNat j
            · simp
            · rw [hb] at q
              have : w.testBit j = true := by simpa using q
              rw [this]; simp
          · cases hb : h_B σ x.toNat j
            · simp
            · have := h_B_lt h (a := x.toNat) (by omega) hb
              omega
        omega
    rw [b104_4, e8, if_pos (by omega), b104_15, c_reachB h (by omega), Option.bind_some, q_push_some]
    dsimp only
    rw [b104_23, c1]
    by_cases hc : ball (fun s' => !h_B σ x.toNat s' || w.testBit s') (σ 50 13).toNat = true
    · rw [if_pos (hz.mpr hc), b104_30, b104_36 (by omega), bsI_yes (p := fun s => ball (fun s' => !h_B σ s s' || w.testBit s') (σ 50 13).toNat) (g := x) (by omega) hc]
      exact c_escL h hw k (x + 1) (by omega) (by omega)
    · rw [if_neg (fun z => hc (hz.mp z)), b104_36 (by omega), bsI_no (p := fun s => ball (fun s' => !h_B σ s s' || w.testBit s') (σ 50 13).toNat) (g := x) h0 hc]
      exact c_escL h hw k (x + 1) (by omega) (by omega)
theorem c_esc {f m : Nat → Int} {w : Nat} (h : RR σ N) (hw : w < 64) : ev 104 0 [qR 44, qI (w : Int), qU, qU] [] (hC σ f m) = some (some (qI (bset (fun s => ball (fun s' => !h_B σ s s' || w.testBit s') (σ 50 13).toNat) (σ 50 13).toNat : Nat)), hC σ f m) := by
  have ht := h.t
  rw [b104_0]
  exact c_escL h hw (σ 50 13).toNat 0 (by omega) (by omega)
/-- two rows of bits, each for a pair of houses -/
def h_row (σ : SS) (X : Nat → Nat → Nat → Bool) (f : Nat → Int) : Prop := ∀ a b : Nat, (a : Int) < σ 50 13 → (b : Int) < σ 50 13 → f (a * 6 + b) = ((bset (X a b) (σ 50 13).toNat : Nat) : Int)
/-- met by going to a certain house and any other -/
theorem c_goToL {f m : Nat → Int} {X : Nat → Nat → Nat → Bool} {a b : Nat} (h : RR σ N) (hm : h_row σ X m) (ha : (a : Int) < σ 50 13) (hb : (b : Int) < σ 50 13) : ∀ (k : Nat) (x : Int), 0 ≤ x → x + k = σ 50 13 → ev 107 15 [qR 44, qI (a : Int), qI (b : Int), qI (bset (h_B σ b) 6 : Nat), qI (bset (fun s => bany (fun b' => h_B σ b b' && X a b' s) x.toNat) (σ 50 13).toNat : Nat), qI x] [] (hC σ f m) = some (some (qI (bset (fun s => bany (fun b' => h_B σ b b' && X a b' s) (σ 50 13).toNat) (σ 50 13).toNat : Nat)), hC σ f m)
  | 0, x, h0, hk => by
    have ht := h.t
    have e8 : hC σ f m 12 8 = σ 50 13 := by rw [hC_ne (by decide)]; omega
    have e : x = σ 50 13 := by omega
    rw [b107_15, e8, if_neg (by omega), b107_59, e]
  | k + 1, x, h0, hk => by
    have ht := h.t
    have e8 : hC σ f m 12 8 = σ 50 13 := by rw [hC_ne (by decide)]; omega
    have hR := bset_64 (p := h_B σ b) (n := 6) (by omega)
    have ih := c_goToL (f := f) h hm ha hb k (x + 1) (by omega) (by omega)
    rw [show (x + 1).toNat = x.toNat + 1 by omega] at ih
    rw [b107_15, e8, if_pos (by omega), b107_27, c_has (by omega), decide_eq_true h0, Bool.true_and, Int.toNat_natCast, bset_tb, decide_eq_true (show x.toNat < 6 by omega), Bool.true_and, Option.bind_some, q_push_some]
    dsimp only
    cases hB : h_B σ b x.toNat
    · have e : bset (fun s => bany (fun b' => h_B σ b b' && X a b' s) (x.toNat + 1)) (σ 50 13).toNat = bset (fun s => bany (fun b' => h_B σ b b' && X a b' s) x.toNat) (σ 50 13).toNat := by
        apply bset_congr
        intro s _
        rw [bany, hB, Bool.false_and, Bool.or_false]
      rw [e] at ih
      rw [b107_33, if_pos b01_f, b107_53 (by omega)]
      exact ih
    · have e46 : hC σ f m 46 ((a : Int) * 6 + x).toNat = ((bset (X a x.toNat) (σ 50 13).toNat : Nat) : Int) := by
        show m _ = _
        rw [show ((a : Int) * 6 + x).toNat = a * 6 + x.toNat by omega]
        exact hm a x.toNat ha (by omega)
      have e : q_or (bset (fun s => bany (fun b' => h_B σ b b' && X a b' s) x.toNat) (σ 50 13).toNat : Nat) (bset (X a x.toNat) (σ 50 13).toNat : Nat) = ((bset (fun s => bany (fun b' => h_B σ b b' && X a b' s) (x.toNat + 1)) (σ 50 13).toNat : Nat) : Int) := by
        rw [q_or_nat (bset_31 (by omega)) (bset_31 (by omega))]
        congr 1
        apply Nat.eq_of_testBit_eq
        intro i
        rw [Nat.testBit_or, bset_tb, bset_tb, bset_tb, bany, hB, Bool.true_and]
        cases decide (i < (σ 50 13).toNat) <;> simp
      rw [b107_33, if_neg (by decide), b107_36 (by omega), e46, e, b107_53 (by omega)]
      exact ih
theorem c_goTo {f m : Nat → Int} {X : Nat → Nat → Nat → Bool} {a b : Nat} (h : RR σ N) (hm : h_row σ X m) (ha : (a : Int) < σ 50 13) (hb : (b : Int) < σ 50 13) : ev 107 0 [qR 44, qI (a : Int), qI (b : Int), qU, qU, qU] [] (hC σ f m) = some (some (qI (bset (fun s => bany (fun b' => h_B σ b b' && X a b' s) (σ 50 13).toNat) (σ 50 13).toNat : Nat)), hC σ f m) := by
  have ht := h.t
  have e := c_reachB (a := (b : Int)) (f := f) (m := m) h (by omega)
  rw [Int.toNat_natCast] at e
  have e0 : bset (fun s => bany (fun b' => h_B σ b b' && X a b' s) (0 : Int).toNat) (σ 50 13).toNat = 0 := by
    have : ∀ n, bset (fun _ => false) n = 0 := by
      intro n
      induction n with
      | zero => rfl
      | succ n ih => unfold bset; rw [if_neg (by decide), ih]
    exact Eq.trans (bset_congr (fun i _ => rfl)) (this _)
  have q := c_goToL (f := f) h hm ha hb (σ 50 13).toNat 0 (by omega) (by omega)
  rw [e0] at q
  rw [b107_0, e, Option.bind_some, q_push_some]
  dsimp only
  rw [b107_8]
  exact q
theorem bset_f (n : Nat) : bset (fun _ => false) n = 0 := by
  induction n with
  | zero => rfl
  | succ n ih => unfold bset; rw [if_neg (by decide), ih]
/-- what one turn of theirs meets -/
def h_go (n : Nat) (B : Nat → Nat → Bool) (tg : Bool) (X : Nat → Nat → Nat → Bool) (a b s : Nat) : Nat → Bool := fun k => bany (fun a' => B a a' && (if tg then X a' a' s else bany (fun b' => B b b' && X a' b' s) n)) k
theorem c_goL {f m : Nat → Int} {X : Nat → Nat → Nat → Bool} {a b : Nat} {tg : Bool} (h : RR σ N) (hm : h_row σ X m) (ha : (a : Int) < σ 50 13) (hb : (b : Int) < σ 50 13) : ∀ (k : Nat) (x : Int), 0 ≤ x → x + k = σ 50 13 → ev 106 6 [qR 44, qI (a : Int), qI (b : Int), qI (b01 tg), qI (bset (fun s => h_go (σ 50 13).toNat (h_B σ) tg X a b s x.toNat) (σ 50 13).toNat : Nat), qI x] [] (hC σ f m) = some (some (qI (bset (fun s => h_go (σ 50 13).toNat (h_B σ) tg X a b s (σ 50 13).toNat) (σ 50 13).toNat : Nat)), hC σ f m)
  | 0, x, h0, hk => by
    have ht := h.t
    have e8 : hC σ f m 12 8 = σ 50 13 := by rw [hC_ne (by decide)]; omega
    have e : x = σ 50 13 := by omega
    rw [b106_6, e8, if_neg (by omega), b106_72, e]
  | k + 1, x, h0, hk => by
    have ht := h.t
    have e8 : hC σ f m 12 8 = σ 50 13 := by rw [hC_ne (by decide)]; omega
    have hR := bset_64 (p := h_B σ a) (n := 6) (by omega)
    have er := c_reachB (a := (a : Int)) (f := f) (m := m) h (by omega)
    rw [Int.toNat_natCast] at er
    have ih := c_goL (f := f) (tg := tg) h hm ha hb k (x + 1) (by omega) (by omega)
    rw [show (x + 1).toNat = x.toNat + 1 by omega] at ih
    rw [b106_6, e8, if_pos (by omega), b106_18, er, Option.bind_some, q_push_some]
    dsimp only
    rw [b106_26, c_has (by omega), decide_eq_true h0, Bool.true_and, Int.toNat_natCast, bset_tb, decide_eq_true (show x.toNat < 6 by omega), Bool.true_and, Option.bind_some, q_push_some]
    dsimp only
    cases hB : h_B σ a x.toNat
    · have e : bset (fun s => h_go (σ 50 13).toNat (h_B σ) tg X a b s (x.toNat + 1)) (σ 50 13).toNat = bset (fun s => h_go (σ 50 13).toNat (h_B σ) tg X a b s x.toNat) (σ 50 13).toNat := by
        apply bset_congr
        intro s _
        unfold h_go
        rw [bany, hB, Bool.false_and, Bool.or_false]
      rw [e] at ih
      rw [b106_31, if_pos b01_f, b106_66 (by omega)]
      exact ih
    · have key : ∀ Y : Nat → Bool, (∀ s, Y s = (if tg then X x.toNat x.toNat s else bany (fun b' => h_B σ b b' && X x.toNat b' s) (σ 50 13).toNat)) → q_or (bset (fun s => h_go (σ 50 13).toNat (h_B σ) tg X a b s x.toNat) (σ 50 13).toNat : Nat) (bset Y (σ 50 13).toNat : Nat) = ((bset (fun s => h_go (σ 50 13).toNat (h_B σ) tg X a b s (x.toNat + 1)) (σ 50 13).toNat : Nat) : Int) := by
        intro Y hY
        rw [q_or_nat (bset_31 (by omega)) (bset_31 (by omega))]
        congr 1
        apply Nat.eq_of_testBit_eq
        intro i
        rw [Nat.testBit_or, bset_tb, bset_tb, bset_tb, hY]
        unfold h_go
        rw [bany, hB, Bool.true_and]
        cases decide (i < (σ 50 13).toNat) <;> simp
      rw [b106_31, if_neg (by decide), b106_34]
      cases tg
      · have q := c_goTo (f := f) (a := x.toNat) (b := b) h hm (by omega) hb
        rw [show ((x.toNat : Nat) : Int) = x by omega] at q
        rw [if_pos b01_f, b106_56, q, Option.bind_some, q_push_some]
        dsimp only
        rw [b106_63, key (fun s => bany (fun b' => h_B σ b b' && X x.toNat b' s) (σ 50 13).toNat) (fun s => by rw [if_neg (by decide)]), b106_66 (by omega)]
        exact ih
      · have e46 : hC σ f m 46 (x * 6 + x).toNat = ((bset (X x.toNat x.toNat) (σ 50 13).toNat : Nat) : Int) := by
          show m _ = _
          rw [show (x * 6 + x).toNat = x.toNat * 6 + x.toNat by omega]
          exact hm x.toNat x.toNat (by omega) (by omega)
        rw [if_neg (by decide), b106_40 (by omega), e46, b106_63, key (X x.toNat x.toNat) (fun s => by rw [if_pos rfl]), b106_66 (by omega)]
        exact ih
theorem c_go {f m : Nat → Int} {X : Nat → Nat → Nat → Bool} {a b : Nat} {tg : Bool} (h : RR σ N) (hm : h_row σ X m) (ha : (a : Int) < σ 50 13) (hb : (b : Int) < σ 50 13) : ev 106 0 [qR 44, qI (a : Int), qI (b : Int), qI (b01 tg), qU, qU] [] (hC σ f m) = some (some (qI (bset (fun s => h_go (σ 50 13).toNat (h_B σ) tg X a b s (σ 50 13).toNat) (σ 50 13).toNat : Nat)), hC σ f m) := by
  have ht := h.t
  have e0 : bset (fun s => h_go (σ 50 13).toNat (h_B σ) tg X a b s (0 : Int).toNat) (σ 50 13).toNat = 0 := Eq.trans (bset_congr (fun i _ => rfl)) (bset_f _)
  have q := c_goL (f := f) (tg := tg) h hm ha hb (σ 50 13).toNat 0 (by omega) (by omega)
  rw [e0] at q
  rw [b106_0]
  exact q
end O19
