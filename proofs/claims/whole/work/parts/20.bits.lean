/-! ===== PURE: sets as bits, small words ===== -/
theorem nn_tn {n : Nat} (h : n < 2147483648) : (i32 (n : Int)).toBitVec.toNat = n := by
  rw [i32_nat (by omega), Int.toNat_natCast]
  exact pk_tn (by omega)
theorem i32_natC (n : Nat) : i32 (n : Int) = nI n := by rw [i32_nat (by omega), Int.toNat_natCast]
theorem q_or_nat {a b : Nat} (ha : a < 2147483648) (hb : b < 2147483648) : q_or (a : Int) (b : Int) = ((a ||| b : Nat) : Int) := by
  unfold q_or
  rw [i32_natC, i32_natC]
  have h : nI a ||| nI b = nI (a ||| b) := by
    apply Int32.toBitVec_inj.mp
    rw [Int32.toBitVec_or]
    apply BitVec.eq_of_toNat_eq
    rw [BitVec.toNat_or, pk_tn (by omega), pk_tn (by omega), pk_tn (Nat.lt_of_lt_of_le (Nat.or_lt_two_pow (n := 31) (by omega) (by omega)) (by decide))]
  rw [h, nI_toI (Nat.or_lt_two_pow (n := 31) (by omega) (by omega))]
theorem q_and_nat {a b : Nat} (ha : a < 2147483648) (hb : b < 2147483648) : q_and (a : Int) (b : Int) = ((a &&& b : Nat) : Int) := by
  unfold q_and
  rw [i32_natC, i32_natC]
  have hlt : a &&& b < 2147483648 := Nat.lt_of_le_of_lt Nat.and_le_left ha
  have h : nI a &&& nI b = nI (a &&& b) := by
    apply Int32.toBitVec_inj.mp
    rw [Int32.toBitVec_and]
    apply BitVec.eq_of_toNat_eq
    rw [BitVec.toNat_and, pk_tn (by omega), pk_tn (by omega), pk_tn (by omega)]
  rw [h, nI_toI hlt]
theorem q_xor_nat {a b : Nat} (ha : a < 2147483648) (hb : b < 2147483648) : q_xor (a : Int) (b : Int) = ((a ^^^ b : Nat) : Int) := by
  unfold q_xor
  rw [i32_natC, i32_natC]
  have hlt : a ^^^ b < 2147483648 := Nat.xor_lt_two_pow (n := 31) (by omega) (by omega)
  have h : nI a ^^^ nI b = nI (a ^^^ b) := by
    apply Int32.toBitVec_inj.mp
    rw [Int32.toBitVec_xor]
    apply BitVec.eq_of_toNat_eq
    rw [BitVec.toNat_xor, pk_tn (by omega), pk_tn (by omega), pk_tn (by omega)]
  rw [h, nI_toI hlt]
theorem sh_amt : ∀ k, k < 32 → ((nI k &&& 31).toBitVec.smod 32).toNat = k := by decide +kernel
theorem q_shl1 {k : Nat} (hk : k < 31) : q_shl 1 (k : Int) = ((2 ^ k : Nat) : Int) := by
  unfold q_shl
  have e1 : i32 1 = nI 1 := by decide
  have hp : 2 ^ k < 2147483648 := by
    have := Nat.pow_lt_pow_right (a := 2) (by omega) hk
    omega
  rw [i32_natC, e1, pk_shlN (n := 1) (nI k &&& 31) k (sh_amt k (by omega)) (by omega), Nat.one_mul, nI_toI hp]
theorem q_shl0 {k : Nat} (hk : k < 31) : q_shl 0 (k : Int) = 0 := by
  unfold q_shl
  have e1 : i32 0 = nI 0 := by decide
  rw [i32_natC, e1, pk_shlN (n := 0) (nI k &&& 31) k (sh_amt k (by omega)) (by omega), Nat.zero_mul]
  decide
theorem q_shr_nat {s k : Nat} (hs : s < 2147483648) (hk : k < 32) : q_shr (s : Int) (k : Int) = ((s / 2 ^ k : Nat) : Int) := by
  unfold q_shr
  rw [i32_natC, i32_natC, pk_shrN (by omega) (nI k &&& 31) k (sh_amt k hk), nI_toI (Nat.lt_of_le_of_lt (Nat.div_le_self _ _) hs)]
theorem q_bit {s k : Nat} (hs : s < 2147483648) (hk : k < 32) : q_and (q_shr (s : Int) (k : Int)) 1 = if s.testBit k then 1 else 0 := by
  rw [q_shr_nat hs hk]
  have e : (1 : Int) = ((1 : Nat) : Int) := rfl
  rw [e, q_and_nat (Nat.lt_of_le_of_lt (Nat.div_le_self _ _) hs) (by omega), Nat.and_one_is_mod, Nat.testBit_eq_decide_div_mod_eq]
  rcases Nat.mod_two_eq_zero_or_one (s / 2 ^ k) with h | h
  · rw [h]; rfl
  · rw [h]; rfl
/-- a & ~b -/
theorem q_andn {a b : Nat} (ha : a < 2147483648) (hb : b < 2147483648) : ∃ c : Nat, q_and (a : Int) (q_xor (b : Int) (-1)) = (c : Int) ∧ c < 2147483648 ∧ ∀ i, c.testBit i = (a.testBit i && !b.testBit i) := by
  have e1 : i32 (q_xor (b : Int) (-1)) = nI b ^^^ (-1) := by
    unfold q_xor
    rw [i32_toInt, i32_natC]
    rfl
  have hbv : (nI a &&& (nI b ^^^ (-1))).toBitVec.toNat = ((BitVec.ofNat 32 a) &&& ((BitVec.ofNat 32 b) ^^^ BitVec.allOnes 32)).toNat := by
    rw [Int32.toBitVec_and, Int32.toBitVec_xor]
    rfl
  refine ⟨(nI a &&& (nI b ^^^ (-1))).toBitVec.toNat, ?_, ?_, fun i => ?_⟩
  · unfold q_and
    rw [e1, i32_natC]
    have hlt : (nI a &&& (nI b ^^^ (-1))).toBitVec.toNat < 2147483648 := by
      rw [Int32.toBitVec_and, BitVec.toNat_and, pk_tn (by omega)]
      exact Nat.lt_of_le_of_lt Nat.and_le_left ha
    rw [Int32.toInt, BitVec.toInt_eq_toNat_of_lt (by omega)]
  · rw [Int32.toBitVec_and, BitVec.toNat_and, pk_tn (by omega)]
    exact Nat.lt_of_le_of_lt Nat.and_le_left ha
  · rw [hbv]
    by_cases hi : i < 32
    · rw [BitVec.testBit_toNat, BitVec.getLsbD_and, BitVec.getLsbD_xor, BitVec.getLsbD_allOnes, BitVec.getLsbD_ofNat, BitVec.getLsbD_ofNat]
      simp [hi]
    · rw [BitVec.testBit_toNat, BitVec.getLsbD_of_ge _ _ (by omega)]
      have : a.testBit i = false := Nat.testBit_lt_two_pow (Nat.lt_of_lt_of_le ha (by
        have := Nat.pow_le_pow_right (n := 2) (by omega) (show 31 ≤ i by omega)
        omega))
      rw [this]
      rfl
/-- the set of those below n for which p holds -/
def bset (p : Nat → Bool) : Nat → Nat
  | 0 => 0
  | n + 1 => if p n then bset p n ||| 2 ^ n else bset p n
theorem bset_lt (p : Nat → Bool) : ∀ n, bset p n < 2 ^ n
  | 0 => by simp [bset]
  | n + 1 => by
    have h := bset_lt p n
    have h2 : 2 ^ n < 2 ^ (n + 1) := Nat.pow_lt_pow_right (by omega) (by omega)
    unfold bset
    split
    · exact Nat.or_lt_two_pow (Nat.lt_trans h h2) h2
    · exact Nat.lt_trans h h2
theorem bset_tb (p : Nat → Bool) : ∀ n i, (bset p n).testBit i = (decide (i < n) && p i)
  | 0, i => by simp [bset]
  | n + 1, i => by
    have h := bset_tb p n i
    unfold bset
    by_cases hp : p n = true
    · rw [if_pos hp, Nat.testBit_or, h, Nat.testBit_two_pow]
      by_cases hi : i = n
      · subst hi; simp [hp]
      · have : ¬ n = i := fun z => hi z.symm
        by_cases hlt : i < n
        · have : i < n + 1 := by omega
          simp [*]
        · have : ¬ i < n + 1 := by omega
          simp [*]
    · rw [if_neg hp, h]
      by_cases hi : i = n
      · subst hi; simp [hp]
      · by_cases hlt : i < n
        · have : i < n + 1 := by omega
          simp [*]
        · have : ¬ i < n + 1 := by omega
          simp [*]
theorem bset_congr {p q : Nat → Bool} : ∀ {n : Nat}, (∀ i, i < n → p i = q i) → bset p n = bset q n
  | 0, _ => rfl
  | n + 1, h => by
    unfold bset
    rw [bset_congr (fun i hi => h i (by omega)), h n (by omega)]
theorem bset_31 {p : Nat → Bool} {n : Nat} (hn : n ≤ 31) : bset p n < 2147483648 := by
  have := bset_lt p n
  have h2 := Nat.pow_le_pow_right (n := 2) (by omega) hn
  omega
/-- set |= 1 << n -/
theorem bset_yes {p : Nat → Bool} {n : Nat} (hn : n < 31) (hp : p n = true) : q_or (bset p n : Int) (q_shl 1 (n : Int)) = (bset p (n + 1) : Int) := by
  have h2 : 2 ^ n < 2147483648 := by
    have := Nat.pow_lt_pow_right (a := 2) (by omega) hn
    omega
  rw [q_shl1 hn, q_or_nat (bset_31 (by omega)) h2, bset, if_pos hp]
theorem bset_no {p : Nat → Bool} {n : Nat} (hp : ¬ p n = true) : (bset p n : Int) = (bset p (n + 1) : Int) := by
  rw [bset, if_neg hp]
theorem q_or_0 {a : Nat} (ha : a < 2147483648) : q_or (a : Int) 0 = (a : Int) := by
  have e : (0 : Int) = ((0 : Nat) : Int) := rfl
  rw [e, q_or_nat ha (by omega), Nat.or_zero]
/-- set |= one(c) << n -/
theorem bset_one {p : Nat → Bool} {n : Nat} (hn : n < 31) {z : Int} (hz : z = if p n then 1 else 0) : q_or (bset p n : Int) (q_shl z (n : Int)) = (bset p (n + 1) : Int) := by
  by_cases hp : p n = true
  · rw [hz, if_pos hp]; exact bset_yes hn hp
  · rw [hz, if_neg hp, q_shl0 hn, q_or_0 (bset_31 (by omega))]; exact bset_no hp
/-- how many -/
def bcnt (p : Nat → Bool) : Nat → Nat
  | 0 => 0
  | n + 1 => bcnt p n + if p n then 1 else 0
theorem bcnt_le (p : Nat → Bool) : ∀ n, bcnt p n ≤ n
  | 0 => Nat.le_refl _
  | n + 1 => by
    have := bcnt_le p n
    unfold bcnt
    split <;> omega
theorem bcnt_congr {p q : Nat → Bool} : ∀ {n : Nat}, (∀ i, i < n → p i = q i) → bcnt p n = bcnt q n
  | 0, _ => rfl
  | n + 1, h => by
    unfold bcnt
    rw [bcnt_congr (fun i hi => h i (by omega)), h n (by omega)]
def b01 (b : Bool) : Int := if b then 1 else 0
theorem b01_t : b01 true = 1 := rfl
theorem b01_f : b01 false = 0 := rfl
theorem b01_or (b : Bool) : b01 b = 0 ∨ b01 b = 1 := by cases b <;> simp [b01]
theorem b01_eq0 (b : Bool) : b01 b = 0 ↔ b = false := by cases b <;> simp [b01]
theorem b01_eq1 (b : Bool) : b01 b = 1 ↔ b = true := by cases b <;> simp [b01]
theorem b01_rng (b : Bool) : 0 ≤ b01 b ∧ b01 b ≤ 1 := by cases b <;> simp [b01]
theorem b01_inj {a b : Bool} : b01 a = b01 b ↔ a = b := by cases a <;> cases b <;> simp [b01]
theorem one_ne0 : ((1 : Int) = 0) = False := by simp
theorem zero_eq0 : ((0 : Int) = 0) = True := by simp
theorem rI {a b : Int} {σ : SS} (h : a = b) : (some (some (qI a), σ) : Option (Option AV × SS)) = some (some (qI b), σ) := by rw [h]
theorem rB {a b : Bool} {σ : SS} (h : a = b) : (some (some (qI (b01 a)), σ) : Option (Option AV × SS)) = some (some (qI (b01 b)), σ) := by rw [h]
