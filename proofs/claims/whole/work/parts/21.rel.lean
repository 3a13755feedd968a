/-! ===== THE RELATION between the class's cells and the model's ===== -/
def R_T (σ : SS) : Prop :=
  (σ 12 8 = σ 50 13 ∧ σ 12 9 = σ 50 15 ∧ σ 12 10 = σ 50 14 ∧ σ 12 11 = σ 53 0 ∧ σ 12 12 = σ 53 1 ∧ σ 12 13 = σ 53 2 ∧ σ 12 14 = σ 50 3 ∧ σ 12 15 = σ 50 16) ∧
  (0 ≤ σ 50 13 ∧ σ 50 13 ≤ 6 ∧ 0 ≤ σ 50 14 ∧ σ 50 14 ≤ 6 ∧ (0 < σ 50 14 → 0 < σ 50 13) ∧ 0 ≤ σ 50 15 ∧ σ 50 15 ≤ 9 ∧ 1 ≤ σ 53 0 ∧ σ 53 0 ≤ 99 ∧ 0 ≤ σ 53 1 ∧ σ 53 1 ≤ 9 ∧ 0 ≤ σ 53 2 ∧ σ 53 2 ≤ 99 ∧ 0 ≤ σ 50 3 ∧ σ 50 3 ≤ 23 ∧ 0 ≤ σ 50 16 ∧ σ 50 16 ≤ 5 ∧ (0 < σ 50 14 → σ 50 16 < σ 50 14) ∧ (σ 50 14 = 0 → σ 50 16 = 0)) ∧
  (∀ h : Nat, (h : Int) < σ 50 13 → σ 13 h = σ 54 h ∧ σ 14 h = σ 55 h ∧ 0 ≤ σ 54 h ∧ σ 54 h ≤ 9 ∧ 0 ≤ σ 55 h ∧ σ 55 h < 64) ∧
  (∀ h q : Nat, (h : Int) < σ 50 13 → (σ 55 h).toNat.testBit q = true → (q : Int) < σ 50 13 ∧ q ≠ h ∧ (σ 55 q).toNat.testBit h = true) ∧
  (∀ g : Nat, (g : Int) < σ 50 14 → σ 16 g = σ 57 g ∧ σ 17 g = σ 58 g ∧ σ 18 g = σ 59 g ∧ σ 20 g = σ 61 g ∧ 1 ≤ σ 57 g ∧ σ 57 g ≤ 99 ∧ 0 ≤ σ 58 g ∧ σ 58 g ≤ 9 ∧ 0 ≤ σ 59 g ∧ σ 59 g ≤ 8 ∧ 1 ≤ σ 61 g ∧ σ 61 g ≤ 6 ∧ ∀ i : Nat, (i : Int) < σ 61 g → σ 19 (6 * g + i) = σ 60 (6 * g + i) ∧ 0 ≤ σ 60 (6 * g + i) ∧ σ 60 (6 * g + i) ≤ 2)
def R_N (σ : SS) (N : Int) (c b : Nat) : Prop :=
  (σ c 3 = σ 51 (b + 21) ∧ σ c 4 = σ 51 (b + 22) ∧ σ c 5 = σ 51 (b + 18) ∧ σ c 6 = σ 51 (b + 19) ∧ σ c 7 = σ 51 (b + 20) ∧ σ c 8 = σ 51 (b + 23)) ∧
  (0 ≤ σ 51 (b + 21) ∧ σ 51 (b + 21) ≤ N ∧ 0 ≤ σ 51 (b + 22) ∧ σ 51 (b + 22) ≤ 5 ∧ (0 < σ 50 13 → σ 51 (b + 22) < σ 50 13) ∧ (σ 50 13 = 0 → σ 51 (b + 22) = 0) ∧ 0 ≤ σ 51 (b + 18) ∧ σ 51 (b + 18) < 64 ∧ 0 ≤ σ 51 (b + 19) ∧ σ 51 (b + 19) ≤ 1 ∧ 0 ≤ σ 51 (b + 20) ∧ σ 51 (b + 20) ≤ 9999 ∧ 0 ≤ σ 51 (b + 23) ∧ σ 51 (b + 23) ≤ 2147483647) ∧
  (∀ g : Nat, (g : Int) < σ 50 14 → σ (c + 1) g = σ 51 (b + g) ∧ 0 ≤ σ 51 (b + g) ∧ σ 51 (b + g) < σ 50 13 ∧ σ (c + 2) g = σ 51 (b + 6 + g) ∧ 0 ≤ σ 51 (b + 6 + g) ∧ σ 51 (b + 6 + g) ≤ 5 ∧ ((σ (c + 3) g = σ 51 (b + 12 + g) ∧ 0 ≤ σ 51 (b + 12 + g) ∧ σ 51 (b + 12 + g) ≤ σ 51 (b + 21)) ∨ (σ (c + 3) g = -1000 ∧ σ 51 (b + 12 + g) = -100)))
def R_K (σ : SS) (N : Int) : Prop :=
  (σ 0 5 = 0 ∨ σ 0 5 = 1 ∨ σ 0 5 = 2 ∨ σ 0 5 = 3) ∧ (σ 52 0 = 0 ∨ σ 52 0 = 1) ∧ (σ 52 1 = 0 ∨ σ 52 1 = 1) ∧ σ 0 5 = σ 52 0 + 2 * σ 52 1 ∧ (σ 52 0 = 1 → R_N σ N 26 32) ∧ (σ 52 1 = 1 → R_N σ N 30 64)
def R_B (σ : SS) : Prop :=
  (σ 35 2 = σ 50 35 ∧ σ 35 4 = σ 50 37 ∧ σ 35 8 = σ 50 41 ∧ 0 ≤ σ 50 35 ∧ σ 50 35 ≤ 20 ∧ 0 ≤ σ 50 37 ∧ σ 50 37 ≤ 12 ∧ 0 ≤ σ 50 41 ∧ σ 50 41 ≤ 30) ∧
  (∀ i : Nat, (i : Int) < σ 50 35 → σ 36 i = σ 66 i ∧ σ 37 i = σ 67 i ∧ 0 ≤ σ 66 i ∧ σ 66 i ≤ 23 ∧ (σ 67 i = 0 ∨ σ 67 i = 1)) ∧
  (∀ i : Nat, (i : Int) < σ 50 37 → σ 38 i = σ 68 i ∧ 0 ≤ σ 68 i ∧ σ 68 i ≤ 2) ∧
  (∀ i : Nat, (i : Int) < σ 50 41 → σ 39 i = σ 69 i ∧ σ 40 i = σ 70 i ∧ σ 41 i = σ 71 i ∧ 0 ≤ σ 69 i ∧ σ 69 i ≤ 99999 ∧ 0 ≤ σ 70 i ∧ σ 70 i < σ 50 14 ∧ (σ 71 i = 0 ∨ σ 71 i = 1))
def R_X (σ : SS) : Prop :=
  (σ 1 1 = σ 50 24 ∧ σ 1 3 = σ 50 29 ∧ 0 ≤ σ 50 24 ∧ σ 50 24 ≤ 300) ∧ (∀ i : Nat, (i : Int) < σ 50 24 → σ 2 i = σ 62 i ∧ 0 ≤ σ 62 i ∧ σ 62 i ≤ 255)
def RR (σ : SS) (N : Int) : Prop := R_T σ ∧ R_N σ N 21 0 ∧ R_K σ N ∧ R_B σ ∧ R_X σ ∧ 0 ≤ N ∧ N ≤ 100000
/-- the numbers of the list -/
theorem RR.t {σ : SS} {N : Int} (h : RR σ N) : σ 12 8 = σ 50 13 ∧ σ 12 9 = σ 50 15 ∧ σ 12 10 = σ 50 14 ∧ σ 12 11 = σ 53 0 ∧ σ 12 12 = σ 53 1 ∧ σ 12 13 = σ 53 2 ∧ σ 12 14 = σ 50 3 ∧ σ 12 15 = σ 50 16 ∧ 0 ≤ σ 50 13 ∧ σ 50 13 ≤ 6 ∧ 0 ≤ σ 50 14 ∧ σ 50 14 ≤ 6 ∧ (0 < σ 50 14 → 0 < σ 50 13) ∧ 0 ≤ σ 50 15 ∧ σ 50 15 ≤ 9 ∧ 1 ≤ σ 53 0 ∧ σ 53 0 ≤ 99 ∧ 0 ≤ σ 53 1 ∧ σ 53 1 ≤ 9 ∧ 0 ≤ σ 53 2 ∧ σ 53 2 ≤ 99 ∧ 0 ≤ σ 50 3 ∧ σ 50 3 ≤ 23 ∧ 0 ≤ σ 50 16 ∧ σ 50 16 ≤ 5 ∧ (0 < σ 50 14 → σ 50 16 < σ 50 14) ∧ (σ 50 14 = 0 → σ 50 16 = 0) := by
  obtain ⟨⟨h1, h2, -⟩, -⟩ := h
  exact ⟨h1.1, h1.2.1, h1.2.2.1, h1.2.2.2.1, h1.2.2.2.2.1, h1.2.2.2.2.2.1, h1.2.2.2.2.2.2.1, h1.2.2.2.2.2.2.2, h2⟩
/-- the night's numbers -/
theorem RR.n {σ : SS} {N : Int} (h : RR σ N) : σ 21 3 = σ 51 21 ∧ σ 21 4 = σ 51 22 ∧ σ 21 5 = σ 51 18 ∧ σ 21 6 = σ 51 19 ∧ σ 21 7 = σ 51 20 ∧ σ 21 8 = σ 51 23 ∧ 0 ≤ σ 51 21 ∧ σ 51 21 ≤ N ∧ 0 ≤ σ 51 22 ∧ σ 51 22 ≤ 5 ∧ (0 < σ 50 13 → σ 51 22 < σ 50 13) ∧ (σ 50 13 = 0 → σ 51 22 = 0) ∧ 0 ≤ σ 51 18 ∧ σ 51 18 < 64 ∧ 0 ≤ σ 51 19 ∧ σ 51 19 ≤ 1 ∧ 0 ≤ σ 51 20 ∧ σ 51 20 ≤ 9999 ∧ 0 ≤ σ 51 23 ∧ σ 51 23 ≤ 2147483647 ∧ 0 ≤ N ∧ N ≤ 100000 := by
  obtain ⟨-, ⟨h1, h2, -⟩, -, -, -, hN⟩ := h
  simp only [Nat.zero_add] at h1 h2
  obtain ⟨a1, a2, a3, a4, a5, a6⟩ := h1
  obtain ⟨b1, b2, b3, b4, b5, b6, b7, b8, b9, b10, b11, b12, b13, b14⟩ := h2
  exact ⟨a1, a2, a3, a4, a5, a6, b1, b2, b3, b4, b5, b6, b7, b8, b9, b10, b11, b12, b13, b14, hN⟩
/-- the book's numbers -/
theorem RR.b {σ : SS} {N : Int} (h : RR σ N) : σ 35 2 = σ 50 35 ∧ σ 35 4 = σ 50 37 ∧ σ 35 8 = σ 50 41 ∧ 0 ≤ σ 50 35 ∧ σ 50 35 ≤ 20 ∧ 0 ≤ σ 50 37 ∧ σ 50 37 ≤ 12 ∧ 0 ≤ σ 50 41 ∧ σ 50 41 ≤ 30 ∧ σ 1 1 = σ 50 24 ∧ σ 1 3 = σ 50 29 ∧ 0 ≤ σ 50 24 ∧ σ 50 24 ≤ 300 := by
  obtain ⟨-, -, -, ⟨⟨a1, a2, a3, a4, a5, a6, a7, a8, a9⟩, -⟩, ⟨b1, -⟩, -⟩ := h
  exact ⟨a1, a2, a3, a4, a5, a6, a7, a8, a9, b1⟩
/-- a house -/
theorem RR.h {σ : SS} {N : Int} (h : RR σ N) {x : Int} (h0 : 0 ≤ x) (h1 : x < σ 50 13) : σ 13 x.toNat = σ 54 x.toNat ∧ σ 14 x.toNat = σ 55 x.toNat ∧ 0 ≤ σ 54 x.toNat ∧ σ 54 x.toNat ≤ 9 ∧ 0 ≤ σ 55 x.toNat ∧ σ 55 x.toNat < 64 := h.1.2.2.1 x.toNat (by omega)
/-- a girl -/
theorem RR.g {σ : SS} {N : Int} (h : RR σ N) {x : Int} (h0 : 0 ≤ x) (h1 : x < σ 50 14) : σ 16 x.toNat = σ 57 x.toNat ∧ σ 17 x.toNat = σ 58 x.toNat ∧ σ 18 x.toNat = σ 59 x.toNat ∧ σ 20 x.toNat = σ 61 x.toNat ∧ 1 ≤ σ 57 x.toNat ∧ σ 57 x.toNat ≤ 99 ∧ 0 ≤ σ 58 x.toNat ∧ σ 58 x.toNat ≤ 9 ∧ 0 ≤ σ 59 x.toNat ∧ σ 59 x.toNat ≤ 8 ∧ 1 ≤ σ 61 x.toNat ∧ σ 61 x.toNat ≤ 6 ∧
    σ 22 x.toNat = σ 51 x.toNat ∧ 0 ≤ σ 51 x.toNat ∧ σ 51 x.toNat < σ 50 13 ∧ σ 23 x.toNat = σ 51 (6 + x).toNat ∧ 0 ≤ σ 51 (6 + x).toNat ∧ σ 51 (6 + x).toNat ≤ 5 ∧ ((σ 24 x.toNat = σ 51 (12 + x).toNat ∧ 0 ≤ σ 51 (12 + x).toNat ∧ σ 51 (12 + x).toNat ≤ σ 51 21) ∨ (σ 24 x.toNat = -1000 ∧ σ 51 (12 + x).toNat = -100)) ∧
    σ 13 (σ 51 x.toNat).toNat = σ 54 (σ 51 x.toNat).toNat ∧ 0 ≤ σ 54 (σ 51 x.toNat).toNat ∧ σ 54 (σ 51 x.toNat).toNat ≤ 9 ∧ x < 6 ∧ σ 51 x.toNat < 6 := by
  have ht := h.t
  obtain ⟨a1, a2, a3, a4, a5, a6, a7, a8, a9, a10, a11, a12, -⟩ := h.1.2.2.2.2 x.toNat (by omega)
  obtain ⟨b1, b2, b3, b4, b5, b6, b7⟩ := h.2.1.2.2 x.toNat (by omega)
  simp only [Nat.zero_add] at b1 b2 b3 b4 b5 b6 b7
  have e6 : (6 + x).toNat = 6 + x.toNat := by omega
  have e12 : (12 + x).toNat = 12 + x.toNat := by omega
  obtain ⟨c1, -, c3, c4, -⟩ := h.h b2 b3
  rw [e6, e12]
  exact ⟨a1, a2, a3, a4, a5, a6, a7, a8, a9, a10, a11, a12, b1, b2, b3, b4, b5, b6, b7, c1, c3, c4, by omega, by omega⟩
/-! ===== the model's own small words ===== -/
theorem q_lcmp_lt0 {a b : Int} : q_lcmp a b < 0 ↔ a < b := by
  unfold q_lcmp
  split
  · omega
  · split <;> omega
theorem q_lcmp_gt0 {a b : Int} : 0 < q_lcmp a b ↔ b < a := by
  unfold q_lcmp
  split
  · omega
  · split <;> omega
theorem dec_b01 {P : Prop} [Decidable P] (h : P) : (1 : Int) = b01 (decide P) := by simp [b01, h]
theorem dec_b00 {P : Prop} [Decidable P] (h : ¬ P) : (0 : Int) = b01 (decide P) := by simp [b01, h]
theorem dec_iff {P Q : Prop} [Decidable P] [Decidable Q] (h : P ↔ Q) : decide P = decide Q := decide_eq_decide.mpr h
section SM
variable {σ : SS} {N : Int}
theorem m_in {a b c : Int} : ev 900 0 [qL a, qU, qL b, qU, qL c, qU] [] σ = some (some (qI (b01 (decide (b ≤ a ∧ a ≤ c)))), σ) := by
  simp (disch := omega) only [b900_0, b900_6, b900_13, b900_17, b900_18, q_lcmp_lt0, q_lcmp_gt0]
  split
  · rw [dec_b00 (P := b ≤ a ∧ a ≤ c) (by omega)]
  · split
    · rw [dec_b00 (P := b ≤ a ∧ a ≤ c) (by omega)]
    · rw [dec_b01 (P := b ≤ a ∧ a ≤ c) (by omega)]
theorem m_one {b : Bool} : ev 901 0 [qI (b01 b)] [] σ = some (some (qI (b01 b)), σ) := by
  cases b <;> simp only [b901_0, b901_4, b901_8, b901_9, b01] <;> rfl
theorem m_has {a k : Int} (h : 0 ≤ a ∧ a ≤ 2147483647 ∧ 0 ≤ k ∧ k < 32) : ev 902 0 [qI a, qI k] [] σ = some (some (qI (b01 (a.toNat.testBit k.toNat))), σ) := by
  have e : q_and (q_shr a k) 1 = b01 (a.toNat.testBit k.toNat) := by
    obtain ⟨s, rfl⟩ : ∃ s : Nat, a = s := ⟨a.toNat, by omega⟩
    obtain ⟨j, rfl⟩ : ∃ j : Nat, k = j := ⟨k.toNat, by omega⟩
    rw [q_bit (by omega) (by omega), Int.toNat_natCast, Int.toNat_natCast]
    rfl
  simp (disch := omega) only [b902_0, b902_9, b902_13, b902_14, e]
  cases a.toNat.testBit k.toNat <;> simp [b01]
theorem m_isHouse {x : Int} (h : RR σ N) : ev 921 0 [qR 50, qI x] [] σ = some (some (qI (b01 (decide (0 ≤ x ∧ x < σ 50 13)))), σ) := by
  have ht := h.t
  simp (disch := omega) only [b921_0, b921_13, m_in, Option.bind_some, q_push_some, q_push_none]
  rw [b921_13 (b01_or _), dec_iff (show (0 ≤ x ∧ x ≤ σ 50 13 - 1) ↔ (0 ≤ x ∧ x < σ 50 13) by omega)]
theorem m_isGirl {x : Int} (h : RR σ N) : ev 922 0 [qR 50, qI x] [] σ = some (some (qI (b01 (decide (0 ≤ x ∧ x < σ 50 14)))), σ) := by
  have ht := h.t
  simp (disch := omega) only [b922_0, b922_13, m_in, Option.bind_some, q_push_some, q_push_none]
  rw [b922_13 (b01_or _), dec_iff (show (0 ≤ x ∧ x ≤ σ 50 14 - 1) ↔ (0 ≤ x ∧ x < σ 50 14) by omega)]
/-- FOOT without water -/
def p_fb (σ : SS) (g hour pad : Int) : Int := σ 57 g.toNat + σ 54 (σ 51 g.toNat).toNat + pad + if hour % 24 < σ 50 3 then 0 else σ 58 g.toNat
theorem m_footBy {g hour pad : Int} (h : RR σ N) (hg : 0 ≤ g ∧ g < σ 50 14) (hh : 0 ≤ hour ∧ hour ≤ 1000000) (hp : 0 ≤ pad ∧ pad ≤ 5) : ev 923 0 [qR 50, qI g, qI hour, qI pad, qU] [] σ = some (some (qI (p_fb σ g hour pad)), σ) := by
  have ht := h.t
  have hG := h.g hg.1 hg.2
  simp (disch := omega) only [b923_0, b923_33, b923_45, b923_47]
  unfold p_fb
  split
  · simp
  · rfl
end SM
