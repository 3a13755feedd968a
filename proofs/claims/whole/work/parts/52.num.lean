/-! ===== list: numbers ===== -/
def dval (T : Nat → Int) (a : Nat) : Nat → Int
  | 0 => 0
  | k + 1 => dval T a k * 10 + T (a + k) - 48
theorem dval_b {T : Nat → Int} {a : Nat} : ∀ {k : Nat}, k ≤ 3 → (∀ i, i < k → 48 ≤ T (a + i) ∧ T (a + i) ≤ 57) → 0 ≤ dval T a k ∧ dval T a k < 10 ^ k
  | 0, _, _ => by
    show (0 : Int) ≤ 0 ∧ (0 : Int) < 10 ^ 0
    decide
  | k + 1, hk, h => by
    have ih := dval_b (T := T) (a := a) (k := k) (by omega) (fun i hi => h i (by omega))
    have hd := h k (by omega)
    show 0 ≤ dval T a k * 10 + T (a + k) - 48 ∧ dval T a k * 10 + T (a + k) - 48 < 10 ^ (k + 1)
    have : (10 : Int) ^ (k + 1) = 10 ^ k * 10 := Int.pow_succ 10 k
    omega
/-- the place of a number, its end, its value, its fault -/
def nA (n : Nat) (T : Nat → Int) (p : Nat) : Nat := scan isBl n T p
def nE (n : Nat) (T : Nat → Int) (p : Nat) : Nat := scan isFi n T (nA n T p)
def nV (n : Nat) (T : Nat → Int) (p : Nat) : Int := dval T (nA n T p) (min (nE n T p - nA n T p) 3)
def nF (n : Nat) (T : Nat → Int) (p : Nat) (lo hi : Int) : Int := if nE n T p = nA n T p then 1 else if 3 < nE n T p - nA n T p ∨ nV n T p < lo ∨ hi < nV n T p then 2 else 0
section LN
variable {σ : SS} {n : Nat} {T : Nat → Int} {p : Nat} {lo hi : Int}
theorem n_sp (hp : p ≤ n) : p ≤ nA n T p ∧ nA n T p ≤ nE n T p ∧ nE n T p ≤ n ∧ ∀ i, nA n T p ≤ i → i < nE n T p → 48 ≤ T i ∧ T i ≤ 57 := by
  have h1 := scan_sp isBl n T p
  have h2 := scan_sp isFi n T (scan isBl n T p)
  refine ⟨h1.1, h2.1, h2.2.1 (h1.2.1 hp), fun i i1 i2 => ?_⟩
  exact of_decide_eq_true (h2.2.2.1 i i1 i2)
theorem nF_cases : nF n T p lo hi = 0 ∨ nF n T p lo hi = 1 ∨ nF n T p lo hi = 2 := by
  unfold nF
  split
  · exact Or.inr (Or.inl rfl)
  · split
    · exact Or.inr (Or.inr rfl)
    · exact Or.inl rfl
theorem nF_0 (h : nF n T p lo hi = 0) : lo ≤ nV n T p ∧ nV n T p ≤ hi ∧ nA n T p < nE n T p ∨ nE n T p < nA n T p := by
  unfold nF at h
  split at h
  · omega
  · split at h
    · omega
    · omega
theorem c_numL {τ : SS} {x1 x2 : Int} {a e : Nat} (hn : TT n T) (hX : TX τ n T) (hen : e ≤ n) (hd : ∀ i, a ≤ i → i < e → 48 ≤ T i ∧ T i ≤ 57) (hs : e < n → ¬ isFi (T e) = true) : ∀ (k j : Nat), a + j + k = e → ev 511 24 [qR 1, qI x1, qI x2, qI (dval T a (min j 3)), qI (j : Int), qI ((a + j : Nat) : Int)] [] τ = ev 511 75 [qR 1, qI x1, qI x2, qI (dval T a (min (e - a) 3)), qI ((e - a : Nat) : Int), qI (e : Int)] [] τ
  | 0, j, hk => by
    have h3 := hn.1
    have e1 : a + j = e := by omega
    have e2 : e - a = j := by omega
    rw [e1, e2]
    by_cases h : e < n
    · have eb : byt n T e = T e := by unfold byt; rw [if_pos h]
      have hf : isFi (T e) = false := by
        cases hq : isFi (T e)
        · rfl
        · exact absurd hq (hs h)
      rw [b511_24, hX.1, if_pos (by omega), b511_33, c_byte hn hX, Option.bind_some, q_push_some]
      dsimp only
      rw [b511_39, c_isF, Option.bind_some, q_push_some]
      dsimp only
      rw [eb, hf, b511_42, if_pos b01_f]
    · rw [b511_24, hX.1, if_neg (by omega)]
  | k + 1, j, hk => by
    have h3 := hn.1
    have eb : byt n T (a + j) = T (a + j) := by unfold byt; rw [if_pos (by omega)]
    have hdj := hd (a + j) (by omega) (by omega)
    have hf : isFi (T (a + j)) = true := decide_eq_true hdj
    have ih := c_numL (x1 := x1) (x2 := x2) hn hX hen hd hs k (j + 1) (by omega)
    rw [show a + (j + 1) = a + j + 1 by omega] at ih
    rw [b511_24, hX.1, if_pos (by omega), b511_33, c_byte hn hX, Option.bind_some, q_push_some]
    dsimp only
    rw [b511_39, c_isF, Option.bind_some, q_push_some]
    dsimp only
    rw [eb, hf, b511_42, if_neg (by decide), b511_45 (by omega)]
    by_cases hj : j < 3
    · have hb := dval_b (T := T) (a := a) (k := j) (by omega) (fun i hi => hd (a + i) (by omega) (by omega))
      have h10 : (10 : Int) ^ j ≤ 100 := by
        have : j = 0 ∨ j = 1 ∨ j = 2 := by omega
        rcases this with z | z | z <;> subst z <;> decide
      rw [show min j 3 = j by omega, if_neg (by omega), b511_54 (by omega), c_byte hn hX, Option.bind_some, q_push_some]
      dsimp only
      rw [eb, b511_64 (by omega), b511_69 (by omega)]
      rw [show min (j + 1) 3 = j + 1 by omega] at ih
      exact ih
    · rw [if_pos (by omega), b511_69 (by omega)]
      rw [show min (j + 1) 3 = min j 3 by omega] at ih
      exact ih
/-- readNumber, no fault before -/
theorem c_num {t b o g : Int} (hn : TT n T) (hX : TX σ n T) (hp : p ≤ n) : ev 511 0 [qR 1, qI lo, qI hi, qU, qU, qU] [] (rC σ (p : Int) t 0 b o g) = some (some (qI (nV n T p)), rC σ (nE n T p : Nat) (nA n T p : Nat) (nF n T p lo hi) (if nF n T p lo hi = 0 then b else (nA n T p : Nat)) o g) := by
  have h3 := hn.1
  obtain ⟨h1, h2, h4, h5⟩ := n_sp (T := T) hp
  have hs : nE n T p < n → ¬ isFi (T (nE n T p)) = true := (scan_sp isFi n T (nA n T p)).2.2.2
  have hl := c_numL (τ := rC σ (nA n T p : Nat) (nA n T p : Nat) 0 b o g) (x1 := lo) (x2 := hi) hn hX.rC h4 h5 hs (nE n T p - nA n T p) 0 (by omega)
  rw [b511_0, rC_2, if_pos rfl, b511_9, c_tok hn hX, Option.bind_some, q_push_none]
  dsimp only
  rw [b511_13, rC_4]
  have e0 : dval T (nA n T p) (min 0 3) = 0 := rfl
  rw [e0, Nat.add_zero] at hl
  have hl' : ev 511 24 [qR 1, qI lo, qI hi, qI 0, qI 0, qI (nA n T p : Nat)] [] (rC σ (nA n T p : Nat) (nA n T p : Nat) 0 b o g) = ev 511 75 [qR 1, qI lo, qI hi, qI (nV n T p), qI ((nE n T p - nA n T p : Nat) : Int), qI (nE n T p : Nat)] [] (rC σ (nA n T p : Nat) (nA n T p : Nat) 0 b o g) := hl
  have ea : (nA n T p : Int) + ((nE n T p - nA n T p : Nat) : Int) = (nE n T p : Nat) := by omega
  have fin : ∀ F : Int, F ≠ 0 → ev 511 109 [qR 1, qI lo, qI hi, qI (nV n T p), qI ((nE n T p - nA n T p : Nat) : Int), qI (nE n T p : Nat)] [] (rC σ (nA n T p : Nat) (nA n T p : Nat) F (nA n T p : Nat) o g) = some (some (qI (nV n T p)), rC σ (nE n T p : Nat) (nA n T p : Nat) F (nA n T p : Nat) o g) := by
    intro F hF
    rw [b511_109 (by rw [rC_4]; omega), rC_4, ea, rC_p4]
  show ev 511 24 [qR 1, qI lo, qI hi, qI 0, qI 0, qI (nA n T p : Nat)] [] (rC σ (nA n T p : Nat) (nA n T p : Nat) 0 b o g) = _
  rw [hl', b511_75]
  by_cases z1 : nE n T p = nA n T p
  · have eF : nF n T p lo hi = 1 := by unfold nF; rw [if_pos z1]
    rw [eF, if_neg (show ¬ (1 : Int) = 0 by decide), if_pos (by omega), b511_80, b515_0, Option.bind_some, q_push_none]
    dsimp only
    rw [rC_5, rC_p2, rC_p3, b511_85]
    exact fin 1 (by decide)
  · rw [if_neg (by omega), b511_88]
    by_cases z2 : 3 < nE n T p - nA n T p ∨ nV n T p < lo ∨ hi < nV n T p
    · have eF : nF n T p lo hi = 2 := by unfold nF; rw [if_neg z1, if_pos z2]
      have st : ev 511 104 [qR 1, qI lo, qI hi, qI (nV n T p), qI ((nE n T p - nA n T p : Nat) : Int), qI (nE n T p : Nat)] [] (rC σ (nA n T p : Nat) (nA n T p : Nat) 0 b o g) = some (some (qI (nV n T p)), rC σ (nE n T p : Nat) (nA n T p : Nat) 2 (nA n T p : Nat) o g) := by
        rw [b511_104, b515_0, Option.bind_some, q_push_none]
        dsimp only
        rw [rC_5, rC_p2, rC_p3]
        exact fin 2 (by decide)
      rw [eF, if_neg (show ¬ (2 : Int) = 0 by decide)]
      by_cases y1 : 3 < nE n T p - nA n T p
      · rw [if_pos (by omega), st]
      · rw [if_neg (by omega), b511_94]
        by_cases y2 : nV n T p < lo
        · rw [if_pos y2, st]
        · rw [if_neg y2, b511_99, if_pos (by omega), st]
    · have eF : nF n T p lo hi = 0 := by unfold nF; rw [if_neg z1, if_neg z2]
      rw [eF, if_pos rfl, if_neg (by omega), b511_94, if_neg (by omega), b511_99, if_neg (by omega), b511_109 (by rw [rC_4]; omega), rC_4, ea, rC_p4]
/-- readNumber behind a fault -/
theorem c_num0 {q t f b o g : Int} (hf : f ≠ 0) : ev 511 0 [qR 1, qI lo, qI hi, qU, qU, qU] [] (rC σ q t f b o g) = some (some (qI 0), rC σ q t f b o g) := by
  rw [b511_0, rC_2, if_neg hf, b511_7]
theorem m_numL {x1 x2 x3 s l b : Int} {a e : Nat} (hn : TT n T) (hY : TY σ n T) (hen : e ≤ n) (hd : ∀ i, a ≤ i → i < e → 48 ≤ T i ∧ T i ≤ 57) (hs : e < n → ¬ isFi (T e) = true) : ∀ (k j : Nat) (v : Int), a + j + k = e → 0 ≤ v ∧ v ≤ 999999 → (j ≤ 3 → v = dval T a j) → ∃ v', ev 909 50 [qR 50, qI x1, qI x2, qI x3, qI v, qU] [] (rM σ ((a + j : Nat) : Int) s l 0 b) = ev 909 128 [qR 50, qI x1, qI x2, qI x3, qI v', qU] [] (rM σ (e : Int) s l 0 b) ∧ (e - a ≤ 3 → v' = dval T a (e - a))
  | 0, j, v, hk, hv, hj => by
    have h3 := hn.1
    have e1 : a + j = e := by omega
    refine ⟨v, ?_, fun h => by rw [show e - a = j by omega]; exact hj (by omega)⟩
    rw [e1]
    by_cases h : e < n
    · have e62 : rM σ (e : Int) s l 0 b 62 e = T e := by rw [rM_ne (by decide)]; exact hY.2 e h
      have hf : ¬ (48 ≤ T e ∧ T e ≤ 57) := fun z => hs h (decide_eq_true z)
      rw [b909_50, rM_25, rM_24, hY.1, if_pos (by omega), b909_61 (by rw [rM_25]; omega), rM_25, Int.toNat_natCast, e62, m_in, Option.bind_some, q_push_some]
      dsimp only
      rw [decide_eq_false hf, b909_80, if_pos b01_f]
    · rw [b909_50, rM_25, rM_24, hY.1, if_neg (by omega)]
  | k + 1, j, v, hk, hv, hj => by
    have h3 := hn.1
    have e62 : rM σ ((a + j : Nat) : Int) s l 0 b 62 (a + j) = T (a + j) := by rw [rM_ne (by decide)]; exact hY.2 _ (by omega)
    have hdj := hd (a + j) (by omega) (by omega)
    have st : ev 909 50 [qR 50, qI x1, qI x2, qI x3, qI v, qU] [] (rM σ ((a + j : Nat) : Int) s l 0 b) = ev 909 83 [qR 50, qI x1, qI x2, qI x3, qI v, qU] [] (rM σ ((a + j : Nat) : Int) s l 0 b) := by
      rw [b909_50, rM_25, rM_24, hY.1, if_pos (by omega), b909_61 (by rw [rM_25]; omega), rM_25, Int.toNat_natCast, e62, m_in, Option.bind_some, q_push_some]
      dsimp only
      rw [decide_eq_true hdj, b909_80, if_neg (by decide)]
    rw [st, b909_83]
    by_cases hb : 99999 < v
    · obtain ⟨v', r1, r2⟩ := m_numL (x1 := x1) (x2 := x2) (x3 := x3) (s := s) (l := l) (b := b) hn hY hen hd hs k (j + 1) v (by omega) hv (fun hj2 => by
        exfalso
        have hdb := dval_b (T := T) (a := a) (k := j) (by omega) (fun i hi => hd (a + i) (by omega) (by omega))
        have h10 : (10 : Int) ^ j ≤ 100 := by
          have : j = 0 ∨ j = 1 ∨ j = 2 := by omega
          rcases this with z | z | z <;> subst z <;> decide
        have := hj (by omega)
        omega)
      refine ⟨v', ?_, r2⟩
      rw [if_pos hb, b909_90, b909_113 (by rw [rM_25]; omega), rM_25, rM_p25]
      exact r1
    · obtain ⟨v', r1, r2⟩ := m_numL (x1 := x1) (x2 := x2) (x3 := x3) (s := s) (l := l) (b := b) hn hY hen hd hs k (j + 1) (10 * v + T (a + j) - 48) (by omega) (by omega) (fun hj2 => by
        have := hj (by omega)
        show _ = dval T a j * 10 + T (a + j) - 48
        omega)
      refine ⟨v', ?_, r2⟩
      rw [if_neg hb, b909_95 (by rw [rM_25, Int.toNat_natCast, e62]; omega), rM_25, Int.toNat_natCast, e62, b909_113 (by rw [rM_25]; omega), rM_25, rM_p25]
      exact r1
/-- takeNumber, no fault before -/
theorem m_num {s l b : Int} (hn : TT n T) (hY : TY σ n T) (hp : p ≤ n) : ∃ v, ev 909 0 [qR 50, qI lo, qI hi, qU, qU, qU] [] (rM σ (p : Int) s l 0 b) = some (some (qI v), rM σ (nE n T p : Nat) (nA n T p : Nat) l (nF n T p lo hi) (if nF n T p lo hi = 0 then b else (nA n T p : Nat))) ∧ (nF n T p lo hi = 0 → v = nV n T p) := by
  have h3 := hn.1
  obtain ⟨h1, h2, h4, h5⟩ := n_sp (T := T) hp
  have hs : nE n T p < n → ¬ isFi (T (nE n T p)) = true := (scan_sp isFi n T (nA n T p)).2.2.2
  have st : ev 909 0 [qR 50, qI lo, qI hi, qU, qU, qU] [] (rM σ (p : Int) s l 0 b) = ev 909 34 [qR 50, qI lo, qI hi, qI (byt n T (nA n T p)), qU, qU] [qI (b01 (decide (48 ≤ byt n T (nA n T p) ∧ byt n T (nA n T p) ≤ 57))), qR 50] (rM σ (nA n T p : Nat) (nA n T p : Nat) l 0 b) := by
    rw [b909_0, rM_28, if_neg (by decide), b909_9, m_here hn hY, Option.bind_some, q_push_some]
    dsimp only
    rw [b909_13, rM_25, rM_p26, m_in, Option.bind_some, q_push_some]
    rfl
  by_cases z1 : nE n T p = nA n T p
  · have eF : nF n T p lo hi = 1 := by unfold nF; rw [if_pos z1]
    have hno : ¬ (48 ≤ byt n T (nA n T p) ∧ byt n T (nA n T p) ≤ 57) := by
      unfold byt
      split
      · rename_i hlt
        intro z
        refine hs (by omega) ?_
        rw [z1]
        exact decide_eq_true z
      · omega
    refine ⟨0, ?_, fun h => by rw [eF] at h; cases h⟩
    rw [st, decide_eq_false hno, b909_34, b01_f, rM_25, m_wantN (by decide), Option.bind_some, q_push_some]
    dsimp only
    rw [b909_42, if_pos rfl, b909_45, eF, if_neg (show ¬ (1 : Int) = 0 by decide), z1]
  · have hlt : nA n T p < nE n T p := by omega
    have hd := h5 (nA n T p) (by omega) hlt
    have eb : byt n T (nA n T p) = T (nA n T p) := by unfold byt; rw [if_pos (by omega)]
    obtain ⟨v, r1, r2⟩ := m_numL (x1 := lo) (x2 := hi) (x3 := byt n T (nA n T p)) (s := (nA n T p : Nat)) (l := l) (b := b) hn hY h4 h5 hs (nE n T p - nA n T p) 0 0 (by omega) (by omega) (fun _ => rfl)
    rw [Nat.add_zero] at r1
    have st2 : ev 909 0 [qR 50, qI lo, qI hi, qU, qU, qU] [] (rM σ (p : Int) s l 0 b) = ev 909 128 [qR 50, qI lo, qI hi, qI (byt n T (nA n T p)), qI v, qU] [] (rM σ (nE n T p : Nat) (nA n T p : Nat) l 0 b) := by
      rw [st, eb, decide_eq_true hd, b909_34, b01_t, rM_25, m_wantY, Option.bind_some, q_push_some]
      dsimp only
      rw [b909_42, if_neg (by decide), b909_47, ← eb]
      exact r1
    have bad : nF n T p lo hi = 2 → ev 909 159 [qR 50, qI lo, qI hi, qI (byt n T (nA n T p)), qI v, qU] [qR 50] (rM σ (nE n T p : Nat) (nA n T p : Nat) l 0 b) = some (some (qI v), rM σ (nE n T p : Nat) (nA n T p : Nat) l (nF n T p lo hi) (if nF n T p lo hi = 0 then b else (nA n T p : Nat))) := by
      intro eF
      rw [b909_159, b909_160, rM_26, m_wantN (by decide), Option.bind_some, q_push_some]
      dsimp only
      rw [b909_168, eF, if_neg (show ¬ (2 : Int) = 0 by decide)]
    refine ⟨v, ?_, fun h => ?_⟩
    · rw [st2, b909_128 (by rw [rM_25, rM_26]; omega), rM_25, rM_26]
      by_cases y1 : 3 < nE n T p - nA n T p
      · rw [if_neg (by omega)]
        exact bad (by unfold nF; rw [if_neg z1, if_pos (Or.inl y1)])
      · have ev' : v = nV n T p := by
          rw [r2 (by omega)]
          unfold nV
          rw [show min (nE n T p - nA n T p) 3 = nE n T p - nA n T p by omega]
        rw [if_pos (by omega), b909_142, m_in, Option.bind_some, q_push_some]
        dsimp only
        by_cases y2 : lo ≤ v ∧ v ≤ hi
        · have eF : nF n T p lo hi = 0 := by unfold nF; rw [if_neg z1, if_neg (by omega)]
          rw [decide_eq_true y2, b909_152, if_neg (by decide), b909_155, b909_160, rM_26, m_wantY, Option.bind_some, q_push_some]
          dsimp only
          rw [b909_168, eF, if_pos rfl]
        · rw [decide_eq_false y2, b909_152, if_pos b01_f]
          exact bad (by unfold nF; rw [if_neg z1, if_pos (by omega)])
    · have y1 : ¬ 3 < nE n T p - nA n T p := by
        intro z
        unfold nF at h
        rw [if_neg z1, if_pos (Or.inl z)] at h
        cases h
      rw [r2 (by omega)]
      unfold nV
      rw [show min (nE n T p - nA n T p) 3 = nE n T p - nA n T p by omega]
theorem m_num0 {q s l f b : Int} (hf : 0 < f) : ev 909 0 [qR 50, qI lo, qI hi, qU, qU, qU] [] (rM σ q s l f b) = some (some (qI 0), rM σ q s l f b) := by
  rw [b909_0, rM_28, if_pos hf, b909_7]
end LN
