/-! ===== list: the text, read on both sides ===== -/
def scn (q : Int → Bool) (T : Nat → Int) : Nat → Nat → Nat
  | 0, p => p
  | k + 1, p => if q (T p) = true then scn q T k (p + 1) else p
/-- on while q holds -/
def scan (q : Int → Bool) (n : Nat) (T : Nat → Int) (p : Nat) : Nat := scn q T (n - p) p
theorem scan_end {q : Int → Bool} {n : Nat} {T : Nat → Int} {p : Nat} (h : n ≤ p) : scan q n T p = p := by
  unfold scan
  rw [show n - p = 0 by omega]
  rfl
theorem scan_in {q : Int → Bool} {n : Nat} {T : Nat → Int} {p : Nat} (h : p < n) (hq : q (T p) = true) : scan q n T p = scan q n T (p + 1) := by
  unfold scan
  rw [show n - p = (n - (p + 1)) + 1 by omega]
  show (if q (T p) = true then scn q T (n - (p + 1)) (p + 1) else p) = _
  rw [if_pos hq]
theorem scan_no {q : Int → Bool} {n : Nat} {T : Nat → Int} {p : Nat} (hq : ¬ q (T p) = true) : scan q n T p = p := by
  unfold scan
  cases n - p with
  | zero => rfl
  | succ k =>
    show (if q (T p) = true then scn q T k (p + 1) else p) = _
    rw [if_neg hq]
theorem scan_spK (q : Int → Bool) (n : Nat) (T : Nat → Int) : ∀ (k p : Nat), n - p = k → p ≤ scan q n T p ∧ (p ≤ n → scan q n T p ≤ n) ∧ (∀ i, p ≤ i → i < scan q n T p → q (T i) = true) ∧ (scan q n T p < n → ¬ q (T (scan q n T p)) = true)
  | 0, p, hk => by
    rw [scan_end (by omega)]
    exact ⟨Nat.le_refl _, fun h => h, fun i h1 h2 => by omega, fun h => by omega⟩
  | k + 1, p, hk => by
    by_cases hq : q (T p) = true
    · obtain ⟨h1, h2, h3, h4⟩ := scan_spK q n T k (p + 1) (by omega)
      rw [scan_in (by omega) hq]
      refine ⟨by omega, fun _ => h2 (by omega), fun i i1 i2 => ?_, h4⟩
      by_cases e : i = p
      · subst e; exact hq
      · exact h3 i (by omega) i2
    · rw [scan_no hq]
      exact ⟨Nat.le_refl _, fun h => h, fun i h1 h2 => by omega, fun _ => hq⟩
theorem scan_sp (q : Int → Bool) (n : Nat) (T : Nat → Int) (p : Nat) : p ≤ scan q n T p ∧ (p ≤ n → scan q n T p ≤ n) ∧ (∀ i, p ≤ i → i < scan q n T p → q (T i) = true) ∧ (scan q n T p < n → ¬ q (T (scan q n T p)) = true) := scan_spK q n T (n - p) p rfl
theorem scan_two {q : Int → Bool} {n : Nat} {T : Nat → Int} {p : Nat} : scan q n T (scan q n T p) = scan q n T p := by
  by_cases h : scan q n T p < n
  · exact scan_no ((scan_sp q n T p).2.2.2 h)
  · exact scan_end (by omega)
def isBl (c : Int) : Bool := decide (c = 32)
def isLe (c : Int) : Bool := decide (97 ≤ c ∧ c ≤ 122)
def isFi (c : Int) : Bool := decide (48 ≤ c ∧ c ≤ 57)
def byt (n : Nat) (T : Nat → Int) (i : Nat) : Int := if i < n then T i else -1
def TT (n : Nat) (T : Nat → Int) : Prop := n ≤ 300 ∧ ∀ i, i < n → 0 ≤ T i ∧ T i ≤ 255
def TX (σ : SS) (n : Nat) (T : Nat → Int) : Prop := σ 1 1 = (n : Int) ∧ ∀ i, i < n → σ 2 i = T i
def TY (σ : SS) (n : Nat) (T : Nat → Int) : Prop := σ 50 24 = (n : Int) ∧ ∀ i, i < n → σ 62 i = T i
def rC (σ : SS) (p t f b o g : Int) : SS := fun k => if k = 1 then (fun j => if j = 2 then f else if j = 3 then b else if j = 4 then p else if j = 5 then t else if j = 6 then o else if j = 7 then g else σ 1 j) else σ k
def rM (σ : SS) (p s l f b : Int) : SS := fun k => if k = 50 then (fun j => if j = 25 then p else if j = 26 then s else if j = 27 then l else if j = 28 then f else if j = 29 then b else σ 50 j) else σ k
section LC
variable {σ : SS} {p t f b o g v : Int}
theorem rC_ne {k : Nat} (h : k ≠ 1) : rC σ p t f b o g k = σ k := by unfold rC; rw [if_neg h]
theorem rC_1 : rC σ p t f b o g 1 1 = σ 1 1 := rfl
theorem rC_2 : rC σ p t f b o g 1 2 = f := rfl
theorem rC_3 : rC σ p t f b o g 1 3 = b := rfl
theorem rC_4 : rC σ p t f b o g 1 4 = p := rfl
theorem rC_5 : rC σ p t f b o g 1 5 = t := rfl
theorem rC_6 : rC σ p t f b o g 1 6 = o := rfl
theorem rC_7 : rC σ p t f b o g 1 7 = g := rfl
theorem rC_p2 : q_put (rC σ p t f b o g) 1 2 v = rC σ p t v b o g := by
  funext k j
  unfold q_put rC
  by_cases h : k = 1
  · subst h
    by_cases h2 : j = 2
    · subst h2; simp
    · simp [h2]
  · simp [h]
theorem rC_p3 : q_put (rC σ p t f b o g) 1 3 v = rC σ p t f v o g := by
  funext k j
  unfold q_put rC
  by_cases h : k = 1
  · subst h
    by_cases h2 : j = 3
    · subst h2; simp
    · simp [h2]
  · simp [h]
theorem rC_p4 : q_put (rC σ p t f b o g) 1 4 v = rC σ v t f b o g := by
  funext k j
  unfold q_put rC
  by_cases h : k = 1
  · subst h
    by_cases h2 : j = 4
    · subst h2; simp
    · simp [h2]
  · simp [h]
theorem rC_p5 : q_put (rC σ p t f b o g) 1 5 v = rC σ p v f b o g := by
  funext k j
  unfold q_put rC
  by_cases h : k = 1
  · subst h
    by_cases h2 : j = 5
    · subst h2; simp
    · simp [h2]
  · simp [h]
theorem rC_p6 : q_put (rC σ p t f b o g) 1 6 v = rC σ p t f b v g := by
  funext k j
  unfold q_put rC
  by_cases h : k = 1
  · subst h
    by_cases h2 : j = 6
    · subst h2; simp
    · simp [h2]
  · simp [h]
theorem rC_p7 : q_put (rC σ p t f b o g) 1 7 v = rC σ p t f b o v := by
  funext k j
  unfold q_put rC
  by_cases h : k = 1
  · subst h
    by_cases h2 : j = 7
    · subst h2; simp
    · simp [h2]
  · simp [h]
theorem rC_put {k j : Nat} (h : k ≠ 1) : q_put (rC σ p t f b o g) k j v = rC (q_put σ k j v) p t f b o g := by
  funext k' j'
  unfold q_put rC
  by_cases h1 : k' = 1
  · subst h1
    have : ¬ (1 = k) := fun z => h z.symm
    simp [this]
  · simp [h1]
theorem rC_id : rC σ (σ 1 4) (σ 1 5) (σ 1 2) (σ 1 3) (σ 1 6) (σ 1 7) = σ := by
  funext k j
  unfold rC
  by_cases h : k = 1
  · subst h
    simp only [if_true]
    split
    · subst j; rfl
    · split
      · subst j; rfl
      · split
        · subst j; rfl
        · split
          · subst j; rfl
          · split
            · subst j; rfl
            · split
              · subst j; rfl
              · rfl
  · rw [if_neg h]
theorem TX.rC {n : Nat} {T : Nat → Int} (h : TX σ n T) : TX (rC σ p t f b o g) n T := h
theorem TX.put {n : Nat} {T : Nat → Int} {k j : Nat} (h : TX σ n T) (hk : k ≠ 1 ∧ k ≠ 2) : TX (q_put σ k j v) n T := by
  unfold TX
  rw [put_ne (fun z => hk.1 z.symm), put_ne (fun z => hk.2 z.symm)]
  exact h
end LC
section LM
variable {σ : SS} {p s l f b v : Int}
theorem rM_ne {k : Nat} (h : k ≠ 50) : rM σ p s l f b k = σ k := by unfold rM; rw [if_neg h]
theorem rM_o {j : Nat} (h : j ≠ 25 ∧ j ≠ 26 ∧ j ≠ 27 ∧ j ≠ 28 ∧ j ≠ 29) : rM σ p s l f b 50 j = σ 50 j := by
  unfold rM
  simp [h.1, h.2.1, h.2.2.1, h.2.2.2.1, h.2.2.2.2]
theorem rM_25 : rM σ p s l f b 50 25 = p := rfl
theorem rM_26 : rM σ p s l f b 50 26 = s := rfl
theorem rM_27 : rM σ p s l f b 50 27 = l := rfl
theorem rM_28 : rM σ p s l f b 50 28 = f := rfl
theorem rM_29 : rM σ p s l f b 50 29 = b := rfl
theorem rM_24 : rM σ p s l f b 50 24 = σ 50 24 := rfl
theorem rM_17 : rM σ p s l f b 50 17 = σ 50 17 := rfl
theorem rM_18 : rM σ p s l f b 50 18 = σ 50 18 := rfl
theorem rM_19 : rM σ p s l f b 50 19 = σ 50 19 := rfl
theorem rM_20 : rM σ p s l f b 50 20 = σ 50 20 := rfl
theorem rM_21 : rM σ p s l f b 50 21 = σ 50 21 := rfl
theorem rM_22 : rM σ p s l f b 50 22 = σ 50 22 := rfl
theorem rM_p25 : q_put (rM σ p s l f b) 50 25 v = rM σ v s l f b := by
  funext k j
  unfold q_put rM
  by_cases h : k = 50
  · subst h
    by_cases h2 : j = 25
    · subst h2; simp
    · simp [h2]
  · simp [h]
theorem rM_p26 : q_put (rM σ p s l f b) 50 26 v = rM σ p v l f b := by
  funext k j
  unfold q_put rM
  by_cases h : k = 50
  · subst h
    by_cases h2 : j = 26
    · subst h2; simp
    · simp [h2]
  · simp [h]
theorem rM_p27 : q_put (rM σ p s l f b) 50 27 v = rM σ p s v f b := by
  funext k j
  unfold q_put rM
  by_cases h : k = 50
  · subst h
    by_cases h2 : j = 27
    · subst h2; simp
    · simp [h2]
  · simp [h]
theorem rM_p28 : q_put (rM σ p s l f b) 50 28 v = rM σ p s l v b := by
  funext k j
  unfold q_put rM
  by_cases h : k = 50
  · subst h
    by_cases h2 : j = 28
    · subst h2; simp
    · simp [h2]
  · simp [h]
theorem rM_p29 : q_put (rM σ p s l f b) 50 29 v = rM σ p s l f v := by
  funext k j
  unfold q_put rM
  by_cases h : k = 50
  · subst h
    by_cases h2 : j = 29
    · subst h2; simp
    · simp [h2]
  · simp [h]
theorem rM_put {k j : Nat} (h : k ≠ 50) : q_put (rM σ p s l f b) k j v = rM (q_put σ k j v) p s l f b := by
  funext k' j'
  unfold q_put rM
  by_cases h1 : k' = 50
  · subst h1
    have : ¬ (50 = k) := fun z => h z.symm
    simp [this]
  · simp [h1]
theorem rM_pu5 {j : Nat} (h : j ≠ 25 ∧ j ≠ 26 ∧ j ≠ 27 ∧ j ≠ 28 ∧ j ≠ 29) : q_put (rM σ p s l f b) 50 j v = rM (q_put σ 50 j v) p s l f b := by
  funext k' j'
  unfold q_put rM
  by_cases h1 : k' = 50
  · subst h1
    by_cases h2 : j' = j
    · subst h2
      simp [h.1, h.2.1, h.2.2.1, h.2.2.2.1, h.2.2.2.2]
    · simp [h2]
  · simp [h1]
theorem rM_id : rM σ (σ 50 25) (σ 50 26) (σ 50 27) (σ 50 28) (σ 50 29) = σ := by
  funext k j
  unfold rM
  by_cases h : k = 50
  · subst h
    simp only [if_true]
    split
    · subst j; rfl
    · split
      · subst j; rfl
      · split
        · subst j; rfl
        · split
          · subst j; rfl
          · split
            · subst j; rfl
            · rfl
  · rw [if_neg h]
theorem TY.rM {n : Nat} {T : Nat → Int} (h : TY σ n T) : TY (rM σ p s l f b) n T := h
theorem TY.put {n : Nat} {T : Nat → Int} {k j : Nat} (h : TY σ n T) (hk : k ≠ 62 ∧ (k ≠ 50 ∨ j ≠ 24)) : TY (q_put σ k j v) n T := by
  unfold TY
  rw [put_ne (fun z => hk.1 z.symm)]
  refine ⟨?_, h.2⟩
  unfold q_put
  rw [if_neg (fun z => by rcases hk.2 with y | y; exact y z.1.symm; exact y z.2.symm)]
  exact h.1
end LM
section LR
variable {σ τ : SS} {n : Nat} {T : Nat → Int}
theorem c_byte (hn : TT n T) (hX : TX τ n T) (i : Nat) : ev 519 0 [qR 1, qI (i : Int)] [] τ = some (some (qI (byt n T i)), τ) := by
  obtain ⟨x1, x2⟩ := hX
  have h3 := hn.1
  unfold byt
  by_cases h : i < n
  · rw [b519_0, if_neg (by omega), b519_4, x1, if_pos (by omega), b519_12, if_pos (by omega), b519_19 (by omega), b519_29, Int.toNat_natCast, x2 i h, if_pos h]
  · rw [b519_0, if_neg (by omega), b519_4, x1, if_neg (by omega), b519_28, b519_29, if_neg h]
theorem c_isL {c : Int} : ev 520 0 [qI c] [] τ = some (some (qI (b01 (isLe c))), τ) := by
  unfold isLe
  by_cases h : 97 ≤ c ∧ c ≤ 122
  · rw [b520_0, if_neg (by omega), b520_6, if_neg (by omega), b520_12, b520_17 (by omega), decide_eq_true h]; rfl
  · rw [decide_eq_false h]
    by_cases h1 : c < 97
    · rw [b520_0, if_pos h1, b520_16, b520_17 (by omega)]; rfl
    · rw [b520_0, if_neg h1, b520_6, if_pos (by omega), b520_16, b520_17 (by omega)]; rfl
theorem c_isF {c : Int} : ev 521 0 [qI c] [] τ = some (some (qI (b01 (isFi c))), τ) := by
  unfold isFi
  by_cases h : 48 ≤ c ∧ c ≤ 57
  · rw [b521_0, if_neg (by omega), b521_6, if_neg (by omega), b521_12, b521_17 (by omega), decide_eq_true h]; rfl
  · rw [decide_eq_false h]
    by_cases h1 : c < 48
    · rw [b521_0, if_pos h1, b521_16, b521_17 (by omega)]; rfl
    · rw [b521_0, if_neg h1, b521_6, if_pos (by omega), b521_16, b521_17 (by omega)]; rfl
theorem c_tokL {t f b o g : Int} (hn : TT n T) (hX : TX σ n T) : ∀ (k p : Nat), n - p = k → ev 516 0 [qR 1] [] (rC σ (p : Int) t f b o g) = some (none, rC σ (scan isBl n T p : Nat) (scan isBl n T p : Nat) f b o g)
  | 0, p, hk => by
    have h3 := hn.1
    rw [b516_0, rC_4, rC_1, hX.1, if_neg (by omega), b516_37, rC_4, rC_p5, scan_end (by omega)]
  | k + 1, p, hk => by
    have h3 := hn.1
    rw [b516_0, rC_4, rC_1, hX.1, if_pos (by omega), b516_11, rC_4, c_byte hn hX.rC, Option.bind_some, q_push_some]
    dsimp only
    have e : byt n T p = T p := by unfold byt; rw [if_pos (by omega)]
    rw [b516_19, e]
    by_cases hb : T p = 32
    · rw [if_pos hb, b516_24 (by rw [rC_4]; omega), rC_4, rC_p4, scan_in (by omega) (decide_eq_true hb)]
      exact c_tokL hn hX k (p + 1) (by omega)
    · rw [if_neg hb, b516_37, rC_4, rC_p5, scan_no (by unfold isBl; rw [decide_eq_false hb]; decide)]
theorem c_tok {p : Nat} {t f b o g : Int} (hn : TT n T) (hX : TX σ n T) : ev 516 0 [qR 1] [] (rC σ (p : Int) t f b o g) = some (none, rC σ (scan isBl n T p : Nat) (scan isBl n T p : Nat) f b o g) := c_tokL hn hX (n - p) p rfl
theorem c_wendL (hn : TT n T) (hX : TX τ n T) : ∀ (k p : Nat), n - p = k → ev 517 5 [qR 1, qI (p : Int)] [] τ = some (some (qI (scan isLe n T p : Nat)), τ)
  | 0, p, hk => by rw [b517_5, hX.1, if_neg (by omega), b517_30, scan_end (by omega)]
  | k + 1, p, hk => by
    have h3 := hn.1
    have e : byt n T p = T p := by unfold byt; rw [if_pos (by omega)]
    rw [b517_5, hX.1, if_pos (by omega), b517_13, c_byte hn hX, Option.bind_some, q_push_some]
    dsimp only
    rw [b517_18, c_isL, Option.bind_some, q_push_some]
    dsimp only
    rw [b517_21, e]
    cases hb : isLe (T p)
    · rw [if_pos b01_f, b517_30, scan_no (by rw [hb]; decide)]
    · rw [if_neg (by decide), b517_24 (by omega), scan_in (by omega) hb]
      exact c_wendL hn hX k (p + 1) (by omega)
theorem c_wend {p : Nat} (hn : TT n T) (hX : TX τ n T) (hp : τ 1 4 = (p : Int)) : ev 517 0 [qR 1, qU] [] τ = some (some (qI (scan isLe n T p : Nat)), τ) := by
  rw [b517_0, hp]
  exact c_wendL hn hX (n - p) p rfl
/-- the word from a to e is w -/
def wrd (T : Nat → Int) (a e : Nat) (w : List Int) : Bool := decide (e = a + w.length) && ball (fun i => decide (T (a + i) = w.getD i 0)) w.length
theorem wrd_iff {a e : Nat} {w : List Int} : wrd T a e w = true ↔ e = a + w.length ∧ ∀ i, i < w.length → T (a + i) = w.getD i 0 := by
  unfold wrd
  rw [Bool.and_eq_true, decide_eq_true_iff, ball_iff]
  constructor
  · rintro ⟨h1, h2⟩
    exact ⟨h1, fun i hi => of_decide_eq_true (h2 i hi)⟩
  · rintro ⟨h1, h2⟩
    exact ⟨h1, fun i hi => decide_eq_true (h2 i hi)⟩
theorem c_wordL {a e k : Nat} {x2 : Int} (hn : TT n T) (hX : TX τ n T) (hp : τ 1 4 = (a : Int)) (hk : 100 ≤ k ∧ k < 107) (he : e = a + (q_strs.getD (k - 100) []).length) (hen : e ≤ n) : ∀ (j i : Nat), i + j = (q_strs.getD (k - 100) []).length → (∀ m, m < i → T (a + m) = (q_strs.getD (k - 100) []).getD m 0) → ev 518 17 [qR 1, qR k, qI x2, qI (i : Int)] [] τ = some (some (qI (b01 (wrd T a e (q_strs.getD (k - 100) [])))), τ)
  | 0, i, hj, hi => by
    have : wrd T a e (q_strs.getD (k - 100) []) = true := wrd_iff.mpr ⟨he, fun m hm => hi m (by omega)⟩
    rw [b518_17 hk, if_neg (by omega), b518_51, this]
    rfl
  | j + 1, i, hj, hi => by
    have h3 := hn.1
    have e1 : (a : Int) + (i : Int) = ((a + i : Nat) : Int) := by omega
    have e2 : byt n T (a + i) = T (a + i) := by unfold byt; rw [if_pos (by omega)]
    rw [b518_17 hk, if_pos (by omega), b518_25 (by rw [hp]; omega), hp, e1, c_byte hn hX, Option.bind_some, q_push_some]
    dsimp only
    rw [b518_35 (by omega), e2, Int.toNat_natCast]
    by_cases hq : T (a + i) = (q_strs.getD (k - 100) []).getD i 0
    · rw [if_pos hq, b518_45 (by omega)]
      exact c_wordL hn hX hp hk he hen j (i + 1) (by omega) (fun m hm => by
        by_cases e : m = i
        · subst e; exact hq
        · exact hi m (by omega))
    · have : wrd T a e (q_strs.getD (k - 100) []) = false := by
        cases hw : wrd T a e (q_strs.getD (k - 100) [])
        · rfl
        · exact absurd ((wrd_iff.mp hw).2 i (by omega)) hq
      rw [if_neg hq, b518_43, this]
      rfl
theorem c_word {a e k : Nat} (hn : TT n T) (hX : TX τ n T) (hp : τ 1 4 = (a : Int)) (hk : 100 ≤ k ∧ k < 107) (hae : a ≤ e) (hen : e ≤ n) : ev 518 0 [qR 1, qR k, qI (e : Int), qU] [] τ = some (some (qI (b01 (wrd T a e (q_strs.getD (k - 100) [])))), τ) := by
  have h3 := hn.1
  by_cases he : e = a + (q_strs.getD (k - 100) []).length
  · rw [b518_0 (by rw [hp]; omega), hp, if_pos (by omega), b518_15]
    exact c_wordL hn hX hp hk he hen (q_strs.getD (k - 100) []).length 0 (by omega) (fun m hm => by omega)
  · have : wrd T a e (q_strs.getD (k - 100) []) = false := by
      cases hw : wrd T a e (q_strs.getD (k - 100) [])
      · rfl
      · exact absurd (wrd_iff.mp hw).1 he
    rw [b518_0 (by rw [hp]; omega), hp, if_neg (by omega), b518_13, this]
    rfl
theorem m_hereL {s l f b : Int} (hn : TT n T) (hY : TY σ n T) : ∀ (k p : Nat), n - p = k → ev 905 0 [qR 50] [] (rM σ (p : Int) s l f b) = some (some (qI (byt n T (scan isBl n T p))), rM σ (scan isBl n T p : Nat) s l f b)
  | 0, p, hk => by
    rw [b905_0, rM_25, rM_24, hY.1, if_neg (by omega), b905_38, rM_25, rM_24, hY.1, if_neg (by omega), b905_61, b905_62, scan_end (by omega)]
    unfold byt
    rw [if_neg (by omega)]
  | k + 1, p, hk => by
    have h3 := hn.1
    have e62 : rM σ (p : Int) s l f b 62 p = T p := by rw [rM_ne (by decide)]; exact hY.2 p (by omega)
    rw [b905_0, rM_25, rM_24, hY.1, if_pos (by omega), b905_11 (by rw [rM_25]; omega), rM_25, Int.toNat_natCast, e62]
    by_cases hb : T p = 32
    · rw [if_pos hb, b905_25 (by rw [rM_25]; omega), rM_25, rM_p25, scan_in (by omega) (decide_eq_true hb)]
      exact m_hereL hn hY k (p + 1) (by omega)
    · rw [if_neg hb, b905_38, rM_25, rM_24, hY.1, if_pos (by omega), b905_49 (by rw [rM_25]; omega), rM_25, Int.toNat_natCast, e62, b905_62, scan_no (by unfold isBl; rw [decide_eq_false hb]; decide)]
      unfold byt
      rw [if_pos (by omega)]
theorem m_here {p : Nat} {s l f b : Int} (hn : TT n T) (hY : TY σ n T) : ev 905 0 [qR 50] [] (rM σ (p : Int) s l f b) = some (some (qI (byt n T (scan isBl n T p))), rM σ (scan isBl n T p : Nat) s l f b) := m_hereL hn hY (n - p) p rfl
theorem m_wantY {p s l b x y : Int} : ev 906 0 [qR 50, qI 1, qI x, qI y] [] (rM σ p s l 0 b) = some (some (qI 1), rM σ p s l 0 b) := by
  rw [b906_0, if_neg (by decide), b906_21, rM_28, if_pos rfl, b906_28, b906_33 (by omega)]
theorem m_wantN {p s l b x y : Int} (hx : x ≠ 0) : ev 906 0 [qR 50, qI 0, qI x, qI y] [] (rM σ p s l 0 b) = some (some (qI 0), rM σ p s l x y) := by
  rw [b906_0, if_pos rfl, b906_4, rM_28, if_pos rfl, b906_11, rM_p28, rM_p29, b906_21, rM_28, if_neg hx, b906_32, b906_33 (by omega)]
theorem l_takeL {s l f b : Int} {v : Int} (hn : TT n T) (hY : TY σ n T) : ∀ (k p : Nat), n - p = k → s ≤ p → 0 ≤ s → p ≤ n → ev 907 13 [qR 50, qI v] [] (rM σ (p : Int) s l f b) = some (none, rM σ (scan isLe n T p : Nat) s ((scan isLe n T p : Nat) - s) f b)
  | 0, p, hk, hs, h0, hpn => by
    have h3 := hn.1
    rw [b907_13, rM_25, rM_24, hY.1, if_neg (by omega), b907_59 (by rw [rM_25, rM_26]; omega), rM_25, rM_26, rM_p27, scan_end (by omega)]
  | k + 1, p, hk, hs, h0, hpn => by
    have h3 := hn.1
    have e62 : rM σ (p : Int) s l f b 62 p = T p := by rw [rM_ne (by decide)]; exact hY.2 p (by omega)
    rw [b907_13, rM_25, rM_24, hY.1, if_pos (by omega), b907_24 (by rw [rM_25]; omega), rM_25, Int.toNat_natCast, e62, m_in, Option.bind_some, q_push_some]
    dsimp only
    rw [b907_43]
    by_cases hb : 97 ≤ T p ∧ T p ≤ 122
    · rw [decide_eq_true hb, if_neg (by decide), b907_46 (by rw [rM_25]; omega), rM_25, rM_p25, scan_in (by omega) (decide_eq_true hb)]
      exact l_takeL hn hY k (p + 1) (by omega) (by omega) h0 (by omega)
    · rw [decide_eq_false hb, if_pos b01_f, b907_59 (by rw [rM_25, rM_26]; omega), rM_25, rM_26, rM_p27, scan_no (by unfold isLe; rw [decide_eq_false hb]; decide)]
theorem l_take {p : Nat} {s l f b : Int} (hn : TT n T) (hY : TY σ n T) (hp : p ≤ n) : ev 907 0 [qR 50, qU] [] (rM σ (p : Int) s l f b) = some (none, rM σ (scan isLe n T (scan isBl n T p) : Nat) (scan isBl n T p : Nat) ((scan isLe n T (scan isBl n T p) : Nat) - (scan isBl n T p : Nat)) f b) := by
  have h1 := scan_sp isBl n T p
  rw [b907_0, m_here hn hY, Option.bind_some, q_push_some]
  dsimp only
  rw [b907_4, rM_25, rM_p26]
  exact l_takeL hn hY _ _ rfl (by omega) (by omega) (h1.2.1 hp)
theorem m_wordL {a c : Nat} {l0 l1 l2 l3 l4 : Int} (hn : TT n T) (hY : TY τ n T) (hp : τ 50 26 = (a : Int)) (hc : c ≤ 5) (hen : a + c ≤ n) : ∀ (j i : Nat) (s : Bool), i + j = c → ∃ r, ev 908 18 [qR 50, qI (c : Int), qI l0, qI l1, qI l2, qI l3, qI l4, qI (b01 s), qI (i : Int)] [] τ = some (some (qI (b01 r)), τ) ∧ (r = true ↔ s = true ∧ ∀ m, i ≤ m → m < c → T (a + m) = if m = 0 then l0 else if m = 1 then l1 else if m = 2 then l2 else if m = 3 then l3 else l4)
  | 0, i, s, hj => by
    refine ⟨s, ?_, ?_⟩
    · rw [b908_18, if_neg (by omega), b908_100 (b01_or _)]
    · constructor
      · intro h; exact ⟨h, fun m h1 h2 => by omega⟩
      · exact fun h => h.1
  | j + 1, i, s, hj => by
    have h3 := hn.1
    have e62 : τ 62 (a + i) = T (a + i) := hY.2 _ (by omega)
    cases s
    · refine ⟨false, ?_, ?_⟩
      · rw [b908_18, if_pos (by omega), b908_24, if_pos b01_f, b908_100 (b01_or _)]
      · simp
    · have st : ev 908 18 [qR 50, qI (c : Int), qI l0, qI l1, qI l2, qI l3, qI l4, qI (b01 true), qI (i : Int)] [] τ = ev 908 84 [qR 50, qI (c : Int), qI l0, qI l1, qI l2, qI l3, qI l4, qI (b01 true), qI (i : Int)] [qI (if i = 0 then l0 else if i = 1 then l1 else if i = 2 then l2 else if i = 3 then l3 else l4), qI (T (a + i))] τ := by
        rw [b908_18, if_pos (by omega), b908_24, if_neg (by decide), b908_29 (by rw [hp]; omega), hp, show ((a : Int) + (i : Int)).toNat = a + i by omega, e62]
        by_cases h0 : i = 0
        · rw [if_pos (by omega), b908_46, if_pos h0]
        · rw [if_neg (by omega), b908_50, if_neg h0]
          by_cases h1 : i = 1
          · rw [if_pos (by omega), b908_56, if_pos h1]
          · rw [if_neg (by omega), b908_60, if_neg h1]
            by_cases h2 : i = 2
            · rw [if_pos (by omega), b908_66, if_pos h2]
            · rw [if_neg (by omega), b908_71, if_neg h2]
              by_cases h4 : i = 3
              · rw [if_pos (by omega), b908_77, if_pos h4]
              · rw [if_neg (by omega), b908_82, if_neg h4]
      rw [st, b908_84]
      by_cases hq : T (a + i) = if i = 0 then l0 else if i = 1 then l1 else if i = 2 then l2 else if i = 3 then l3 else l4
      · obtain ⟨r, r1, r2⟩ := m_wordL hn hY hp hc hen j (i + 1) true (by omega)
        refine ⟨r, ?_, ?_⟩
        · rw [if_pos hq, b908_87, b908_92 (by omega)]
          exact r1
        · rw [r2]
          constructor
          · rintro ⟨-, h⟩
            refine ⟨rfl, fun m h1 h2 => ?_⟩
            by_cases e : m = i
            · subst e; exact hq
            · exact h m (by omega) h2
          · rintro ⟨-, h⟩
            exact ⟨rfl, fun m h1 h2 => h m (by omega) h2⟩
      · obtain ⟨r, r1, r2⟩ := m_wordL hn hY hp hc hen j (i + 1) false (by omega)
        refine ⟨r, ?_, ?_⟩
        · rw [if_neg hq, b908_91, b908_92 (by omega)]
          exact r1
        · rw [r2]
          constructor
          · rintro ⟨h, -⟩; cases h
          · rintro ⟨-, h⟩
            exact absurd (h i (by omega) (by omega)) hq
theorem m_word {a e : Nat} {w : List Int} {l0 l1 l2 l3 l4 : Int} (hn : TT n T) (hY : TY τ n T) (hp : τ 50 26 = (a : Int)) (hl : τ 50 27 = (e : Int) - (a : Int)) (hae : a ≤ e) (hen : e ≤ n) (hc : w.length ≤ 5) (hw : ∀ m, m < w.length → w.getD m 0 = if m = 0 then l0 else if m = 1 then l1 else if m = 2 then l2 else if m = 3 then l3 else l4) {c : Int} (hcw : c = (w.length : Int)) : ev 908 0 [qR 50, qI c, qI l0, qI l1, qI l2, qI l3, qI l4, qU, qU] [] τ = some (some (qI (b01 (wrd T a e w))), τ) := by
  subst hcw
  by_cases he : e = a + w.length
  · obtain ⟨r, r1, r2⟩ := m_wordL (l0 := l0) (l1 := l1) (l2 := l2) (l3 := l3) (l4 := l4) hn hY hp hc (by omega) w.length 0 true (by omega)
    have : r = wrd T a e w := by
      rw [Bool.eq_iff_iff, r2, wrd_iff]
      constructor
      · rintro ⟨-, h⟩
        exact ⟨he, fun m hm => by rw [hw m hm]; exact h m (by omega) hm⟩
      · rintro ⟨-, h⟩
        exact ⟨rfl, fun m _ hm => by rw [← hw m hm]; exact h m hm⟩
    rw [this] at r1
    rw [b908_0, hl, if_pos (by omega), b908_8, b908_13]
    exact r1
  · have : wrd T a e w = false := by
      cases hx : wrd T a e w
      · rfl
      · exact absurd (wrd_iff.mp hx).1 he
    rw [b908_0, hl, if_neg (by omega), b908_12, b908_13, b908_18, this]
    split
    · rw [b908_24, if_pos rfl, b908_100 (by omega)]; rfl
    · rw [b908_100 (by omega)]; rfl
end LR
