/-! ===== attempt ===== -/
theorem ev_locS {P : Nat → Prop} (hP : Clo P) {mi pc : Nat} {L S : List AV} {σ : SS} {r : Option AV} {σ' : SS} (hL : ∀ v ∈ L, okR P v) (hS : ∀ v ∈ S, okR P v) (h : ev mi pc L S σ = some (r, σ')) : (∀ k, ¬ Mp P k → σ' k = σ k) ∧ ∀ τ : SS, (∀ k, Mp P k → τ k = σ k) → ∃ τ', ev mi pc L S τ = some (r, τ') ∧ (∀ k, Mp P k → τ' k = σ' k) ∧ (∀ k, ¬ Mp P k → τ' k = τ k) := by
  obtain ⟨n, hn⟩ := ev_iff.mp h
  obtain ⟨-, h2, h3⟩ := loc_run hP n mi pc L S σ r σ' hL hS hn
  refine ⟨h2, fun τ ht => ?_⟩
  obtain ⟨τ', a, b, c⟩ := h3 τ ht
  exact ⟨τ', ev_iff.mpr ⟨n, a⟩, b, c⟩
theorem mp_c {k : Nat} : Mp P_c k ↔ k < 50 := by
  unfold Mp P_c
  omega
theorem mp_m {k : Nat} : Mp P_m k ↔ 50 ≤ k ∧ k < 100 := by
  unfold Mp P_m
  omega
/-- what only reads the class's cells -/
theorem ro_c {mi : Nat} {L : List AV} {r : Option AV} {σ τ : SS} (hL : ∀ v ∈ L, okR P_c v) (h : ev mi 0 L [] τ = some (r, τ)) (e : ∀ k, k < 50 → σ k = τ k) : ev mi 0 L [] σ = some (r, σ) := by
  obtain ⟨σ', a, b, c⟩ := (ev_loc clo_c hL h).2 σ (fun k hk => e k (mp_c.mp hk))
  rw [a]
  have : σ' = σ := by
    funext k
    by_cases hk : Mp P_c k
    · rw [b k hk, e k (mp_c.mp hk)]
    · exact c k hk
  rw [this]
theorem ro_m {mi : Nat} {L : List AV} {r : Option AV} {σ τ : SS} (hL : ∀ v ∈ L, okR P_m v) (h : ev mi 0 L [] τ = some (r, τ)) (e : ∀ k, 50 ≤ k → σ k = τ k) : ev mi 0 L [] σ = some (r, σ) := by
  obtain ⟨σ', a, b, c⟩ := (ev_loc clo_m hL h).2 σ (fun k hk => e k (mp_m.mp hk).1)
  rw [a]
  have : σ' = σ := by
    funext k
    by_cases hk : Mp P_m k
    · rw [b k hk, e k (mp_m.mp hk).1]
    · exact c k hk
  rw [this]
/-- the night with married, found, tries told anew -/
def nwc (σ : SS) (m f t : Int) : SS := fun k j => if k = 21 then (if j = 5 then m else if j = 6 then f else if j = 7 then t else σ 21 j) else σ k j
theorem nwc_ne {σ : SS} {m f t : Int} {k : Nat} (h : k ≠ 21) : nwc σ m f t k = σ k := by
  funext j
  unfold nwc
  rw [if_neg h]
theorem nwc_j {σ : SS} {m f t : Int} {j : Nat} (h : j ≠ 5 ∧ j ≠ 6 ∧ j ≠ 7) : nwc σ m f t 21 j = σ 21 j := by
  unfold nwc
  rw [if_pos rfl, if_neg h.1, if_neg h.2.1, if_neg h.2.2]
theorem nwc_5 {σ : SS} {m f t : Int} : nwc σ m f t 21 5 = m := rfl
theorem nwc_6 {σ : SS} {m f t : Int} : nwc σ m f t 21 6 = f := rfl
theorem nwc_7 {σ : SS} {m f t : Int} : nwc σ m f t 21 7 = t := rfl
theorem nwc_id {σ : SS} : nwc σ (σ 21 5) (σ 21 6) (σ 21 7) = σ := by
  funext k j
  unfold nwc
  split
  · subst k
    split
    · subst j; rfl
    · split
      · subst j; rfl
      · split
        · subst j; rfl
        · rfl
  · rfl
theorem nwc_p5 {σ : SS} {m f t v : Int} : q_put (nwc σ m f t) 21 5 v = nwc σ v f t := by
  funext k j
  unfold q_put nwc
  by_cases h : k = 21
  · subst h
    by_cases h5 : j = 5
    · simp [h5]
    · simp [h5]
  · simp [h]
theorem nwc_p6 {σ : SS} {m f t v : Int} : q_put (nwc σ m f t) 21 6 v = nwc σ m v t := by
  funext k j
  unfold q_put nwc
  by_cases h : k = 21
  · subst h
    by_cases h5 : j = 6
    · simp [h5]
    · simp [h5]
  · simp [h]
theorem nwc_p7 {σ : SS} {m f t v : Int} : q_put (nwc σ m f t) 21 7 v = nwc σ m f v := by
  funext k j
  unfold q_put nwc
  by_cases h : k = 21
  · subst h
    by_cases h5 : j = 7
    · simp [h5]
    · simp [h5]
  · simp [h]
section O9
variable {σ : SS} {N : Int}
/-- both sides told anew -/
theorem RR.nw {m f t : Int} (h : RR σ N) {σ2 : SS} (hm : 0 ≤ m ∧ m < 64) (hf : 0 ≤ f ∧ f ≤ 1) (ht : 0 ≤ t ∧ t ≤ 9999) (em : ∀ k, 50 ≤ k → k ≠ 51 → σ2 k = σ k) (e1 : ∀ j, j ≠ 18 → j ≠ 19 → j ≠ 20 → σ2 51 j = σ 51 j) (e18 : σ2 51 18 = m) (e19 : σ2 51 19 = f) (e20 : σ2 51 20 = t) {N' : Int} (hN : N ≤ N') (hN' : N' ≤ 100000) : RR (mix (nwc σ m f t) σ2) N' := by
  have hn := h.n
  have htt := h.t
  refine h.night hN hN' ?_ ?_ ?_ ?_
  · intro k hk
    rw [nwc_ne (by rintro rfl; revert hk; decide)]
  · intro k hk
    exact em k (by revert hk; revert k; decide) (by rintro rfl; revert hk; decide)
  · intro j hj
    exact e1 j (by omega) (by omega) (by omega)
  · refine RN_mk ?_ (fun g hg => ?_)
    · simp (disch := decide) only [mix_c, mix_m, nwc_5, nwc_6, nwc_7, nwc_j, e18, e19, e20, e1 21, e1 22, e1 23, em 50, true_and]
      omega
    · revert hg
      simp (disch := decide) only [mix_c, mix_m, nwc_ne, em 50]
      intro hg
      have := h.ng hg
      rw [e1 g (by omega) (by omega) (by omega), e1 (6 + g) (by omega) (by omega) (by omega), e1 (12 + g) (by omega) (by omega) (by omega), e1 21 (by omega) (by omega) (by omega)]
      exact this
def nwm (σ : SS) (m f t : Int) : SS := q_put (q_put (q_put σ 51 18 m) 51 19 f) 51 20 t
theorem RR.nw2 {m f t : Int} (h : RR σ N) (hm : 0 ≤ m ∧ m < 64) (hf : 0 ≤ f ∧ f ≤ 1) (ht : 0 ≤ t ∧ t ≤ 9999) : RR (mix (nwc σ m f t) (nwm σ m f t)) N := by
  have hn := h.n
  refine h.nw hm hf ht ?_ ?_ ?_ ?_ ?_ (by omega) (by omega)
  · intro k _ hk
    unfold nwm
    rw [put_ne hk, put_ne hk, put_ne hk]
  · intro j h1 h2 h3
    unfold nwm
    rw [rw_sl h3, rw_sl h2, rw_sl h1]
  · rfl
  · rfl
  · rfl
theorem fit_nw {m f t g hour : Int} (h : RR σ N) (hg : 0 ≤ g ∧ g < σ 50 14) : p_fit (mix (nwc σ m f t) (nwm σ m f t)) (p_ft (mix (nwc σ m f t) (nwm σ m f t)) g hour) (p_gl (mix (nwc σ m f t) (nwm σ m f t)) t) = p_fit σ (p_ft σ g hour) (p_gl σ t) := by
  have ht := h.t
  have e : ∀ k, 50 ≤ k → k ≠ 51 → mix (nwc σ m f t) (nwm σ m f t) k = σ k := by
    intro k h1 h2
    rw [mix_m h1]
    unfold nwm
    rw [put_ne h2, put_ne h2, put_ne h2]
  have e1 : ∀ j, j < 18 → mix (nwc σ m f t) (nwm σ m f t) 51 j = σ 51 j := by
    intro j hj
    rw [mix_m (by decide)]
    unfold nwm
    rw [rw_sl (by omega), rw_sl (by omega), rw_sl (by omega)]
  unfold p_fit p_gl p_ft p_fb p_soak
  rw [e 53 (by decide) (by decide), e 50 (by decide) (by decide), e 54 (by decide) (by decide), e 57 (by decide) (by decide), e 58 (by decide) (by decide), e1 (6 + g).toNat (by omega), e1 (12 + g).toNat (by omega), e1 g.toNat (by omega)]
/-- she tries it on: who, after how many tries -/
def a_tried (σ : SS) (i : Nat) : Bool := decide (σ 51 i = σ 51 22) && !(σ 51 18).toNat.testBit i
def a_t (σ : SS) : Nat → Int
  | 0 => σ 51 20
  | i + 1 => if a_tried σ i then (if a_t σ i < 9999 then a_t σ i + 1 else a_t σ i) else a_t σ i
def a_fit (σ : SS) (i : Nat) : Bool := a_tried σ i && p_fit σ (p_ft σ i (σ 51 21)) (p_gl σ (a_t σ i))
def a_wed (σ : SS) (i : Nat) : Bool := a_fit σ i && decide ((i : Int) ≠ σ 50 16)
def a_m (σ : SS) (i : Nat) : Int := (((σ 51 18).toNat ||| bset (a_wed σ) i : Nat) : Int)
def a_f (σ : SS) (i : Nat) : Int := if σ 50 16 < i ∧ a_fit σ (σ 50 16).toNat = true then 1 else σ 51 19
theorem a_t_rng (h : RR σ N) : ∀ i, 0 ≤ a_t σ i ∧ a_t σ i ≤ 9999
  | 0 => by
    have hn := h.n
    unfold a_t
    omega
  | i + 1 => by
    have := a_t_rng h i
    unfold a_t
    split
    · split <;> omega
    · exact this
theorem a_m_rng (h : RR σ N) {i : Nat} (hi : i ≤ 6) : 0 ≤ a_m σ i ∧ a_m σ i < 64 := by
  have hn := h.n
  have h1 : (σ 51 18).toNat ||| bset (a_wed σ) i < 2 ^ 6 := Nat.or_lt_two_pow (by omega) (by have := bset_64 (p := a_wed σ) hi; omega)
  unfold a_m
  omega
theorem a_f_rng (h : RR σ N) {i : Nat} : 0 ≤ a_f σ i ∧ a_f σ i ≤ 1 := by
  have hn := h.n
  unfold a_f
  split <;> omega
theorem c_tryOn {g : Int} (h : RR σ N) (hg : 0 ≤ g ∧ g < σ 50 14) {m f t : Int} (hm : 0 ≤ m ∧ m < 64) (hf : 0 ≤ f ∧ f ≤ 1) (htr : 0 ≤ t ∧ t ≤ 9999) : ev 813 0 [qR 0, qI g, qU] [] (nwc σ m f t) = some (some (qI (b01 (p_fit σ (p_ft σ g (σ 51 21)) (p_gl σ t)))), nwc σ (if p_fit σ (p_ft σ g (σ 51 21)) (p_gl σ t) = true ∧ g ≠ σ 50 16 then q_or m (q_shl 1 g) else m) (if p_fit σ (p_ft σ g (σ 51 21)) (p_gl σ t) = true ∧ g = σ 50 16 then 1 else f) (if t < 9999 then t + 1 else t)) := by
  have hn := h.n
  have ht := h.t
  have hR := h.nw2 hm hf htr
  have hF := fit_nw (m := m) (f := f) (t := t) (hour := σ 51 21) h hg
  have e0 : (mix (nwc σ m f t) (nwm σ m f t)) 50 14 = σ 50 14 := by
    rw [mix_m (by decide)]; unfold nwm; rw [put_ne (by decide), put_ne (by decide), put_ne (by decide)]
  have e20 : (mix (nwc σ m f t) (nwm σ m f t)) 51 20 = t := by
    rw [mix_m (by decide)]; rfl
  have c0 := c_fitsThen hR (g := g) (hour := σ 51 21) (by rw [e0]; exact hg) (by omega)
  rw [e20, hF] at c0
  have c1 := ro_c (σ := nwc σ m f t) (by simp [okR, P_c]) c0 (fun k hk => (mix_c hk).symm)
  have e3 : nwc σ m f t 21 3 = σ 51 21 := by rw [nwc_j (by decide)]; omega
  have e15 : nwc σ m f t 12 15 = σ 50 16 := by rw [nwc_ne (by decide)]; omega
  have hmin : ∀ σ' : SS, ev 1202 0 [qI (t + 1), qI 9999] [] σ' = some (some (qI (if t < 9999 then t + 1 else t)), σ') := by
    intro σ'
    rw [j_min]
    apply rI
    split <;> split <;> omega
  have tail : ∀ (s : Bool) (m' f' : Int), ev 813 61 [qR 0, qI g, qI (b01 s)] [] (nwc σ m' f' t) = some (some (qI (b01 s)), nwc σ m' f' (if t < 9999 then t + 1 else t)) := by
    intro s m' f'
    rw [b813_61 (by rw [nwc_7]; omega), nwc_7, hmin]
    simp (disch := first | omega | exact b01_or _) only [Option.bind_some, q_push_some, q_push_none, b813_80, nwc_p7]
  rw [b813_0, e3, c1]
  cases c2 : p_fit σ (p_ft σ g (σ 51 21)) (p_gl σ t)
  · simp (disch := first | omega | exact b01_or _) only [Option.bind_some, q_push_some, q_push_none, b813_15, b813_42, b01_eq0, b01_eq1, decide_eq_false_iff_not, decide_eq_true_eq, ite_not, b01_t, b01_f, one_ne0, zero_eq0, Bool.true_eq_false, Bool.false_eq_true, ite_true, ite_false, and_self, and_true, true_and, not_true_eq_false, not_false_eq_true, false_and]
    exact tail false m f
  · by_cases hs : g = σ 50 16
    · simp (disch := first | omega | exact b01_or _) only [Option.bind_some, q_push_some, q_push_none, b813_15, b813_20, b813_31, e15, hs, nwc_p6, b01_eq0, b01_eq1, decide_eq_false_iff_not, decide_eq_true_eq, ite_not, b01_t, b01_f, one_ne0, zero_eq0, Bool.true_eq_false, Bool.false_eq_true, ite_true, ite_false, and_self, and_true, true_and, not_true_eq_false, not_false_eq_true, ne_eq, not_true_eq_false, and_false]
      rw [← hs]
      exact tail true m 1
    · simp (disch := first | omega | exact b01_or _) only [Option.bind_some, q_push_some, q_push_none, b813_15, b813_20, b813_42, b813_46, e15, hs, nwc_5, nwc_p5, b01_eq0, b01_eq1, decide_eq_false_iff_not, decide_eq_true_eq, ite_not, b01_t, b01_f, one_ne0, zero_eq0, Bool.true_eq_false, Bool.false_eq_true, ite_true, ite_false, and_self, and_true, true_and, not_true_eq_false, not_false_eq_true, ne_eq, not_false_eq_true, and_false]
      exact tail true _ f
theorem a_m_bit (h : RR σ N) {i : Nat} : ((a_m σ i).toNat).testBit i = (σ 51 18).toNat.testBit i := by
  unfold a_m
  rw [Int.toNat_natCast, Nat.testBit_or, bset_tb]
  simp
theorem a_m_step (h : RR σ N) {g : Int} (hg : 0 ≤ g ∧ g < 6) : a_m σ (g + 1).toNat = if a_fit σ g.toNat = true ∧ g ≠ σ 50 16 then q_or (a_m σ g.toNat) (q_shl 1 g) else a_m σ g.toNat := by
  have hn := h.n
  obtain ⟨n, rfl⟩ : ∃ n : Nat, g = n := ⟨g.toNat, by omega⟩
  rw [show ((n : Int) + 1).toNat = n + 1 by omega, Int.toNat_natCast]
  have h2 : 2 ^ n < 2147483648 := by
    have := Nat.pow_lt_pow_right (a := 2) (by omega) (show n < 31 by omega)
    omega
  have h3 : (σ 51 18).toNat ||| bset (a_wed σ) n < 2147483648 := Nat.or_lt_two_pow (n := 31) (by omega) (by have := bset_31 (p := a_wed σ) (n := n) (by omega); omega)
  unfold a_m
  rw [bset]
  by_cases hc : a_fit σ n = true ∧ (n : Int) ≠ σ 50 16
  · have hw : a_wed σ n = true := by
      unfold a_wed
      rw [hc.1, decide_eq_true hc.2]; rfl
    rw [if_pos hc, if_pos hw, q_shl1 (by omega), q_or_nat h3 h2, Nat.or_assoc]
  · have hw : ¬ a_wed σ n = true := by
      intro z
      unfold a_wed at z
      rw [Bool.and_eq_true] at z
      exact hc ⟨z.1, of_decide_eq_true z.2⟩
    rw [if_neg hc, if_neg hw]
theorem a_f_step (h : RR σ N) {g : Int} (hg : 0 ≤ g ∧ g < 6) : a_f σ (g + 1).toNat = if a_fit σ g.toNat = true ∧ g = σ 50 16 then 1 else a_f σ g.toNat := by
  have ht := h.t
  unfold a_f
  rw [show (((g + 1).toNat : Nat) : Int) = g + 1 by omega, show ((g.toNat : Nat) : Int) = g by omega]
  by_cases he : g = σ 50 16
  · subst he
    by_cases hf : a_fit σ (σ 50 16).toNat = true
    · rw [if_pos ⟨by omega, hf⟩, if_pos ⟨hf, rfl⟩]
    · rw [if_neg (fun z => hf z.2), if_neg (fun z => hf z.1), if_neg (fun z => hf z.2)]
  · rw [if_neg (fun z : a_fit σ g.toNat = true ∧ g = σ 50 16 => he z.2)]
    by_cases hl : σ 50 16 < g
    · by_cases hf : a_fit σ (σ 50 16).toNat = true
      · rw [if_pos ⟨by omega, hf⟩, if_pos ⟨hl, hf⟩]
      · rw [if_neg (fun z => hf z.2), if_neg (fun z => hf z.2)]
    · rw [if_neg (fun z => by omega), if_neg (fun z => hl z.1)]
theorem a_t_step {g : Int} (hg : 0 ≤ g) : a_t σ (g + 1).toNat = if a_tried σ g.toNat = true then (if a_t σ g.toNat < 9999 then a_t σ g.toNat + 1 else a_t σ g.toNat) else a_t σ g.toNat := by
  rw [show (g + 1).toNat = g.toNat + 1 by omega]
  rfl
def a_C (σ : SS) (i : Nat) : SS := nwc σ (a_m σ i) (a_f σ i) (a_t σ i)
theorem c_attL (h : RR σ N) : ∀ (k : Nat) (g : Int), 0 ≤ g → g + k = σ 50 14 → ev 812 17 [qR 0, qI (bset (a_fit σ) g.toNat : Nat), qI g] [] (a_C σ g.toNat) = some (some (qI (bset (a_fit σ) (σ 50 14).toNat : Nat)), a_C σ (σ 50 14).toNat)
  | 0, g, h0, hk => by
    have ht := h.t
    have e : g = σ 50 14 := by omega
    have e10 : a_C σ g.toNat 12 10 = σ 50 14 := by unfold a_C; rw [nwc_ne (by decide)]; omega
    rw [b812_17, e10, if_neg (by omega), b812_81, e]
  | k + 1, g, h0, hk => by
    have ht := h.t
    have hn := h.n
    have hG := h.g h0 (by omega)
    have eg : ((g.toNat : Nat) : Int) = g := by omega
    have ih := c_attL h k (g + 1) (by omega) (by omega)
    have e10 : a_C σ g.toNat 12 10 = σ 50 14 := by unfold a_C; rw [nwc_ne (by decide)]; omega
    have e22 : a_C σ g.toNat 22 g.toNat = σ 51 g.toNat := by unfold a_C; rw [nwc_ne (by decide)]; omega
    have e4 : a_C σ g.toNat 21 4 = σ 51 22 := by unfold a_C; rw [nwc_j (by decide)]; omega
    have e5 : a_C σ g.toNat 21 5 = a_m σ g.toNat := rfl
    have rm := a_m_rng h (i := g.toNat) (by omega)
    have rt := a_t_rng h g.toNat
    have rf := a_f_rng h (i := g.toNat)
    have sm := a_m_step h (g := g) (by omega)
    have sf := a_f_step h (g := g) (by omega)
    have st := a_t_step (σ := σ) h0
    have hskip : a_tried σ g.toNat = false → ev 812 75 [qR 0, qI (bset (a_fit σ) g.toNat : Nat), qI g] [] (a_C σ g.toNat) = some (some (qI (bset (a_fit σ) (σ 50 14).toNat : Nat)), a_C σ (σ 50 14).toNat) := by
      intro hz
      have hfz : ¬ a_fit σ g.toNat = true := by unfold a_fit; rw [hz]; simp
      rw [if_neg (fun z => hfz z.1)] at sm sf
      rw [hz, if_neg (by simp)] at st
      have eC : a_C σ g.toNat = a_C σ (g + 1).toNat := by unfold a_C; rw [sm, sf, st]
      rw [b812_75 (by omega), bsI_no h0 hfz, eC]
      exact ih
    rw [b812_17, e10, if_pos (by omega), b812_28 (by omega), e22, e4]
    by_cases hh : σ 51 g.toNat = σ 51 22
    · rw [if_pos hh, b812_47, e5, c_has (by omega), decide_eq_true h0, Bool.true_and, a_m_bit h]
      cases hm : (σ 51 18).toNat.testBit g.toNat
      · have htr : a_tried σ g.toNat = true := by unfold a_tried; rw [decide_eq_true hh, hm]; rfl
        have hft : a_fit σ g.toNat = p_fit σ (p_ft σ g (σ 51 21)) (p_gl σ (a_t σ g.toNat)) := by unfold a_fit; rw [htr, eg]; rfl
        have hc := c_tryOn h (g := g) (by omega) rm rf rt
        rw [← hft] at hc
        rw [if_pos htr] at st
        rw [← sm, ← sf, ← st] at hc
        simp (disch := first | omega | exact b01_or _) only [Option.bind_some, q_push_some, q_push_none, b812_58, b812_61, b01_eq0, b01_eq1, decide_eq_false_iff_not, decide_eq_true_eq, ite_not, b01_t, b01_f, one_ne0, zero_eq0, Bool.true_eq_false, Bool.false_eq_true, ite_true, ite_false, and_self, and_true, true_and, not_true_eq_false, not_false_eq_true]
        refine Eq.trans (congrArg (fun z => Option.bind z _) hc) ?_
        by_cases hq : a_fit σ g.toNat = true
        · simp (disch := first | omega | exact b01_or _) only [Option.bind_some, q_push_some, q_push_none, b812_66, b812_69, b812_75, hq, b01_eq0, b01_eq1, decide_eq_false_iff_not, decide_eq_true_eq, ite_not, b01_t, b01_f, one_ne0, zero_eq0, Bool.true_eq_false, Bool.false_eq_true, ite_true, ite_false, and_self, and_true, true_and, not_true_eq_false, not_false_eq_true]
          rw [bsI_yes (by omega) hq]
          exact ih
        · simp (disch := first | omega | exact b01_or _) only [Option.bind_some, q_push_some, q_push_none, b812_66, b812_75, hq, b01_eq0, b01_eq1, decide_eq_false_iff_not, decide_eq_true_eq, ite_not, b01_t, b01_f, one_ne0, zero_eq0, Bool.true_eq_false, Bool.false_eq_true, ite_true, ite_false, and_self, and_true, true_and, not_true_eq_false, not_false_eq_true]
          rw [bsI_no h0 hq]
          exact ih
      · simp (disch := first | omega | exact b01_or _) only [Option.bind_some, q_push_some, q_push_none, b812_58, b01_eq0, b01_eq1, decide_eq_false_iff_not, decide_eq_true_eq, ite_not, b01_t, b01_f, one_ne0, zero_eq0, Bool.true_eq_false, Bool.false_eq_true, ite_true, ite_false, and_self, and_true, true_and, not_true_eq_false, not_false_eq_true]
        exact hskip (by unfold a_tried; rw [hm]; simp)
    · rw [if_neg hh]
      exact hskip (by unfold a_tried; rw [decide_eq_false hh]; rfl)
theorem m_attL (h : RR σ N) : ∀ (k : Nat) (g : Int) (v : AV), 0 ≤ g → g + k = σ 50 14 → ∃ w, ev 937 14 [qR 50, qI (bset (a_fit σ) g.toNat : Nat), qI g, v] [] (q_put σ 51 20 (a_t σ g.toNat)) = ev 937 116 [qR 50, qI (bset (a_fit σ) (σ 50 14).toNat : Nat), qI (σ 50 14), w] [] (q_put σ 51 20 (a_t σ (σ 50 14).toNat))
  | 0, g, v, h0, hk => by
    have e : g = σ 50 14 := by omega
    refine ⟨v, ?_⟩
    rw [b937_14, put_ne (by decide), if_neg (by omega), e]
  | k + 1, g, v, h0, hk => by
    have ht := h.t
    have hn := h.n
    have hG := h.g h0 (by omega)
    have eg : ((g.toNat : Nat) : Int) = g := by omega
    have rt := a_t_rng h g.toNat
    have st := a_t_step (σ := σ) h0
    have hpp : ∀ t t' : Int, q_put (q_put σ 51 20 t) 51 20 t' = q_put σ 51 20 t' := by
      intro t t'
      funext k j
      unfold q_put
      split <;> simp [*]
    have hskip : ∀ v : AV, a_tried σ g.toNat = false → ∃ w, ev 937 110 [qR 50, qI (bset (a_fit σ) g.toNat : Nat), qI g, v] [] (q_put σ 51 20 (a_t σ g.toNat)) = ev 937 116 [qR 50, qI (bset (a_fit σ) (σ 50 14).toNat : Nat), qI (σ 50 14), w] [] (q_put σ 51 20 (a_t σ (σ 50 14).toNat)) := by
      intro v hz
      have hfz : ¬ a_fit σ g.toNat = true := by unfold a_fit; rw [hz]; simp
      rw [hz, if_neg (by simp)] at st
      obtain ⟨w, ih⟩ := m_attL h k (g + 1) v (by omega) (by omega)
      refine ⟨w, ?_⟩
      rw [b937_110 (by omega), bsI_no h0 hfz, ← st]
      exact ih
    rw [b937_14, put_ne (by decide), if_pos (by omega), b937_22 (by omega), rw_sl (show g.toNat ≠ 20 by omega), rw_sl (show (22 : Nat) ≠ 20 by decide)]
    by_cases hh : σ 51 g.toNat = σ 51 22
    · rw [if_pos hh, b937_38, rw_sl (show (18 : Nat) ≠ 20 by decide), m_has (by omega)]
      cases hm : (σ 51 18).toNat.testBit g.toNat
      · have htr : a_tried σ g.toNat = true := by unfold a_tried; rw [decide_eq_true hh, hm]; rfl
        have hft : a_fit σ g.toNat = p_fit σ (p_ft σ g (σ 51 21)) (p_gl σ (a_t σ g.toNat)) := by unfold a_fit; rw [htr, eg]; rfl
        rw [if_pos htr] at st
        have hR : RR (mix (nwc σ (σ 51 18) (σ 51 19) (a_t σ g.toNat)) (q_put σ 51 20 (a_t σ g.toNat))) N := by
          refine h.nw (by omega) (by omega) (by omega) ?_ ?_ ?_ ?_ ?_ (by omega) (by omega)
          · intro k _ hk
            rw [put_ne hk]
          · intro j _ _ hj
            rw [rw_sl hj]
          · rw [rw_sl (by decide)]
          · rw [rw_sl (by decide)]
          · rw [rw_eq]
        have rx : ∀ k, 50 ≤ k → q_put σ 51 20 (a_t σ g.toNat) k = mix (nwc σ (σ 51 18) (σ 51 19) (a_t σ g.toNat)) (q_put σ 51 20 (a_t σ g.toNat)) k := fun k hk => (mix_m hk).symm
        have e14 : mix (nwc σ (σ 51 18) (σ 51 19) (a_t σ g.toNat)) (q_put σ 51 20 (a_t σ g.toNat)) 50 14 = σ 50 14 := by rw [mix_m (by decide), put_ne (by decide)]
        have hg' : 0 ≤ g ∧ g < mix (nwc σ (σ 51 18) (σ 51 19) (a_t σ g.toNat)) (q_put σ 51 20 (a_t σ g.toNat)) 50 14 := by rw [e14]; omega
        have r1 := p_ft_rng (hour := σ 51 21) hR hg'
        have r2 := p_gn_rng hR
        have f1 := ro_m (by simp [okR, P_m]) (m_footAt hR hg' (hour := σ 51 21) (by omega)) rx
        have f2 := ro_m (by simp [okR, P_m]) (m_glassNow hR) rx
        have f3 := ro_m (by simp [okR, P_m]) (m_fits hR (v := p_ft (mix (nwc σ (σ 51 18) (σ 51 19) (a_t σ g.toNat)) (q_put σ 51 20 (a_t σ g.toNat))) g (σ 51 21)) (gl := p_gl (mix (nwc σ (σ 51 18) (σ 51 19) (a_t σ g.toNat)) (q_put σ 51 20 (a_t σ g.toNat))) (mix (nwc σ (σ 51 18) (σ 51 19) (a_t σ g.toNat)) (q_put σ 51 20 (a_t σ g.toNat)) 51 20)) (by omega) (by omega)) rx
        have f4 : p_fit (mix (nwc σ (σ 51 18) (σ 51 19) (a_t σ g.toNat)) (q_put σ 51 20 (a_t σ g.toNat))) (p_ft (mix (nwc σ (σ 51 18) (σ 51 19) (a_t σ g.toNat)) (q_put σ 51 20 (a_t σ g.toNat))) g (σ 51 21)) (p_gl (mix (nwc σ (σ 51 18) (σ 51 19) (a_t σ g.toNat)) (q_put σ 51 20 (a_t σ g.toNat))) (mix (nwc σ (σ 51 18) (σ 51 19) (a_t σ g.toNat)) (q_put σ 51 20 (a_t σ g.toNat)) 51 20)) = a_fit σ g.toNat := by
          rw [hft]
          unfold p_fit p_gl p_ft p_fb p_soak
          simp (disch := first | decide | omega) only [mix_m, rw_ne, rw_eq, rw_sl]
        rw [f4] at f3
        simp (disch := first | omega | exact b01_or _) only [Option.bind_some, q_push_some, q_push_none, b937_49, b937_52, b937_65, b937_69, b937_72, rw_sl, rw_eq, f1, f2, f3, b01_eq0, b01_eq1, decide_eq_false_iff_not, decide_eq_true_eq, ite_not, b01_t, b01_f, one_ne0, zero_eq0, Bool.true_eq_false, Bool.false_eq_true, ite_true, ite_false, and_self, and_true, true_and, not_true_eq_false, not_false_eq_true]
        have key : ∀ z : Int, a_t σ g.toNat + z = a_t σ (g + 1).toNat → ∃ w, ev 937 99 [qR 50, qI (bset (a_fit σ) g.toNat : Nat), qI g, qI (b01 (a_fit σ g.toNat))] [qI z, qI (a_t σ g.toNat), qI 20, qR 51] (q_put σ 51 20 (a_t σ g.toNat)) = ev 937 116 [qR 50, qI (bset (a_fit σ) (σ 50 14).toNat : Nat), qI (σ 50 14), w] [] (q_put σ 51 20 (a_t σ (σ 50 14).toNat)) := by
          intro z hz
          have rt' := a_t_rng h (g + 1).toNat
          obtain ⟨w, ih⟩ := m_attL h k (g + 1) (qI (b01 (a_fit σ g.toNat))) (by omega) (by omega)
          refine ⟨w, ?_⟩
          rw [b937_99 (by omega), hz, show (20 : Int).toNat = 20 from rfl, hpp]
          simp (disch := first | omega | exact b01_or _) only [m_one, Option.bind_some, q_push_some, q_push_none, b937_106, b937_110]
          rw [bsI_one (by omega) rfl]
          exact ih
        by_cases hq : a_t σ g.toNat < 9999
        · rw [if_pos hq] at st
          rw [if_pos hq, b937_94]
          exact key 1 (by omega)
        · rw [if_neg hq] at st
          rw [if_neg hq, b937_98]
          exact key 0 (by omega)
      · simp (disch := first | omega | exact b01_or _) only [Option.bind_some, q_push_some, q_push_none, b937_49, b01_eq0, b01_eq1, decide_eq_false_iff_not, decide_eq_true_eq, ite_not, b01_t, b01_f, one_ne0, zero_eq0, Bool.true_eq_false, Bool.false_eq_true, ite_true, ite_false, and_self, and_true, true_and, not_true_eq_false, not_false_eq_true]
        exact hskip _ (by unfold a_tried; rw [hm]; simp)
    · rw [if_neg hh]
      exact hskip _ (by unfold a_tried; rw [decide_eq_false hh]; rfl)
theorem op_attempt (h : RR σ N) (hN : N + 999 ≤ 100000) : Op 812 937 [qR 0, qU, qU] [qR 50, qU, qU, qU] σ N := by
  have ht := h.t
  have hn := h.n
  by_cases hz : σ 50 13 = 0
  · refine Op.ro h hN (a := -1000000003) ?_ ?_
    · have e : σ 12 8 = 0 := by omega
      simp (disch := first | omega | exact b01_or _) only [b812_0, b812_10, e, if_true]
    · simp (disch := first | omega | exact b01_or _) only [b937_0, b937_7, hz, if_true]
  · have rm := a_m_rng h (i := (σ 50 14).toNat) (by omega)
    have rt := a_t_rng h (σ 50 14).toNat
    have rf := a_f_rng h (i := (σ 50 14).toNat)
    have hb := bset_64 (p := a_fit σ) (n := (σ 50 14).toNat) (by omega)
    refine ⟨(bset (a_fit σ) (σ 50 14).toNat : Nat), a_C σ (σ 50 14).toNat, q_put (q_put (q_put σ 51 20 (a_t σ (σ 50 14).toNat)) 51 19 (a_f σ (σ 50 14).toNat)) 51 18 (a_m σ (σ 50 14).toNat), ?_, ?_, ?_⟩
    · have e : ¬ σ 12 8 = 0 := by omega
      have e0 : a_C σ (0 : Int).toNat = σ := by
        have q1 : a_m σ 0 = σ 21 5 := by unfold a_m; rw [bset, Nat.or_zero]; omega
        have q2 : a_f σ 0 = σ 21 6 := by unfold a_f; rw [if_neg (by omega)]; omega
        have q3 : a_t σ 0 = σ 21 7 := by unfold a_t; omega
        unfold a_C
        rw [show (0 : Int).toNat = 0 from rfl, q1, q2, q3, nwc_id]
      have := c_attL h (σ 50 14).toNat 0 (by omega) (by omega)
      rw [e0] at this
      simp (disch := first | omega | exact b01_or _) only [b812_0, b812_13, e, if_false]
      exact this
    · have e0 : q_put σ 51 20 (a_t σ (0 : Int).toNat) = σ := by
        rw [show (0 : Int).toNat = 0 from rfl, a_t]
        funext k j
        unfold q_put
        split
        · rename_i hh
          rw [hh.1, hh.2]
        · rfl
      obtain ⟨w, this⟩ := m_attL h (σ 50 14).toNat 0 qU (by omega) (by omega)
      rw [e0] at this
      rw [b937_0, if_neg hz, b937_10]
      refine Eq.trans this ?_
      have last : ∀ f : Int, f = a_f σ (σ 50 14).toNat → ev 937 151 [qR 50, qI (bset (a_fit σ) (σ 50 14).toNat : Nat), qI (σ 50 14), w] [qI f, qI 19, qR 51] (q_put σ 51 20 (a_t σ (σ 50 14).toNat)) = some (some (qI (bset (a_fit σ) (σ 50 14).toNat : Nat)), q_put (q_put (q_put σ 51 20 (a_t σ (σ 50 14).toNat)) 51 19 (a_f σ (σ 50 14).toNat)) 51 18 (a_m σ (σ 50 14).toNat)) := by
        intro f hf
        rw [b937_151 (by omega), show (19 : Int).toNat = 19 from rfl, hf, rw_sl (show (18 : Nat) ≠ 19 by decide), rw_sl (show (18 : Nat) ≠ 20 by decide), put_ne (show (50 : Nat) ≠ 51 by decide)]
        have hs : 2 ^ (σ 50 16).toNat < 2147483648 := by
          have := Nat.pow_lt_pow_right (a := 2) (by omega) (show (σ 50 16).toNat < 31 by omega)
          omega
        have es : q_shl 1 (σ 50 16) = ((2 ^ (σ 50 16).toNat : Nat) : Int) := by
          have := q_shl1 (k := (σ 50 16).toNat) (by omega)
          rw [show (((σ 50 16).toNat : Nat) : Int) = σ 50 16 by omega] at this
          exact this
        obtain ⟨c, c1, c2, c3⟩ := q_andn (a := bset (a_fit σ) (σ 50 14).toNat) (b := 2 ^ (σ 50 16).toNat) (by omega) hs
        have ec : c = bset (a_wed σ) (σ 50 14).toNat := by
          apply Nat.eq_of_testBit_eq
          intro i
          rw [c3, bset_tb, bset_tb, Nat.testBit_two_pow, Bool.and_assoc]
          unfold a_wed
          congr 2
          by_cases hi : (σ 50 16).toNat = i
          · have : (i : Int) = σ 50 16 := by omega
            simp [hi, this]
          · have : ¬ (i : Int) = σ 50 16 := by omega
            simp [hi, this]
        have em : q_or (σ 51 18) (q_and (bset (a_fit σ) (σ 50 14).toNat : Nat) (q_xor (q_shl 1 (σ 50 16)) (-1))) = a_m σ (σ 50 14).toNat := by
          rw [es, c1, ec]
          have := q_or_nat (a := (σ 51 18).toNat) (b := bset (a_wed σ) (σ 50 14).toNat) (by omega) (bset_31 (by omega))
          rw [show (((σ 51 18).toNat : Nat) : Int) = σ 51 18 by omega] at this
          exact this
        rw [em]
      have hbit : (bset (a_fit σ) (σ 50 14).toNat).testBit (σ 50 16).toNat = (decide (σ 50 16 < σ 50 14) && a_fit σ (σ 50 16).toNat) := by
        rw [bset_tb, dec_iff (show (σ 50 16).toNat < (σ 50 14).toNat ↔ σ 50 16 < σ 50 14 by omega)]
      rw [b937_116, put_ne (show (50 : Nat) ≠ 51 by decide)]
      have e19 : q_put σ 51 20 (a_t σ (σ 50 14).toNat) 51 19 = σ 51 19 := rw_sl (by decide)
      by_cases hg0 : 0 < σ 50 14
      · rw [if_pos hg0, b937_129, put_ne (show (50 : Nat) ≠ 51 by decide), m_has (by omega), Int.toNat_natCast, hbit, decide_eq_true (show σ 50 16 < σ 50 14 by omega), Bool.true_and]
        by_cases hq : a_fit σ (σ 50 16).toNat = true
        · simp (disch := first | omega | exact b01_or _) only [Option.bind_some, q_push_some, q_push_none, b937_137, b937_140, hq, b01_eq0, b01_eq1, decide_eq_false_iff_not, decide_eq_true_eq, ite_not, b01_t, b01_f, one_ne0, zero_eq0, Bool.true_eq_false, Bool.false_eq_true, ite_true, ite_false, and_self, and_true, true_and, not_true_eq_false, not_false_eq_true]
          exact last 1 (by unfold a_f; rw [if_pos ⟨by omega, hq⟩])
        · simp (disch := first | omega | exact b01_or _) only [Option.bind_some, q_push_some, q_push_none, b937_137, b937_144, hq, b01_eq0, b01_eq1, decide_eq_false_iff_not, decide_eq_true_eq, ite_not, b01_t, b01_f, one_ne0, zero_eq0, Bool.true_eq_false, Bool.false_eq_true, ite_true, ite_false, and_self, and_true, true_and, not_true_eq_false, not_false_eq_true]
          exact last _ (by unfold a_f; rw [e19, if_neg (fun z => hq z.2)])
      · rw [if_neg hg0, b937_144]
        exact last _ (by unfold a_f; rw [e19, if_neg (by omega)])
    · unfold a_C
      refine h.nw rm rf rt ?_ ?_ ?_ ?_ ?_ (by omega) hN
      · intro k _ hk
        rw [put_ne hk, put_ne hk, put_ne hk]
      · intro j h1 h2 h3
        rw [rw_sl h1, rw_sl h2, rw_sl h3]
      · rfl
      · rfl
      · rfl
end O9
