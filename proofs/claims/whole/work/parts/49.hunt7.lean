/-! ===== chase: the model's sweeps ===== -/
section O25
variable {σ : SS} {N : Int}
theorem h_pl_inj {a b s a' b' s' : Nat} (hb : b < 6) (hs : s < 6) (hb' : b' < 6) (hs' : s' < 6) (e : h_pl a b s = h_pl a' b' s') : a = a' ∧ b = b' ∧ s = s' := by
  unfold h_pl at e
  omega
def h_I (σ : SS) (tg : Bool) (V : Nat → Int) : Prop := h_rng V ∧ ∀ a b s : Nat, a < (σ 50 13).toNat → b < (σ 50 13).toNat → s < (σ 50 13).toNat → (tg = true → b = a) → ((s = a ∨ s = b) → V (h_pl a b s) = 0) ∧ (V (h_pl a b s) = 99999999 ∨ h_W (σ 50 13).toNat (h_B σ) tg (V (h_pl a b s)).toNat a b s = true)
def h_sum (V : Nat → Int) : Nat := h_cnt 216 (fun i => (V i).toNat)
/-- no look betters it -/
def h_sb (σ : SS) (tg : Bool) (V : Nat → Int) (a b s : Nat) : Prop := V (h_pl a b s) ≤ 0 ∨ ∀ x' y' : Nat, (x' : Int) < σ 50 13 → (y' : Int) < σ 50 13 → h_mv σ tg a b x' y' → ∃ v, h_val σ V x' y' s v ∧ V (h_pl a b s) ≤ v
def h_sw (σ : SS) (tg : Bool) (R : Nat → Nat → Nat → Prop) (c : Bool) (V : Nat → Int) (c' : Bool) (V' : Nat → Int) : Prop := h_I σ tg V' ∧ h_sum V' ≤ h_sum V ∧ (c' = true → c = true ∨ h_sum V' < h_sum V) ∧ (c' = false → c = false ∧ V' = V ∧ ∀ a b s : Nat, a < (σ 50 13).toNat → b < (σ 50 13).toNat → s < (σ 50 13).toNat → (tg = true → b = a) → R a b s → h_sb σ tg V a b s)
theorem h_sw.nil {tg : Bool} {R : Nat → Nat → Nat → Prop} {c : Bool} {V : Nat → Int} (hI : h_I σ tg V) (hR : ∀ a b s : Nat, a < (σ 50 13).toNat → b < (σ 50 13).toNat → s < (σ 50 13).toNat → (tg = true → b = a) → R a b s → h_sb σ tg V a b s) : h_sw σ tg R c V c V := ⟨hI, Nat.le_refl _, Or.inl, fun e => ⟨e, rfl, hR⟩⟩
theorem h_sw.then {tg : Bool} {R R1 R2 : Nat → Nat → Nat → Prop} {c c1 c2 : Bool} {V V1 V2 : Nat → Int} (h1 : h_sw σ tg R1 c V c1 V1) (h2 : h_sw σ tg R2 c1 V1 c2 V2) (hR : ∀ a b s : Nat, a < (σ 50 13).toNat → b < (σ 50 13).toNat → s < (σ 50 13).toNat → R a b s → R1 a b s ∨ R2 a b s) : h_sw σ tg R c V c2 V2 := by
  obtain ⟨-, p2, p3, p4⟩ := h1
  obtain ⟨q1, q2, q3, q4⟩ := h2
  refine ⟨q1, by omega, fun z => ?_, fun z => ?_⟩
  · rcases q3 z with y | y
    · rcases p3 y with x | x
      · exact Or.inl x
      · exact Or.inr (by omega)
    · exact Or.inr (by omega)
  · obtain ⟨z1, z2, z3⟩ := q4 z
    obtain ⟨y1, y2, y3⟩ := p4 z1
    subst y2
    refine ⟨y1, z2, fun a b s ha hb hs hal hr => ?_⟩
    rcases hR a b s ha hb hs hr with x | x
    · exact y3 a b s ha hb hs hal x
    · exact z3 a b s ha hb hs hal x
/-- a number that is found is right -/
theorem h_val_W {tg : Bool} {V : Nat → Int} (hI : h_I σ tg V) {a b s x y : Nat} {v : Int} (hs : (s : Int) < σ 50 13) (hx : (x : Int) < σ 50 13) (hy : (y : Int) < σ 50 13) (hm : h_mv σ tg a b x y) (hv : h_val σ V x y s v) (hlt : v < 99999999) : h_W (σ 50 13).toNat (h_B σ) tg v.toNat a b s = true := by
  have h1 : 1 ≤ v := by
    rcases hv with z | z
    · omega
    · exact z.2.1
  rw [show v.toNat = (v - 1).toNat + 1 by omega, h_W_succ]
  refine Or.inr ⟨x, y, by omega, by omega, hm.1, hm.2.1, hm.2.2, h_M_iff.mpr ?_⟩
  rcases hv with ⟨z, -⟩ | ⟨-, -, -, z, -⟩
  · exact Or.inl z
  · refine Or.inr fun q hq hB => ?_
    have hle := z q (by omega) hB
    rcases (hI.2 x y q (by omega) (by omega) hq hm.2.1).2 with e | e
    · omega
    · exact h_W_le' e (by omega)
theorem h_sum_lt {V : Nat → Int} {i : Nat} {v : Int} (hi : i < 216) (h0 : 0 ≤ v) (hv : v < V i) : h_sum (updn V i v) < h_sum V := by
  unfold h_sum
  refine h_cnt_strict (x := i) ?_ hi (fun j _ => ?_)
  · show (updn V i v i).toNat < (V i).toNat
    rw [updn_same]
    omega
  · by_cases e : j = i
    · subst e
      rw [updn_same]
      omega
    · rw [updn_ne e]
      exact Nat.le_refl _
/-- one state of the sweep -/
theorem m_cell {V : Nat → Int} {tg c : Bool} {kk a b s : Int} {v6 v7 : AV} (h : RR σ N) (hI : h_I σ tg V) (hk1 : (kk = 1 ∧ tg = true) ∨ (kk = 2 ∧ tg = false)) (ha : 0 ≤ a ∧ a < σ 50 13) (hb : 0 ≤ b ∧ b < σ 50 13) (hs : 0 ≤ s ∧ s < σ 50 13) : ∃ V' c' w6 w7, ev 951 94 [qR 50, qI kk, qI (b01 c), qI a, qI b, qI s, v6, v7] [] (hM σ V) = ev 951 186 [qR 50, qI kk, qI (b01 c'), qI a, qI b, qI s, qI w6, qI w7] [] (hM σ V') ∧ h_sw σ tg (fun a' b' s' => a' = a.toNat ∧ b' = b.toNat ∧ s' = s.toNat) c V c' V' := by
  have ht := h.t
  have e64 : hM σ V 64 = V := rfl
  have epl : ((a * 6 + b) * 6 + s).toNat = h_pl a.toNat b.toNat s.toNat := by unfold h_pl; omega
  have hpl : h_pl a.toNat b.toNat s.toNat < 216 := by unfold h_pl; omega
  have hv := hI.1 _ hpl
  have far : ∀ w6 : Int, ev 951 146 [qR 50, qI kk, qI (b01 c), qI a, qI b, qI s, qI w6, v7] [] (hM σ V) = ev 951 186 [qR 50, qI kk, qI (b01 c), qI a, qI b, qI s, qI w6, qI 99999999] [] (hM σ V) := by
    intro w6
    rw [b951_146, b951_149, b948_0 (by omega), Option.bind_some, q_push_some]
    dsimp only
    rw [b951_165 (by omega), e64, epl, if_neg (by omega)]
  by_cases hal : (tg = true → b.toNat = a.toNat)
  · have st : ev 951 94 [qR 50, qI kk, qI (b01 c), qI a, qI b, qI s, v6, v7] [] (hM σ V) = ev 951 105 [qR 50, qI kk, qI (b01 c), qI a, qI b, qI s, v6, v7] [] (hM σ V) := by
      rcases hk1 with ⟨k1, k2⟩ | ⟨k1, k2⟩
      · rw [b951_94, if_neg (by omega), b951_99, if_pos (by have := hal k2; omega)]
      · rw [b951_94, if_pos k1]
    rw [st, b951_105, b951_110, if_neg (by decide), b951_117, b948_0 (by omega), Option.bind_some, q_push_some]
    dsimp only
    rw [b951_129 (by omega), e64, epl]
    by_cases hp : 0 < V (h_pl a.toNat b.toNat s.toNat)
    · obtain ⟨r, r1, r2, r3, r4⟩ := m_best h hI.1 hk1 ha hb hs
      rw [if_pos hp, b951_133, r1, Option.bind_some, q_push_some]
      dsimp only
      rw [b951_143, b951_149, b948_0 (by omega), Option.bind_some, q_push_some]
      dsimp only
      rw [b951_165 (by omega), e64, epl]
      by_cases hlt : r < V (h_pl a.toNat b.toNat s.toNat)
      · rw [if_pos hlt, b951_169, b948_0 (by omega), Option.bind_some, q_push_some]
        dsimp only
        rw [b951_181 (by omega), epl, hM_64]
        have hr : ∃ x' y' : Nat, (x' : Int) < σ 50 13 ∧ (y' : Int) < σ 50 13 ∧ h_mv σ tg a.toNat b.toNat x' y' ∧ h_val σ V x' y' s.toNat r := by
          rcases r4 with z | z
          · omega
          · exact z
        obtain ⟨x', y', x1, x2, x3, x4⟩ := hr
        have hW := h_val_W hI (by omega) x1 x2 x3 x4 (by omega)
        have hr1 : 1 ≤ r := by
          rcases x4 with z | z
          · omega
          · exact z.2.1
        have hsum := h_sum_lt (V := V) (v := r) hpl (by omega) hlt
        refine ⟨_, true, 1, r, rfl, ⟨⟨fun i hi => ?_, fun a2 b2 s2 h1 h2 h3 h4 => ?_⟩, by omega, fun _ => Or.inr hsum, fun z => by cases z⟩⟩
        · by_cases e : i = h_pl a.toNat b.toNat s.toNat
          · subst e
            rw [updn_same]
            omega
          · rw [updn_ne e]
            exact hI.1 i hi
        · by_cases e : h_pl a2 b2 s2 = h_pl a.toNat b.toNat s.toNat
          · obtain ⟨i1, i2, i3⟩ := h_pl_inj (by omega) (by omega) (by omega) (by omega) e
            subst i1 i2 i3
            rw [updn_same]
            refine ⟨fun z => ?_, Or.inr hW⟩
            have := (hI.2 _ _ _ h1 h2 h3 h4).1 z
            omega
          · rw [updn_ne e]
            exact hI.2 a2 b2 s2 h1 h2 h3 h4
      · rw [if_neg hlt]
        refine ⟨V, c, 1, r, rfl, h_sw.nil hI ?_⟩
        rintro a2 b2 s2 h1 h2 h3 h4 ⟨rfl, rfl, rfl⟩
        refine Or.inr fun x' y' x1 x2 x3 => ?_
        obtain ⟨v, v1, v2⟩ := r3 x' y' x1 x2 x3
        exact ⟨v, v1, by omega⟩
    · rw [if_neg hp, far]
      refine ⟨V, c, 1, 99999999, rfl, h_sw.nil hI ?_⟩
      rintro a2 b2 s2 h1 h2 h3 h4 ⟨rfl, rfl, rfl⟩
      exact Or.inl (by omega)
  · have htg : tg = true := by
      cases tg
      · exact absurd (fun z => by cases z) hal
      · rfl
    have hne : ¬ a = b := fun z => hal (fun _ => by rw [z])
    have st : ev 951 94 [qR 50, qI kk, qI (b01 c), qI a, qI b, qI s, v6, v7] [] (hM σ V) = ev 951 109 [qR 50, qI kk, qI (b01 c), qI a, qI b, qI s, v6, v7] [] (hM σ V) := by
      rcases hk1 with ⟨k1, k2⟩ | ⟨k1, k2⟩
      · rw [b951_94, if_neg (by omega), b951_99, if_neg hne]
      · rw [k2] at htg; cases htg
    rw [st, b951_109, b951_110, if_pos rfl, far]
    refine ⟨V, c, 0, 99999999, rfl, h_sw.nil hI ?_⟩
    rintro a2 b2 s2 h1 h2 h3 h4 ⟨rfl, rfl, rfl⟩
    exact absurd h4 hal
theorem m_swS {tg : Bool} {kk a b : Int} (h : RR σ N) (hk1 : (kk = 1 ∧ tg = true) ∨ (kk = 2 ∧ tg = false)) (ha : 0 ≤ a ∧ a < σ 50 13) (hb : 0 ≤ b ∧ b < σ 50 13) : ∀ (k : Nat) (s : Int) (V : Nat → Int) (c : Bool) (v6 v7 : AV), 0 ≤ s → s + k = σ 50 13 → h_I σ tg V → ∃ V' c' w6 w7, ev 951 85 [qR 50, qI kk, qI (b01 c), qI a, qI b, qI s, v6, v7] [] (hM σ V) = ev 951 192 [qR 50, qI kk, qI (b01 c'), qI a, qI b, qI (σ 50 13), w6, w7] [] (hM σ V') ∧ h_sw σ tg (fun a' b' s' => a' = a.toNat ∧ b' = b.toNat ∧ s ≤ s') c V c' V'
  | 0, s, V, c, v6, v7, h0, hk, hI => by
    have e8 : hM σ V 50 13 = σ 50 13 := by rw [hM_ne (by decide)]
    have e : s = σ 50 13 := by omega
    refine ⟨V, c, v6, v7, ?_, h_sw.nil hI ?_⟩
    · rw [b951_85, e8, if_neg (by omega), e]
    · rintro a2 b2 s2 h1 h2 h3 h4 ⟨h5, h6, h7⟩
      omega
  | k + 1, s, V, c, v6, v7, h0, hk, hI => by
    have ht := h.t
    have e8 : hM σ V 50 13 = σ 50 13 := by rw [hM_ne (by decide)]
    obtain ⟨V1, c1, w6, w7, p1, p2⟩ := m_cell (c := c) (v6 := v6) (v7 := v7) (s := s) h hI hk1 ha hb (by omega)
    obtain ⟨V', c', u6, u7, q1, q2⟩ := m_swS h hk1 ha hb k (s + 1) V1 c1 (qI w6) (qI w7) (by omega) (by omega) p2.1
    refine ⟨V', c', u6, u7, ?_, p2.then q2 ?_⟩
    · rw [b951_85, e8, if_pos (by omega), p1, b951_186 (by omega)]
      exact q1
    · rintro a2 b2 s2 h1 h2 h3 ⟨h5, h6, h7⟩
      by_cases e : s2 = s.toNat
      · exact Or.inl ⟨h5, h6, e⟩
      · exact Or.inr ⟨h5, h6, by omega⟩
theorem m_swB {tg : Bool} {kk a : Int} (h : RR σ N) (hk1 : (kk = 1 ∧ tg = true) ∨ (kk = 2 ∧ tg = false)) (ha : 0 ≤ a ∧ a < σ 50 13) : ∀ (k : Nat) (b : Int) (V : Nat → Int) (c : Bool) (v5 v6 v7 : AV), 0 ≤ b → b + k = σ 50 13 → h_I σ tg V → ∃ V' c' w5 w6 w7, ev 951 73 [qR 50, qI kk, qI (b01 c), qI a, qI b, v5, v6, v7] [] (hM σ V) = ev 951 198 [qR 50, qI kk, qI (b01 c'), qI a, qI (σ 50 13), w5, w6, w7] [] (hM σ V') ∧ h_sw σ tg (fun a' b' s' => a' = a.toNat ∧ b ≤ b') c V c' V'
  | 0, b, V, c, v5, v6, v7, h0, hk, hI => by
    have e8 : hM σ V 50 13 = σ 50 13 := by rw [hM_ne (by decide)]
    have e : b = σ 50 13 := by omega
    refine ⟨V, c, v5, v6, v7, ?_, h_sw.nil hI ?_⟩
    · rw [b951_73, e8, if_neg (by omega), e]
    · rintro a2 b2 s2 h1 h2 h3 h4 ⟨h5, h6⟩
      omega
  | k + 1, b, V, c, v5, v6, v7, h0, hk, hI => by
    have ht := h.t
    have e8 : hM σ V 50 13 = σ 50 13 := by rw [hM_ne (by decide)]
    obtain ⟨V1, c1, w6, w7, p1, p2⟩ := m_swS (b := b) h hk1 ha (by omega) (σ 50 13).toNat 0 V c v6 v7 (by omega) (by omega) hI
    obtain ⟨V', c', u5, u6, u7, q1, q2⟩ := m_swB h hk1 ha k (b + 1) V1 c1 (qI (σ 50 13)) w6 w7 (by omega) (by omega) p2.1
    refine ⟨V', c', u5, u6, u7, ?_, p2.then q2 ?_⟩
    · rw [b951_73, e8, if_pos (by omega), b951_82, p1, b951_192 (by omega)]
      exact q1
    · rintro a2 b2 s2 h1 h2 h3 ⟨h5, h6⟩
      by_cases e : b2 = b.toNat
      · exact Or.inl ⟨h5, e, by omega⟩
      · exact Or.inr ⟨h5, by omega⟩
theorem m_swA {tg : Bool} {kk : Int} (h : RR σ N) (hk1 : (kk = 1 ∧ tg = true) ∨ (kk = 2 ∧ tg = false)) : ∀ (k : Nat) (a : Int) (V : Nat → Int) (c : Bool) (v4 v5 v6 v7 : AV), 0 ≤ a → a + k = σ 50 13 → h_I σ tg V → ∃ V' c' w4 w5 w6 w7, ev 951 62 [qR 50, qI kk, qI (b01 c), qI a, v4, v5, v6, v7] [] (hM σ V) = ev 951 204 [qR 50, qI kk, qI (b01 c'), qI (σ 50 13), w4, w5, w6, w7] [] (hM σ V') ∧ h_sw σ tg (fun a' b' s' => a ≤ a') c V c' V'
  | 0, a, V, c, v4, v5, v6, v7, h0, hk, hI => by
    have e8 : hM σ V 50 13 = σ 50 13 := by rw [hM_ne (by decide)]
    have e : a = σ 50 13 := by omega
    refine ⟨V, c, v4, v5, v6, v7, ?_, h_sw.nil hI ?_⟩
    · rw [b951_62, e8, if_neg (by omega), e]
    · intro a2 b2 s2 h1 h2 h3 h4 h5
      omega
  | k + 1, a, V, c, v4, v5, v6, v7, h0, hk, hI => by
    have ht := h.t
    have e8 : hM σ V 50 13 = σ 50 13 := by rw [hM_ne (by decide)]
    obtain ⟨V1, c1, w5, w6, w7, p1, p2⟩ := m_swB (a := a) h hk1 (by omega) (σ 50 13).toNat 0 V c v5 v6 v7 (by omega) (by omega) hI
    obtain ⟨V', c', u4, u5, u6, u7, q1, q2⟩ := m_swA h hk1 k (a + 1) V1 c1 (qI (σ 50 13)) w5 w6 w7 (by omega) (by omega) p2.1
    refine ⟨V', c', u4, u5, u6, u7, ?_, p2.then q2 ?_⟩
    · rw [b951_62, e8, if_pos (by omega), b951_70, p1, b951_198 (by omega)]
      exact q1
    · intro a2 b2 s2 h1 h2 h3 h5
      by_cases e : a2 = a.toNat
      · exact Or.inl ⟨e, by omega⟩
      · exact Or.inr (by omega)
/-- sweeps until nothing changes -/
theorem m_sweeps {tg : Bool} {kk : Int} (h : RR σ N) (hk1 : (kk = 1 ∧ tg = true) ∨ (kk = 2 ∧ tg = false)) : ∀ (k : Nat) (V : Nat → Int) (x : Int) (v3 v4 v5 v6 v7 : AV), h_sum V ≤ k → h_I σ tg V → ∃ V', ev 951 58 [qR 50, qI kk, qI x, v3, v4, v5, v6, v7] [] (hM σ V) = some (none, hM σ V') ∧ h_I σ tg V' ∧ ∀ a b s : Nat, a < (σ 50 13).toNat → b < (σ 50 13).toNat → s < (σ 50 13).toNat → (tg = true → b = a) → h_sb σ tg V' a b s := by
  intro k
  induction k with
  | zero =>
    intro V x v3 v4 v5 v6 v7 hS hI
    have ht := h.t
    obtain ⟨V1, c1, w4, w5, w6, w7, p1, p2⟩ := m_swA h hk1 (σ 50 13).toNat 0 V false v4 v5 v6 v7 (by omega) (by omega) hI
    rw [b951_58]
    rw [b01_f] at p1
    rw [p1, b951_204, b951_54]
    obtain ⟨q1, q2, q3, q4⟩ := p2
    cases c1
    · obtain ⟨-, z2, z3⟩ := q4 rfl
      subst z2
      rw [if_pos b01_f, b951_207]
      exact ⟨_, rfl, q1, fun a b s h1 h2 h3 h4 => z3 a b s h1 h2 h3 h4 (by omega)⟩
    · rcases q3 rfl with z | z
      · cases z
      · omega
  | succ k ih =>
    intro V x v3 v4 v5 v6 v7 hS hI
    have ht := h.t
    obtain ⟨V1, c1, w4, w5, w6, w7, p1, p2⟩ := m_swA h hk1 (σ 50 13).toNat 0 V false v4 v5 v6 v7 (by omega) (by omega) hI
    rw [b951_58]
    rw [b01_f] at p1
    rw [p1, b951_204, b951_54]
    obtain ⟨q1, q2, q3, q4⟩ := p2
    cases c1
    · obtain ⟨-, z2, z3⟩ := q4 rfl
      subst z2
      rw [if_pos b01_f, b951_207]
      exact ⟨_, rfl, q1, fun a b s h1 h2 h3 h4 => z3 a b s h1 h2 h3 h4 (by omega)⟩
    · rw [if_neg (by decide)]
      refine ih V1 _ _ _ _ _ _ ?_ q1
      rcases q3 rfl with z | z
      · cases z
      · omega
theorem m_init {kk : Int} : ∀ (k : Nat) (x : Int) (V : Nat → Int) (v : AV), 0 ≤ x → x + k = 216 → ∃ V' v', ev 951 2 [qR 50, qI kk, qI x, v, qU, qU, qU, qU] [] (hM σ V) = ev 951 52 [qR 50, qI kk, qI 216, v', qU, qU, qU, qU] [] (hM σ V') ∧ (∀ i : Nat, (i : Int) < x → V' i = V i) ∧ ∀ i : Nat, x ≤ i → i < 216 → V' i = if (i % 6 = i / 6 % 6 ∨ i % 6 = i / 36) then 0 else 99999999
  | 0, x, V, v, h0, hk => by
    have e : x = 216 := by omega
    exact ⟨V, v, by rw [b951_2, if_neg (by omega), e], fun i _ => rfl, fun i h1 h2 => by omega⟩
  | k + 1, x, V, v, h0, hk => by
    obtain ⟨V', v', p1, p2, p3⟩ := m_init k (x + 1) (updn V x.toNat (if (x.toNat % 6 = x.toNat / 6 % 6 ∨ x.toNat % 6 = x.toNat / 36) then 0 else 99999999)) (qI (x % 6)) (by omega) (by omega)
    have fq : (x % 6 = x / 6 % 6 ↔ x.toNat % 6 = x.toNat / 6 % 6) ∧ (x % 6 = x / 36 ↔ x.toNat % 6 = x.toNat / 36) := by
      obtain ⟨n, rfl⟩ : ∃ n : Nat, x = (n : Int) := ⟨x.toNat, by omega⟩
      rw [Int.toNat_natCast]
      omega
    refine ⟨V', v', ?_, fun i hi => ?_, fun i h1 h2 => ?_⟩
    · rw [b951_2, if_pos (by omega), b951_9 (by omega)]
      by_cases h1 : x % 6 = x / 6 % 6
      · rw [if_pos (Or.inl (fq.1.mp h1))] at p1
        rw [if_pos h1, b951_38, b951_45 (by omega), hM_64]
        exact p1
      · rw [if_neg h1, b951_30 (by omega)]
        by_cases h2 : x % 6 = x / 36
        · rw [if_pos (Or.inr (fq.2.mp h2))] at p1
          rw [if_pos h2, b951_38, b951_45 (by omega), hM_64]
          exact p1
        · rw [if_neg (fun z => z.elim (fun y => h1 (fq.1.mpr y)) (fun y => h2 (fq.2.mpr y)))] at p1
          rw [if_neg h2, b951_42, b951_45 (by omega), hM_64]
          exact p1
    · rw [p2 i (by omega), updn_ne (by omega)]
    · by_cases e : i = x.toNat
      · subst e
        rw [p2 _ (by omega), updn_same]
      · exact p3 i (by omega) h2
theorem m_find {V : Nat → Int} {tg : Bool} {kk : Int} (h : RR σ N) (hk1 : (kk = 1 ∧ tg = true) ∨ (kk = 2 ∧ tg = false)) : ∃ V', ev 951 0 [qR 50, qI kk, qU, qU, qU, qU, qU, qU] [] (hM σ V) = some (none, hM σ V') ∧ h_I σ tg V' ∧ ∀ a b s : Nat, a < (σ 50 13).toNat → b < (σ 50 13).toNat → s < (σ 50 13).toNat → (tg = true → b = a) → h_sb σ tg V' a b s := by
  have ht := h.t
  obtain ⟨V1, v1, p1, -, p3⟩ := m_init (σ := σ) (kk := kk) 216 0 V qU (by omega) (by omega)
  have hI : h_I σ tg V1 := by
    refine ⟨fun i hi => ?_, fun a b s h1 h2 h3 h4 => ?_⟩
    · rw [p3 i (by omega) hi]
      split <;> omega
    · have hpl : h_pl a b s < 216 := by unfold h_pl; omega
      have e1 : h_pl a b s % 6 = s := by unfold h_pl; omega
      have e2 : h_pl a b s / 6 % 6 = b := by unfold h_pl; omega
      have e3 : h_pl a b s / 36 = a := by unfold h_pl; omega
      rw [p3 _ (by omega) hpl, e1, e2, e3]
      by_cases e : s = b ∨ s = a
      · rw [if_pos e]
        refine ⟨fun _ => rfl, Or.inr ?_⟩
        show (decide (s = a) || decide (s = b)) = true
        rw [Bool.or_eq_true, decide_eq_true_iff, decide_eq_true_iff]
        exact e.symm
      · rw [if_neg e]
        exact ⟨fun z => absurd z.symm e, Or.inl rfl⟩
  obtain ⟨V', q1, q2, q3⟩ := m_sweeps h hk1 (h_sum V1) V1 1 v1 qU qU qU qU (Nat.le_refl _) hI
  refine ⟨V', ?_, q2, q3⟩
  rw [b951_0, p1, b951_52, b951_54, if_neg (by decide)]
  exact q1
/-- the row is the fewest turns of each state -/
theorem h_V_W {tg : Bool} {V : Nat → Int} (hI : h_I σ tg V) (hsb : ∀ a b s : Nat, a < (σ 50 13).toNat → b < (σ 50 13).toNat → s < (σ 50 13).toNat → (tg = true → b = a) → h_sb σ tg V a b s) {t a b s : Nat} (ha : a < (σ 50 13).toNat) (hb : b < (σ 50 13).toNat) (hs : s < (σ 50 13).toNat) (hal : tg = true → b = a) (hw : h_W (σ 50 13).toNat (h_B σ) tg t a b s = true) : V (h_pl a b s) ≤ t := by
  refine h_V_le (V := fun a b s => V (h_pl a b s)) (fun a b s h1 h2 h3 h4 h5 => ?_) (fun a b s a' b' h1 h2 h3 h4 h5 h6 h7 h8 h9 => ?_) t a b s ha hb hs hal hw
  · have := (hI.2 a b s h1 h2 h3 h4).1 h5
    show V (h_pl a b s) ≤ 0
    omega
  · show ((s = a' ∨ s = b') → V (h_pl a b s) ≤ 1) ∧ ∀ m : Int, 0 ≤ m → (∀ s', s' < (σ 50 13).toNat → h_B σ s s' = true → V (h_pl a' b' s') ≤ m) → V (h_pl a b s) ≤ m + 1
    rcases hsb a b s h1 h2 h3 h4 with z | z
    · exact ⟨fun _ => by omega, fun m hm _ => by omega⟩
    · obtain ⟨v, v1, v2⟩ := z a' b' (by omega) (by omega) ⟨h7, h8, h9⟩
      rcases v1 with ⟨y1, y2⟩ | ⟨y1, y2, y3, y4, y5⟩
      · exact ⟨fun _ => by omega, fun m hm _ => by omega⟩
      · refine ⟨fun z => absurd z y1, fun m hm hall => ?_⟩
        rcases y5 with x | ⟨q, q1, q2, q3⟩
        · omega
        · have := hall q (by omega) q2
          omega
end O25
