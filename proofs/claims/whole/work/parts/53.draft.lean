/-! ===== list: the two drafts ===== -/
theorem bN {mi pc : Nat} {L S : List AV} {τ : SS} : (some ((none : Option AV), τ) : Option (Option AV × SS)).bind (fun x => ev mi pc L (q_push x.1 S) x.2) = ev mi pc L S τ := rfl
theorem bS {mi pc : Nat} {L S : List AV} {τ : SS} {v : AV} : (some (some v, τ) : Option (Option AV × SS)).bind (fun x => ev mi pc L (q_push x.1 S) x.2) = ev mi pc L (v :: S) τ := rfl
def D_S (σ : SS) : Prop :=
  (σ 3 8 = σ 50 17 ∧ σ 3 9 = σ 50 19 ∧ σ 3 10 = σ 50 18 ∧ σ 3 11 = σ 53 3 ∧ σ 3 12 = σ 53 4 ∧ σ 3 13 = σ 53 5 ∧ σ 3 14 = σ 50 4 ∧ σ 3 15 = σ 50 20) ∧
  (0 ≤ σ 50 17 ∧ σ 50 17 ≤ 6 ∧ 0 ≤ σ 50 18 ∧ σ 50 18 ≤ 6 ∧ (0 < σ 50 18 → 0 < σ 50 17) ∧ 0 ≤ σ 50 19 ∧ σ 50 19 ≤ 9 ∧ 1 ≤ σ 53 3 ∧ σ 53 3 ≤ 99 ∧ 0 ≤ σ 53 4 ∧ σ 53 4 ≤ 9 ∧ 0 ≤ σ 53 5 ∧ σ 53 5 ≤ 99 ∧ 0 ≤ σ 50 4 ∧ σ 50 4 ≤ 23 ∧ 0 ≤ σ 50 20 ∧ σ 50 20 ≤ 5 ∧ (0 < σ 50 18 → σ 50 20 < σ 50 18) ∧ (σ 50 18 = 0 → σ 50 20 = 0)) ∧
  (σ 1 6 = σ 50 21 ∧ 0 ≤ σ 50 21 ∧ σ 50 21 ≤ 7 ∧ σ 1 7 = σ 50 22 ∧ 0 ≤ σ 50 22 ∧ σ 50 22 < 64)
def D_H (σ : SS) : Prop := ∀ h : Nat, (h : Int) < σ 50 17 → σ 4 h = σ 54 (6 + h) ∧ σ 5 h = σ 55 (6 + h) ∧ 0 ≤ σ 54 (6 + h) ∧ σ 54 (6 + h) ≤ 9 ∧ 0 ≤ σ 55 (6 + h) ∧ σ 55 (6 + h) < 64
def D_W (σ : SS) : Prop := ∀ h q : Nat, (h : Int) < σ 50 17 → (σ 55 (6 + h)).toNat.testBit q = true → (q : Int) < σ 50 17 ∧ q ≠ h ∧ (σ 55 (6 + q)).toNat.testBit h = true
def D_G (σ : SS) : Prop := ∀ g : Nat, (g : Int) < σ 50 18 → σ 6 g = σ 56 (6 + g) ∧ 0 ≤ σ 56 (6 + g) ∧ σ 56 (6 + g) < σ 50 17 ∧ σ 7 g = σ 57 (6 + g) ∧ σ 8 g = σ 58 (6 + g) ∧ σ 9 g = σ 59 (6 + g) ∧ σ 11 g = σ 61 (6 + g) ∧ 1 ≤ σ 57 (6 + g) ∧ σ 57 (6 + g) ≤ 99 ∧ 0 ≤ σ 58 (6 + g) ∧ σ 58 (6 + g) ≤ 9 ∧ 0 ≤ σ 59 (6 + g) ∧ σ 59 (6 + g) ≤ 8 ∧ 1 ≤ σ 61 (6 + g) ∧ σ 61 (6 + g) ≤ 6 ∧ ∀ i : Nat, (i : Int) < σ 61 (6 + g) → σ 10 (6 * g + i) = σ 60 (36 + 6 * g + i) ∧ 0 ≤ σ 60 (36 + 6 * g + i) ∧ σ 60 (36 + 6 * g + i) ≤ 2
def LB (σ : SS) (n : Nat) (T : Nat → Int) : Prop := TT n T ∧ TX σ n T ∧ TY σ n T ∧ D_S σ ∧ D_H σ ∧ D_W σ ∧ D_G σ
def LD (σ : SS) (n : Nat) (T : Nat → Int) (p : Nat) : Prop := LB σ n T ∧ σ 1 4 = (p : Int) ∧ σ 50 25 = (p : Int) ∧ p ≤ n ∧ σ 1 2 = 0 ∧ σ 50 28 = 0 ∧ σ 1 3 = -1 ∧ σ 50 29 = -1
def FC (σ τ : SS) : Prop := (∀ k, k < 50 → k ≠ 1 → ¬ (3 ≤ k ∧ k ≤ 11) → τ k = σ k) ∧ τ 1 1 = σ 1 1
def FM (σ τ : SS) : Prop := (∀ k, k ∈ [51, 52, 62, 66, 67, 68, 69, 70, 71] → τ k = σ k) ∧ (∀ j, j ∈ [3, 13, 14, 15, 16, 24, 35, 37, 41] → τ 50 j = σ 50 j) ∧ (∀ j, j < 3 → τ 53 j = σ 53 j) ∧ (∀ k, k ∈ [54, 55, 57, 58, 59, 61] → ∀ j, j < 6 → τ k j = σ k j) ∧ ∀ j, j < 36 → τ 60 j = σ 60 j
section FF
variable {σ τ : SS}
theorem FC.refl : FC σ σ := ⟨fun _ _ _ _ => rfl, rfl⟩
theorem FC.trans {υ : SS} (h1 : FC σ τ) (h2 : FC τ υ) : FC σ υ := ⟨fun k a b c => by rw [h2.1 k a b c, h1.1 k a b c], by rw [h2.2, h1.2]⟩
theorem FC.rC {p t f b o g : Int} (h : FC σ τ) : FC σ (rC τ p t f b o g) := ⟨fun k h1 h2 h3 => by rw [rC_ne h2]; exact h.1 k h1 h2 h3, h.2⟩
theorem FC.put {k j : Nat} {v : Int} (hk : 3 ≤ k ∧ k ≤ 11) (h : FC σ τ) : FC σ (q_put τ k j v) := ⟨fun k' h1 h2 h3 => by rw [put_ne (fun z => h3 (by omega))]; exact h.1 k' h1 h2 h3, by rw [put_ne (by omega)]; exact h.2⟩
theorem FM.refl : FM σ σ := ⟨fun _ _ => rfl, fun _ _ => rfl, fun _ _ => rfl, fun _ _ _ _ => rfl, fun _ _ => rfl⟩
theorem FM.trans {υ : SS} (h1 : FM σ τ) (h2 : FM τ υ) : FM σ υ := ⟨fun k a => by rw [h2.1 k a, h1.1 k a], fun k a => by rw [h2.2.1 k a, h1.2.1 k a], fun k a => by rw [h2.2.2.1 k a, h1.2.2.1 k a], fun k a j b => by rw [h2.2.2.2.1 k a j b, h1.2.2.2.1 k a j b], fun k a => by rw [h2.2.2.2.2 k a, h1.2.2.2.2 k a]⟩
theorem FM.rM {p s l f b : Int} (h : FM σ τ) : FM σ (rM τ p s l f b) := by
  obtain ⟨h1, h2, h3, h4, h5⟩ := h
  refine ⟨fun k hk => ?_, fun j hj => ?_, fun j hj => ?_, fun k hk j hj => ?_, fun j hj => ?_⟩
  · rw [rM_ne (by rintro rfl; revert hk; decide)]; exact h1 k hk
  · rw [rM_o (by refine ⟨?_, ?_, ?_, ?_, ?_⟩ <;> (rintro rfl; revert hj; decide))]; exact h2 j hj
  · rw [rM_ne (by decide)]; exact h3 j hj
  · rw [rM_ne (by rintro rfl; revert hk; decide)]; exact h4 k hk j hj
  · rw [rM_ne (by decide)]; exact h5 j hj
theorem FM.p50 {j : Nat} {v : Int} (hj : j ∈ [4, 17, 18, 19, 20, 21, 22]) (h : FM σ τ) : FM σ (q_put τ 50 j v) := by
  obtain ⟨h1, h2, h3, h4, h5⟩ := h
  refine ⟨fun k hk => ?_, fun j' hj' => ?_, fun j hj => ?_, fun k hk j hj => ?_, fun j hj => ?_⟩
  · rw [put_ne (by rintro rfl; revert hk; decide)]; exact h1 k hk
  · rw [rw_sl (by rintro rfl; revert hj'; revert hj; revert j'; decide)]; exact h2 j' hj'
  · rw [put_ne (by decide)]; exact h3 j hj
  · rw [put_ne (by rintro rfl; revert hk; decide)]; exact h4 k hk j hj
  · rw [put_ne (by decide)]; exact h5 j hj
theorem FM.p53 {j : Nat} {v : Int} (hj : 3 ≤ j) (h : FM σ τ) : FM σ (q_put τ 53 j v) := by
  obtain ⟨h1, h2, h3, h4, h5⟩ := h
  refine ⟨fun k hk => ?_, fun j' hj' => ?_, fun j' hj' => ?_, fun k hk j hj => ?_, fun j hj => ?_⟩
  · rw [put_ne (by rintro rfl; revert hk; decide)]; exact h1 k hk
  · rw [put_ne (by decide)]; exact h2 j' hj'
  · rw [rw_sl (by omega)]; exact h3 j' hj'
  · rw [put_ne (by rintro rfl; revert hk; decide)]; exact h4 k hk j hj
  · rw [put_ne (by decide)]; exact h5 j hj
theorem FM.pH {k j : Nat} {v : Int} (hk : k ∈ [54, 55, 56, 57, 58, 59, 61]) (hj : 6 ≤ j) (h : FM σ τ) : FM σ (q_put τ k j v) := by
  obtain ⟨h1, h2, h3, h4, h5⟩ := h
  refine ⟨fun k' hk' => ?_, fun j' hj' => ?_, fun j' hj' => ?_, fun k' hk' j' hj' => ?_, fun j hj => ?_⟩
  · rw [put_ne (by rintro rfl; revert hk'; revert hk; revert k'; decide)]; exact h1 k' hk'
  · rw [put_ne (by rintro rfl; revert hk; decide)]; exact h2 j' hj'
  · rw [put_ne (by rintro rfl; revert hk; decide)]; exact h3 j' hj'
  · rw [rw_at, if_neg (by omega)]; exact h4 k' hk' j' hj'
  · rw [put_ne (by rintro rfl; revert hk; decide)]; exact h5 j hj
theorem FM.p60 {j : Nat} {v : Int} (hj : 36 ≤ j) (h : FM σ τ) : FM σ (q_put τ 60 j v) := by
  obtain ⟨h1, h2, h3, h4, h5⟩ := h
  refine ⟨fun k hk => ?_, fun j' hj' => ?_, fun j hj => ?_, fun k hk j hj => ?_, fun j' hj' => ?_⟩
  · rw [put_ne (by rintro rfl; revert hk; decide)]; exact h1 k hk
  · rw [put_ne (by decide)]; exact h2 j' hj'
  · rw [put_ne (by decide)]; exact h3 j hj
  · rw [put_ne (by rintro rfl; revert hk; decide)]; exact h4 k hk j hj
  · rw [rw_sl (by omega)]; exact h5 j' hj'
/-- what comes out of a clause -/
def OUT (n : Nat) (T : Nat → Int) (σ σ1 σ2 : SS) (p : Nat) : Prop := FC σ σ1 ∧ FM σ σ2 ∧ ((∃ f b : Int, 1 ≤ f ∧ f ≤ 4 ∧ σ1 1 2 = f ∧ σ1 1 3 = b ∧ σ2 50 28 = f ∧ σ2 50 29 = b) ∨ ∃ p', p ≤ p' ∧ LD (mix σ1 σ2) n T p')
theorem OUT.bad {n : Nat} {T : Nat → Int} {σ1 σ2 : SS} {p : Nat} {f b : Int} (hc : FC σ σ1) (hm : FM σ σ2) (hf : 1 ≤ f ∧ f ≤ 4) (h1 : σ1 1 2 = f) (h2 : σ1 1 3 = b) (h3 : σ2 50 28 = f) (h4 : σ2 50 29 = b) : OUT n T σ σ1 σ2 p := ⟨hc, hm, Or.inl ⟨f, b, hf.1, hf.2, h1, h2, h3, h4⟩⟩
theorem LD.mk {n : Nat} {T : Nat → Int} {σ1 σ2 : SS} {p : Nat} (h : LB σ n T) (hc : FC σ σ1) (hm : FM σ σ2) (h0 : σ1 1 4 = (p : Int) ∧ σ2 50 25 = (p : Int) ∧ p ≤ n ∧ σ1 1 2 = 0 ∧ σ2 50 28 = 0 ∧ σ1 1 3 = -1 ∧ σ2 50 29 = -1) (hS : D_S (mix σ1 σ2)) (hH : D_H (mix σ1 σ2)) (hW : D_W (mix σ1 σ2)) (hG : D_G (mix σ1 σ2)) : LD (mix σ1 σ2) n T p := by
  obtain ⟨a1, a2, a3, -⟩ := h
  refine ⟨⟨a1, ?_, ?_, hS, hH, hW, hG⟩, h0⟩
  · unfold TX
    rw [mix_c (by decide), mix_c (by decide), hc.2, hc.1 2 (by decide) (by decide) (by decide)]
    exact a2
  · unfold TY
    rw [mix_m (by decide), mix_m (by decide), hm.2.1 24 (by decide), hm.1 62 (by decide)]
    exact a3
theorem D_H.cg (h : D_H σ) (e : ∀ k, k ∈ [4, 5, 54, 55] → τ k = σ k) (e50 : τ 50 17 = σ 50 17) : D_H τ := by
  unfold D_H
  rw [e 4 (by decide), e 5 (by decide), e 54 (by decide), e 55 (by decide), e50]
  exact h
theorem D_W.cg (h : D_W σ) (e : τ 55 = σ 55) (e50 : τ 50 17 = σ 50 17) : D_W τ := by
  unfold D_W
  rw [e, e50]
  exact h
theorem D_G.cg (h : D_G σ) (e : ∀ k, k ∈ [6, 7, 8, 9, 10, 11, 56, 57, 58, 59, 60, 61] → τ k = σ k) (e17 : σ 50 17 ≤ τ 50 17) (e18 : τ 50 18 = σ 50 18) : D_G τ := by
  intro g hg
  rw [e18] at hg
  rw [e 6 (by decide), e 7 (by decide), e 8 (by decide), e 9 (by decide), e 10 (by decide), e 11 (by decide), e 56 (by decide), e 57 (by decide), e 58 (by decide), e 59 (by decide), e 60 (by decide), e 61 (by decide)]
  obtain ⟨h1, h2, h3, h4⟩ := h g hg
  exact ⟨h1, h2, by omega, h4⟩
end FF
section LP
variable {σ : SS} {n : Nat} {T : Nat → Int} {p : Nat} {lo hi : Int}
theorem nF_ok (hp : p ≤ n) (h : nF n T p lo hi = 0) : lo ≤ nV n T p ∧ nV n T p ≤ hi ∧ p ≤ nE n T p ∧ nE n T p ≤ n := by
  have h1 := n_sp (T := T) hp
  have h2 := nF_0 h
  omega
theorem nE_le (hp : p ≤ n) : nE n T p ≤ n ∧ p ≤ nE n T p := by
  have h1 := n_sp (T := T) hp
  omega
theorem nF_bad (h : nF n T p lo hi ≠ 0) : 1 ≤ nF n T p lo hi ∧ nF n T p lo hi ≤ 4 ∧ 0 < nF n T p lo hi := by
  rcases nF_cases (n := n) (T := T) (p := p) (lo := lo) (hi := hi) with z | z | z
  · exact absurd z h
  · omega
  · omega
theorem c_numY {t b o g : Int} (hn : TT n T) (hX : TX σ n T) (hp : p ≤ n) (h : nF n T p lo hi = 0) : ev 511 0 [qR 1, qI lo, qI hi, qU, qU, qU] [] (rC σ (p : Int) t 0 b o g) = some (some (qI (nV n T p)), rC σ (nE n T p : Nat) (nA n T p : Nat) 0 b o g) := by
  rw [c_num hn hX hp, h, if_pos rfl]
theorem c_numN {t b o g : Int} (hn : TT n T) (hX : TX σ n T) (hp : p ≤ n) (h : nF n T p lo hi ≠ 0) : ev 511 0 [qR 1, qI lo, qI hi, qU, qU, qU] [] (rC σ (p : Int) t 0 b o g) = some (some (qI (nV n T p)), rC σ (nE n T p : Nat) (nA n T p : Nat) (nF n T p lo hi) (nA n T p : Nat) o g) := by
  rw [c_num hn hX hp, if_neg h]
theorem m_numY {s l b : Int} (hn : TT n T) (hY : TY σ n T) (hp : p ≤ n) (h : nF n T p lo hi = 0) : ev 909 0 [qR 50, qI lo, qI hi, qU, qU, qU] [] (rM σ (p : Int) s l 0 b) = some (some (qI (nV n T p)), rM σ (nE n T p : Nat) (nA n T p : Nat) l 0 b) := by
  obtain ⟨v, h1, h2⟩ := m_num (σ := σ) (s := s) (l := l) (b := b) (lo := lo) (hi := hi) hn hY hp
  rw [h1, h2 h, h, if_pos rfl]
theorem m_numN {s l b : Int} (hn : TT n T) (hY : TY σ n T) (hp : p ≤ n) (h : nF n T p lo hi ≠ 0) : ∃ v, ev 909 0 [qR 50, qI lo, qI hi, qU, qU, qU] [] (rM σ (p : Int) s l 0 b) = some (some (qI v), rM σ (nE n T p : Nat) (nA n T p : Nat) l (nF n T p lo hi) (nA n T p : Nat)) := by
  obtain ⟨v, h1, h2⟩ := m_num (σ := σ) (s := s) (l := l) (b := b) (lo := lo) (hi := hi) hn hY hp
  rw [if_neg h] at h1
  exact ⟨v, h1⟩
theorem c_onceY {a e : Nat} {c t b o g w : Int} (hw : q_and o w = 0) (he : (e : Int) = (a : Int) + c) (hr : e ≤ 300) : ev 513 0 [qR 1, qI w, qI c] [] (rC σ (a : Int) t 0 b o g) = some (none, rC σ (e : Int) t 0 b (q_or o w) g) := by
  rw [b513_0, rC_6, if_pos hw, b513_14 (by rw [rC_4]; omega), rC_6, rC_4, rC_p6, rC_p4, show (a : Int) + c = (e : Int) by omega]
theorem c_onceN {a e : Nat} {c t b o g w : Int} (hw : ¬ q_and o w = 0) (he : (e : Int) = (a : Int) + c) (hr : e ≤ 300) : ev 513 0 [qR 1, qI w, qI c] [] (rC σ (a : Int) t 0 b o g) = some (none, rC σ (e : Int) t 3 t (q_or o w) g) := by
  rw [b513_0, rC_6, if_neg hw, b513_9, b515_0, rC_5, rC_p2, rC_p3, bN, b513_14 (by rw [rC_4]; omega), rC_6, rC_4, rC_p6, rC_p4, show (a : Int) + c = (e : Int) by omega]
theorem c_cntY {a e : Nat} {c t b o g x y : Int} (hw : x < y) (he : (e : Int) = (a : Int) + c) (hr : e ≤ 300) : ev 514 0 [qR 1, qI x, qI y, qI c] [] (rC σ (a : Int) t 0 b o g) = some (none, rC σ (e : Int) t 0 b o g) := by
  rw [b514_0, if_pos hw, b514_10 (by rw [rC_4]; omega), rC_4, rC_p4, show (a : Int) + c = (e : Int) by omega]
theorem c_cntN {a e : Nat} {c t b o g x y : Int} (hw : ¬ x < y) (he : (e : Int) = (a : Int) + c) (hr : e ≤ 300) : ev 514 0 [qR 1, qI x, qI y, qI c] [] (rC σ (a : Int) t 0 b o g) = some (none, rC σ (e : Int) t 3 t o g) := by
  rw [b514_0, if_neg hw, b514_5, b515_0, rC_5, rC_p2, rC_p3, bN, b514_10 (by rw [rC_4]; omega), rC_4, rC_p4, show (a : Int) + c = (e : Int) by omega]
theorem once_1 {o : Int} (h : 0 ≤ o ∧ o ≤ 7) : (q_and o 1 = 0 ↔ o.toNat.testBit 0 = false) ∧ 0 ≤ q_or o 1 ∧ q_or o 1 ≤ 7 := by
  have : o = 0 ∨ o = 1 ∨ o = 2 ∨ o = 3 ∨ o = 4 ∨ o = 5 ∨ o = 6 ∨ o = 7 := by omega
  rcases this with z | z | z | z | z | z | z | z <;> subst z <;> decide
theorem once_2 {o : Int} (h : 0 ≤ o ∧ o ≤ 7) : (q_and o 2 = 0 ↔ o.toNat.testBit 1 = false) ∧ 0 ≤ q_or o 2 ∧ q_or o 2 ≤ 7 := by
  have : o = 0 ∨ o = 1 ∨ o = 2 ∨ o = 3 ∨ o = 4 ∨ o = 5 ∨ o = 6 ∨ o = 7 := by omega
  rcases this with z | z | z | z | z | z | z | z <;> subst z <;> decide
theorem once_4 {o : Int} (h : 0 ≤ o ∧ o ≤ 7) : (q_and o 4 = 0 ↔ o.toNat.testBit 2 = false) ∧ 0 ≤ q_or o 4 ∧ q_or o 4 ≤ 7 := by
  have : o = 0 ∨ o = 1 ∨ o = 2 ∨ o = 3 ∨ o = 4 ∨ o = 5 ∨ o = 6 ∨ o = 7 := by omega
  rcases this with z | z | z | z | z | z | z | z <;> subst z <;> decide
end LP
section LQ
variable {σ : SS} {n : Nat} {T : Nat → Int}
theorem l_noon {a e : Nat} {l : Int} (hB : LB σ n T) (he : e = a + 4) (hen : e ≤ n) : ∃ σ1 σ2, ev 503 0 [qR 1, qR 3] [] (rC σ (a : Int) (a : Int) 0 (-1) (σ 1 6) (σ 1 7)) = some (none, σ1) ∧ ev 911 0 [qR 50, qI (a : Int)] [] (rM σ (e : Int) (a : Int) l 0 (-1)) = some (none, σ2) ∧ OUT n T σ σ1 σ2 a := by
  have hB0 := hB
  obtain ⟨hT, hX, hY, hS, hH, hW, hG⟩ := hB
  have h3 := hT.1
  unfold D_S at hS
  have ho := once_2 (o := σ 50 21) (by omega)
  have e6 : σ 1 6 = σ 50 21 := by omega
  have mh : ev 902 0 [qI (rM σ (e : Int) (a : Int) l 0 (-1) 50 21), qI 1] [] (rM σ (e : Int) (a : Int) l 0 (-1)) = some (some (qI (b01 ((σ 50 21).toNat.testBit 1))), rM σ (e : Int) (a : Int) l 0 (-1)) := by
    rw [rM_21, m_has (by omega)]; rfl
  rw [e6, b503_0, b911_0, mh, bS, b911_9]
  by_cases h0 : q_and (σ 50 21) 2 = 0
  · rw [c_onceY h0 (show (e : Int) = (a : Int) + 4 by omega) (by omega), bN, ho.1.mp h0, if_pos b01_f, b911_12, b911_17, m_wantY, bS, b911_22, if_neg (by decide), b911_25, rM_21, rM_pu5 (by decide), b503_6]
    by_cases f1 : nF n T e 0 23 = 0
    · have g1 := nF_ok hen f1
      rw [c_numY hT hX hen f1, bS, b503_14, rC_put (by decide), m_numY hT (hY.put (by decide)) hen f1, bS, b911_43, b911_46, rM_pu5 (by decide)]
      refine ⟨_, _, rfl, rfl, (by repeat (first | exact FC.refl | apply FC.rC | refine FC.put (by decide) ?_)), (by repeat (first | exact FM.refl | apply FM.rM | refine FM.p50 (by decide) ?_ | refine FM.p53 (by omega) ?_ | refine FM.pH (by decide) (by omega) ?_ | refine FM.p60 (by omega) ?_)), Or.inr ⟨nE n T e, by omega, LD.mk hB0 (by repeat (first | exact FC.refl | apply FC.rC | refine FC.put (by decide) ?_)) (by repeat (first | exact FM.refl | apply FM.rM | refine FM.p50 (by decide) ?_ | refine FM.p53 (by omega) ?_ | refine FM.pH (by decide) (by omega) ?_ | refine FM.p60 (by omega) ?_)) ⟨rfl, rfl, by omega, rfl, rfl, rfl, rfl⟩ ?_ (hH.cg (by intro k hk; simp at hk; rcases hk with rfl | rfl | rfl | rfl <;> simp (disch := decide) only [mix_c, mix_m, rC_ne, rC_1, rC_2, rC_3, rC_4, rC_5, rC_6, rC_7, rM_ne, rM_o, rM_25, rM_26, rM_27, rM_28, rM_29, rw_ne, rw_sl, rw_eq, true_and, and_true]) (by simp (disch := decide) only [mix_c, mix_m, rC_ne, rC_1, rC_2, rC_3, rC_4, rC_5, rC_6, rC_7, rM_ne, rM_o, rM_25, rM_26, rM_27, rM_28, rM_29, rw_ne, rw_sl, rw_eq, true_and, and_true])) (hW.cg (by simp (disch := decide) only [mix_c, mix_m, rC_ne, rC_1, rC_2, rC_3, rC_4, rC_5, rC_6, rC_7, rM_ne, rM_o, rM_25, rM_26, rM_27, rM_28, rM_29, rw_ne, rw_sl, rw_eq, true_and, and_true]) (by simp (disch := decide) only [mix_c, mix_m, rC_ne, rC_1, rC_2, rC_3, rC_4, rC_5, rC_6, rC_7, rM_ne, rM_o, rM_25, rM_26, rM_27, rM_28, rM_29, rw_ne, rw_sl, rw_eq, true_and, and_true])) (hG.cg (by intro k hk; simp at hk; rcases hk with rfl | rfl | rfl | rfl | rfl | rfl | rfl | rfl | rfl | rfl | rfl | rfl <;> simp (disch := decide) only [mix_c, mix_m, rC_ne, rC_1, rC_2, rC_3, rC_4, rC_5, rC_6, rC_7, rM_ne, rM_o, rM_25, rM_26, rM_27, rM_28, rM_29, rw_ne, rw_sl, rw_eq, true_and, and_true]) (by simp (disch := decide) only [mix_c, mix_m, rC_ne, rC_1, rC_2, rC_3, rC_4, rC_5, rC_6, rC_7, rM_ne, rM_o, rM_25, rM_26, rM_27, rM_28, rM_29, rw_ne, rw_sl, rw_eq, true_and, and_true]; omega) (by simp (disch := decide) only [mix_c, mix_m, rC_ne, rC_1, rC_2, rC_3, rC_4, rC_5, rC_6, rC_7, rM_ne, rM_o, rM_25, rM_26, rM_27, rM_28, rM_29, rw_ne, rw_sl, rw_eq, true_and, and_true]))⟩⟩
      unfold D_S
      simp (disch := decide) only [mix_c, mix_m, rC_ne, rC_1, rC_2, rC_3, rC_4, rC_5, rC_6, rC_7, rM_ne, rM_o, rM_25, rM_26, rM_27, rM_28, rM_29, rw_ne, rw_sl, rw_eq, true_and, and_true]
      omega
    · obtain ⟨v, hv⟩ := m_numN (σ := q_put σ 50 21 (q_or (σ 50 21) 2)) (s := (a : Int)) (l := l) (b := -1) hT (hY.put (by decide)) hen f1
      have g1 := nF_bad f1
      rw [c_numN hT hX hen f1, bS, b503_14, rC_put (by decide), hv, bS, b911_43, b911_46, rM_pu5 (by decide)]
      exact ⟨_, _, rfl, rfl, OUT.bad (by repeat (first | exact FC.refl | apply FC.rC | refine FC.put (by decide) ?_)) (by repeat (first | exact FM.refl | apply FM.rM | refine FM.p50 (by decide) ?_ | refine FM.p53 (by omega) ?_ | refine FM.pH (by decide) (by omega) ?_ | refine FM.p60 (by omega) ?_)) ⟨g1.1, g1.2.1⟩ rfl rfl rfl rfl⟩
  · have hb : (σ 50 21).toNat.testBit 1 = true := by
      cases hz : (σ 50 21).toNat.testBit 1
      · exact absurd (ho.1.mpr hz) h0
      · rfl
    rw [c_onceN h0 (show (e : Int) = (a : Int) + 4 by omega) (by omega), bN, b503_6, c_num0 (by decide), bS, b503_14, rC_put (by decide), hb, if_neg (by decide), b911_16, b911_17, m_wantN (by decide), bS, b911_22, if_pos rfl, b911_46]
    exact ⟨_, _, rfl, rfl, OUT.bad (f := 3) (by repeat (first | exact FC.refl | apply FC.rC | refine FC.put (by decide) ?_)) (by repeat (first | exact FM.refl | apply FM.rM | refine FM.p50 (by decide) ?_ | refine FM.p53 (by omega) ?_ | refine FM.pH (by decide) (by omega) ?_ | refine FM.p60 (by omega) ?_)) (by decide) rfl rfl rfl rfl⟩
end LQ
