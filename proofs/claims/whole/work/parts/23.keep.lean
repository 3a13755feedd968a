/-! ===== what the relation rests on ===== -/
theorem rw_ne {σ : SS} {k j k' : Nat} {v : Int} (h : k' ≠ k) : q_put σ k j v k' = σ k' := put_ne h
theorem rw_sl {σ : SS} {k j j' : Nat} {v : Int} (h : j' ≠ j) : q_put σ k j v k j' = σ k j' := by simp [q_put, h]
theorem rw_eq {σ : SS} {k j : Nat} {v : Int} : q_put σ k j v k j = v := by simp [q_put]
theorem rw_at {σ : SS} {k j k' j' : Nat} {v : Int} : q_put σ k j v k' j' = if k' = k ∧ j' = j then v else σ k' j' := rfl
theorem rc_ne {σ : SS} {k sp dp n k' : Nat} {f : Nat → Int} (h : k' ≠ k) : q_cpy σ k f sp dp n k' = σ k' := by
  funext b
  simp [q_cpy, h]
theorem rc_in {σ : SS} {k n j : Nat} {f : Nat → Int} (h : j < n) : q_cpy σ k f 0 0 n k j = f j := by simp [q_cpy, h]
theorem R_T.cg {σ σ' : SS} (h : R_T σ) (e : ∀ k, k ∈ [12, 13, 14, 16, 17, 18, 19, 20, 53, 54, 55, 57, 58, 59, 60, 61] → σ' k = σ k) (e50 : ∀ j, j ∈ [3, 13, 14, 15, 16] → σ' 50 j = σ 50 j) : R_T σ' := by
  unfold R_T at h ⊢
  rw [e 12 (by decide), e 13 (by decide), e 14 (by decide), e 16 (by decide), e 17 (by decide), e 18 (by decide), e 19 (by decide), e 20 (by decide), e 53 (by decide), e 54 (by decide), e 55 (by decide), e 57 (by decide), e 58 (by decide), e 59 (by decide), e 60 (by decide), e 61 (by decide), e50 3 (by decide), e50 13 (by decide), e50 14 (by decide), e50 15 (by decide), e50 16 (by decide)]
  exact h
theorem R_N.cg {σ σ' : SS} {N N' : Int} {c b : Nat} (h : R_N σ N c b) (hN : N ≤ N') (hg : σ 50 14 ≤ 6) (e0 : σ' c = σ c) (e1 : σ' (c + 1) = σ (c + 1)) (e2 : σ' (c + 2) = σ (c + 2)) (e3 : σ' (c + 3) = σ (c + 3)) (e51 : ∀ j, b ≤ j → j < b + 32 → σ' 51 j = σ 51 j) (e50 : ∀ j, j ∈ [3, 13, 14, 15, 16] → σ' 50 j = σ 50 j) : R_N σ' N' c b := by
  unfold R_N at h ⊢
  rw [e0, e1, e2, e3, e51 (b + 21) (by omega) (by omega), e51 (b + 22) (by omega) (by omega), e51 (b + 18) (by omega) (by omega), e51 (b + 19) (by omega) (by omega), e51 (b + 20) (by omega) (by omega), e51 (b + 23) (by omega) (by omega), e50 13 (by decide), e50 14 (by decide)]
  obtain ⟨h1, h2, h3⟩ := h
  refine ⟨h1, by omega, fun g hgg => ?_⟩
  rw [e51 (b + g) (by omega) (by omega), e51 (b + 6 + g) (by omega) (by omega), e51 (b + 12 + g) (by omega) (by omega)]
  exact h3 g hgg
theorem R_K.cg {σ σ' : SS} {N N' : Int} (h : R_K σ N) (hN : N ≤ N') (hg : σ 50 14 ≤ 6) (e : ∀ k, k ∈ [0, 52, 26, 27, 28, 29, 30, 31, 32, 33] → σ' k = σ k) (e51 : ∀ j, 32 ≤ j → σ' 51 j = σ 51 j) (e50 : ∀ j, j ∈ [3, 13, 14, 15, 16] → σ' 50 j = σ 50 j) : R_K σ' N' := by
  unfold R_K at h ⊢
  rw [e 0 (by decide), e 52 (by decide)]
  obtain ⟨h1, h2, h3, h4, h5, h6⟩ := h
  exact ⟨h1, h2, h3, h4, fun z => (h5 z).cg hN hg (e 26 (by decide)) (e 27 (by decide)) (e 28 (by decide)) (e 29 (by decide)) (fun j a b => e51 j a) e50, fun z => (h6 z).cg hN hg (e 30 (by decide)) (e 31 (by decide)) (e 32 (by decide)) (e 33 (by decide)) (fun j a b => e51 j (by omega)) e50⟩
theorem R_B.cg {σ σ' : SS} (h : R_B σ) (e : ∀ k, k ∈ [35, 36, 37, 38, 39, 40, 41, 66, 67, 68, 69, 70, 71] → σ' k = σ k) (e50 : ∀ j, j ∈ [14, 35, 37, 41] → σ' 50 j = σ 50 j) : R_B σ' := by
  unfold R_B at h ⊢
  rw [e 35 (by decide), e 36 (by decide), e 37 (by decide), e 38 (by decide), e 39 (by decide), e 40 (by decide), e 41 (by decide), e 66 (by decide), e 67 (by decide), e 68 (by decide), e 69 (by decide), e 70 (by decide), e 71 (by decide), e50 14 (by decide), e50 35 (by decide), e50 37 (by decide), e50 41 (by decide)]
  exact h
theorem R_X.cg {σ σ' : SS} (h : R_X σ) (e : ∀ k, k ∈ [2, 62] → σ' k = σ k) (e1 : σ' 1 1 = σ 1 1) (e3 : σ' 1 3 = σ 1 3) (e50 : ∀ j, j ∈ [24, 29] → σ' 50 j = σ 50 j) : R_X σ' := by
  unfold R_X at h ⊢
  rw [e 2 (by decide), e 62 (by decide), e1, e3, e50 24 (by decide), e50 29 (by decide)]
  exact h
/-- nothing that counts is written -/
theorem RR.cg2 {σ σ1 σ2 : SS} {N N' : Int} (h : RR σ N) (hN : N ≤ N') (hN' : N' ≤ 100000) (ec : ∀ k, k ∈ [0, 1, 2, 12, 13, 14, 16, 17, 18, 19, 20, 21, 22, 23, 24, 26, 27, 28, 29, 30, 31, 32, 33, 35, 36, 37, 38, 39, 40, 41] → σ1 k = σ k) (em : ∀ k, k ∈ [50, 51, 52, 53, 54, 55, 57, 58, 59, 60, 61, 62, 66, 67, 68, 69, 70, 71] → σ2 k = σ k) : RR (mix σ1 σ2) N' := by
  have ht := h.t
  obtain ⟨h1, h2, h3, h4, h5, h6, h7⟩ := h
  have e : ∀ k, k ∈ [0, 1, 2, 12, 13, 14, 16, 17, 18, 19, 20, 21, 22, 23, 24, 26, 27, 28, 29, 30, 31, 32, 33, 35, 36, 37, 38, 39, 40, 41, 50, 51, 52, 53, 54, 55, 57, 58, 59, 60, 61, 62, 66, 67, 68, 69, 70, 71] → mix σ1 σ2 k = σ k := by
    intro k hk
    by_cases hlt : k < 50
    · rw [mix_c hlt]; exact ec k (by revert hlt; revert hk; revert k; decide)
    · rw [mix_m (by omega)]; exact em k (by revert hlt; revert hk; revert k; decide)
  have sub : ∀ {l : List Nat}, (∀ k ∈ l, k ∈ [0, 1, 2, 12, 13, 14, 16, 17, 18, 19, 20, 21, 22, 23, 24, 26, 27, 28, 29, 30, 31, 32, 33, 35, 36, 37, 38, 39, 40, 41, 50, 51, 52, 53, 54, 55, 57, 58, 59, 60, 61, 62, 66, 67, 68, 69, 70, 71]) → ∀ k, k ∈ l → mix σ1 σ2 k = σ k := fun hl k hk => e k (hl k hk)
  have e50 : ∀ {l : List Nat} (j : Nat), j ∈ l → mix σ1 σ2 50 j = σ 50 j := fun j _ => by rw [e 50 (by decide)]
  have e51 : ∀ j, mix σ1 σ2 51 j = σ 51 j := fun j => by rw [e 51 (by decide)]
  exact ⟨h1.cg (sub (by decide)) e50, h2.cg hN (by omega) (e 21 (by decide)) (e 22 (by decide)) (e 23 (by decide)) (e 24 (by decide)) (fun j _ _ => e51 j) e50, h3.cg hN (by omega) (sub (by decide)) (fun j _ => e51 j) e50, h4.cg (sub (by decide)) e50, h5.cg (sub (by decide)) (by rw [e 1 (by decide)]) (by rw [e 1 (by decide)]) e50, by omega, hN'⟩
/-- the night alone is written -/
theorem RR.night {σ σ1 σ2 : SS} {N N' : Int} (h : RR σ N) (hN : N ≤ N') (hN' : N' ≤ 100000) (ec : ∀ k, k ∈ [0, 1, 2, 12, 13, 14, 16, 17, 18, 19, 20, 26, 27, 28, 29, 30, 31, 32, 33, 35, 36, 37, 38, 39, 40, 41] → σ1 k = σ k) (em : ∀ k, k ∈ [50, 52, 53, 54, 55, 57, 58, 59, 60, 61, 62, 66, 67, 68, 69, 70, 71] → σ2 k = σ k) (e51 : ∀ j, 32 ≤ j → σ2 51 j = σ 51 j) (hn : R_N (mix σ1 σ2) N' 21 0) : RR (mix σ1 σ2) N' := by
  have ht := h.t
  obtain ⟨h1, h2, h3, h4, h5, h6, h7⟩ := h
  have e : ∀ k, k ∈ [0, 1, 2, 12, 13, 14, 16, 17, 18, 19, 20, 26, 27, 28, 29, 30, 31, 32, 33, 35, 36, 37, 38, 39, 40, 41, 50, 52, 53, 54, 55, 57, 58, 59, 60, 61, 62, 66, 67, 68, 69, 70, 71] → mix σ1 σ2 k = σ k := by
    intro k hk
    by_cases hlt : k < 50
    · rw [mix_c hlt]; exact ec k (by revert hlt; revert hk; revert k; decide)
    · rw [mix_m (by omega)]; exact em k (by revert hlt; revert hk; revert k; decide)
  have sub : ∀ {l : List Nat}, (∀ k ∈ l, k ∈ [0, 1, 2, 12, 13, 14, 16, 17, 18, 19, 20, 26, 27, 28, 29, 30, 31, 32, 33, 35, 36, 37, 38, 39, 40, 41, 50, 52, 53, 54, 55, 57, 58, 59, 60, 61, 62, 66, 67, 68, 69, 70, 71]) → ∀ k, k ∈ l → mix σ1 σ2 k = σ k := fun hl k hk => e k (hl k hk)
  have e50 : ∀ {l : List Nat} (j : Nat), j ∈ l → mix σ1 σ2 50 j = σ 50 j := fun j _ => by rw [e 50 (by decide)]
  exact ⟨h1.cg (sub (by decide)) e50, hn, h3.cg hN (by omega) (sub (by decide)) (fun j hj => by rw [mix_m (by decide)]; exact e51 j hj) e50, h4.cg (sub (by decide)) e50, h5.cg (sub (by decide)) (by rw [e 1 (by decide)]) (by rw [e 1 (by decide)]) e50, by omega, hN'⟩
/-- what was seen, the steps, the book alone are written -/
theorem RR.book {σ σ1 σ2 : SS} {N N' : Int} (h : RR σ N) (hN : N ≤ N') (hN' : N' ≤ 100000) (ec : ∀ k, k ∈ [0, 1, 2, 12, 13, 14, 16, 17, 18, 19, 20, 21, 22, 23, 24, 26, 27, 28, 29, 30, 31, 32, 33] → σ1 k = σ k) (em : ∀ k, k ∈ [51, 52, 53, 54, 55, 57, 58, 59, 60, 61, 62] → σ2 k = σ k) (f50 : ∀ j, j ∈ [3, 13, 14, 15, 16, 24, 29] → σ2 50 j = σ 50 j) (hb : R_B (mix σ1 σ2)) : RR (mix σ1 σ2) N' := by
  have ht := h.t
  obtain ⟨h1, h2, h3, h4, h5, h6, h7⟩ := h
  have e : ∀ k, k ∈ [0, 1, 2, 12, 13, 14, 16, 17, 18, 19, 20, 21, 22, 23, 24, 26, 27, 28, 29, 30, 31, 32, 33, 51, 52, 53, 54, 55, 57, 58, 59, 60, 61, 62] → mix σ1 σ2 k = σ k := by
    intro k hk
    by_cases hlt : k < 50
    · rw [mix_c hlt]; exact ec k (by revert hlt; revert hk; revert k; decide)
    · rw [mix_m (by omega)]; exact em k (by revert hlt; revert hk; revert k; decide)
  have sub : ∀ {l : List Nat}, (∀ k ∈ l, k ∈ [0, 1, 2, 12, 13, 14, 16, 17, 18, 19, 20, 21, 22, 23, 24, 26, 27, 28, 29, 30, 31, 32, 33, 51, 52, 53, 54, 55, 57, 58, 59, 60, 61, 62]) → ∀ k, k ∈ l → mix σ1 σ2 k = σ k := fun hl k hk => e k (hl k hk)
  have g50 : ∀ j, j ∈ [3, 13, 14, 15, 16] → mix σ1 σ2 50 j = σ 50 j := fun j hj => by rw [mix_m (by decide)]; exact f50 j (by revert hj; revert j; decide)
  have e51 : ∀ j, mix σ1 σ2 51 j = σ 51 j := fun j => by rw [e 51 (by decide)]
  exact ⟨h1.cg (sub (by decide)) g50, h2.cg hN (by omega) (e 21 (by decide)) (e 22 (by decide)) (e 23 (by decide)) (e 24 (by decide)) (fun j _ _ => e51 j) g50, h3.cg hN (by omega) (sub (by decide)) (fun j _ => e51 j) g50, hb, h5.cg (sub (by decide)) (by rw [e 1 (by decide)]) (by rw [e 1 (by decide)]) (fun j hj => by rw [mix_m (by decide)]; exact f50 j (by revert hj; revert j; decide)), by omega, hN'⟩
/-- the text alone is written -/
theorem RR.text {σ σ1 σ2 : SS} {N N' : Int} (h : RR σ N) (hN : N ≤ N') (hN' : N' ≤ 100000) (ec : ∀ k, k ∈ [0, 12, 13, 14, 16, 17, 18, 19, 20, 21, 22, 23, 24, 26, 27, 28, 29, 30, 31, 32, 33, 35, 36, 37, 38, 39, 40, 41] → σ1 k = σ k) (em : ∀ k, k ∈ [51, 52, 53, 54, 55, 57, 58, 59, 60, 61, 66, 67, 68, 69, 70, 71] → σ2 k = σ k) (f50 : ∀ j, j ∈ [3, 13, 14, 15, 16, 35, 37, 41] → σ2 50 j = σ 50 j) (hb : R_X (mix σ1 σ2)) : RR (mix σ1 σ2) N' := by
  have ht := h.t
  obtain ⟨h1, h2, h3, h4, h5, h6, h7⟩ := h
  have e : ∀ k, k ∈ [0, 12, 13, 14, 16, 17, 18, 19, 20, 21, 22, 23, 24, 26, 27, 28, 29, 30, 31, 32, 33, 35, 36, 37, 38, 39, 40, 41, 51, 52, 53, 54, 55, 57, 58, 59, 60, 61, 66, 67, 68, 69, 70, 71] → mix σ1 σ2 k = σ k := by
    intro k hk
    by_cases hlt : k < 50
    · rw [mix_c hlt]; exact ec k (by revert hlt; revert hk; revert k; decide)
    · rw [mix_m (by omega)]; exact em k (by revert hlt; revert hk; revert k; decide)
  have sub : ∀ {l : List Nat}, (∀ k ∈ l, k ∈ [0, 12, 13, 14, 16, 17, 18, 19, 20, 21, 22, 23, 24, 26, 27, 28, 29, 30, 31, 32, 33, 35, 36, 37, 38, 39, 40, 41, 51, 52, 53, 54, 55, 57, 58, 59, 60, 61, 66, 67, 68, 69, 70, 71]) → ∀ k, k ∈ l → mix σ1 σ2 k = σ k := fun hl k hk => e k (hl k hk)
  have g50 : ∀ j, j ∈ [3, 13, 14, 15, 16] → mix σ1 σ2 50 j = σ 50 j := fun j hj => by rw [mix_m (by decide)]; exact f50 j (by revert hj; revert j; decide)
  have e51 : ∀ j, mix σ1 σ2 51 j = σ 51 j := fun j => by rw [e 51 (by decide)]
  exact ⟨h1.cg (sub (by decide)) g50, h2.cg hN (by omega) (e 21 (by decide)) (e 22 (by decide)) (e 23 (by decide)) (e 24 (by decide)) (fun j _ _ => e51 j) g50, h3.cg hN (by omega) (sub (by decide)) (fun j _ => e51 j) g50, h4.cg (sub (by decide)) (fun j hj => by rw [mix_m (by decide)]; exact f50 j (by revert hj; revert j; decide)), hb, by omega, hN'⟩
/-- the night, told plainly -/
theorem RN_mk {σ : SS} {N : Int} (h : σ 21 3 = σ 51 21 ∧ σ 21 4 = σ 51 22 ∧ σ 21 5 = σ 51 18 ∧ σ 21 6 = σ 51 19 ∧ σ 21 7 = σ 51 20 ∧ σ 21 8 = σ 51 23 ∧ 0 ≤ σ 51 21 ∧ σ 51 21 ≤ N ∧ 0 ≤ σ 51 22 ∧ σ 51 22 ≤ 5 ∧ (0 < σ 50 13 → σ 51 22 < σ 50 13) ∧ (σ 50 13 = 0 → σ 51 22 = 0) ∧ 0 ≤ σ 51 18 ∧ σ 51 18 < 64 ∧ 0 ≤ σ 51 19 ∧ σ 51 19 ≤ 1 ∧ 0 ≤ σ 51 20 ∧ σ 51 20 ≤ 9999 ∧ 0 ≤ σ 51 23 ∧ σ 51 23 ≤ 2147483647)
    (hg : ∀ g : Nat, (g : Int) < σ 50 14 → σ 22 g = σ 51 g ∧ 0 ≤ σ 51 g ∧ σ 51 g < σ 50 13 ∧ σ 23 g = σ 51 (6 + g) ∧ 0 ≤ σ 51 (6 + g) ∧ σ 51 (6 + g) ≤ 5 ∧ ((σ 24 g = σ 51 (12 + g) ∧ 0 ≤ σ 51 (12 + g) ∧ σ 51 (12 + g) ≤ σ 51 21) ∨ (σ 24 g = -1000 ∧ σ 51 (12 + g) = -100))) : R_N σ N 21 0 := by
  obtain ⟨a1, a2, a3, a4, a5, a6, b⟩ := h
  refine ⟨⟨?_, ?_, ?_, ?_, ?_, ?_⟩, ?_, fun g hgg => ?_⟩
  all_goals simp only [Nat.zero_add]
  all_goals first | assumption | exact hg g hgg
theorem RR.ng {σ : SS} {N : Int} (h : RR σ N) {g : Nat} (hg : (g : Int) < σ 50 14) : σ 22 g = σ 51 g ∧ 0 ≤ σ 51 g ∧ σ 51 g < σ 50 13 ∧ σ 23 g = σ 51 (6 + g) ∧ 0 ≤ σ 51 (6 + g) ∧ σ 51 (6 + g) ≤ 5 ∧ ((σ 24 g = σ 51 (12 + g) ∧ 0 ≤ σ 51 (12 + g) ∧ σ 51 (12 + g) ≤ σ 51 21) ∨ (σ 24 g = -1000 ∧ σ 51 (12 + g) = -100)) := by
  have h1 := h.2.1.2.2 g hg
  simp only [Nat.zero_add] at h1
  exact h1
/-- an operation: class and model answer alike, from one memory -/
def Op (mi mj : Nat) (L M : List AV) (σ : SS) (N : Int) : Prop := ∃ a σ1 σ2, ev mi 0 L [] σ = some (some (qI a), σ1) ∧ ev mj 0 M [] σ = some (some (qI a), σ2) ∧ RR (mix σ1 σ2) (N + 999)
section OPS
variable {σ : SS} {N : Int}
/-- an answer that writes nothing that counts -/
theorem Op.ro {mi mj : Nat} {L M : List AV} (h : RR σ N) (hN : N + 999 ≤ 100000) {a : Int} (h1 : ev mi 0 L [] σ = some (some (qI a), σ)) (h2 : ev mj 0 M [] σ = some (some (qI a), σ)) : Op mi mj L M σ N := ⟨a, σ, σ, h1, h2, h.cg2 (by omega) hN (fun _ _ => rfl) (fun _ _ => rfl)⟩
theorem op_fault (h : RR σ N) (hN : N + 999 ≤ 100000) : Op 802 920 [qR 0] [qR 50] σ N := by
  have hb := h.b
  refine Op.ro h hN (a := σ 50 29) ?_ ?_
  · simp (disch := first | omega | exact b01_or _) only [b802_0]
    exact rI (by omega)
  · simp (disch := first | omega | exact b01_or _) only [b920_0]
theorem op_feed {c : Int} (h : RR σ N) (hN : N + 999 ≤ 100000) : Op 800 904 [qR 0, qI c] [qR 50, qI c] σ N := by
  have hb := h.b
  have hX := h.2.2.2.2.1
  by_cases hc : 0 ≤ c ∧ c ≤ 255
  · have c1 : ¬ c < 0 := by omega
    have c2 : ¬ 255 < c := by omega
    by_cases hl : σ 50 24 = 300
    · refine Op.ro h hN (a := -1000000004) ?_ ?_
      · have h1 : ¬ σ 1 1 < 300 := by omega
        simp (disch := first | omega | exact b01_or _) only [b800_0, b800_4, b800_11, b800_14, b800_27, b800_30, c1, c2, h1, b01_eq0, b01_eq1, decide_eq_false_iff_not, decide_eq_true_eq, ite_not, b01_t, b01_f, one_ne0, zero_eq0, ite_true, ite_false, and_self, and_true, true_and, not_true_eq_false, not_false_eq_true]
      · simp (disch := first | omega | exact b01_or _) only [b904_0, b904_9, b904_12, b904_15, b904_25, b904_28, m_in, Option.bind_some, q_push_some, q_push_none, b01_eq0, b01_eq1, decide_eq_false_iff_not, decide_eq_true_eq, ite_not, b01_t, b01_f, one_ne0, zero_eq0, ite_true, ite_false, and_self, and_true, true_and, not_true_eq_false, not_false_eq_true, hc.1, hc.2, hl]
    · have e1 : σ 1 1 = σ 50 24 := by omega
      have h1 : σ 50 24 < 300 := by omega
      refine ⟨σ 50 24 + 1, q_put (q_put σ 2 (σ 50 24).toNat c) 1 1 (σ 50 24 + 1), q_put (q_put σ 62 (σ 50 24).toNat c) 50 24 (σ 50 24 + 1), ?_, ?_, ?_⟩
      · simp (disch := first | omega | exact b01_or _) only [b800_0, b800_4, b800_11, b800_14, b800_27, b800_30, c1, c2, e1, h1, b01_eq0, b01_eq1, decide_eq_false_iff_not, decide_eq_true_eq, ite_not, b01_t, b01_f, one_ne0, zero_eq0, ite_true, ite_false, and_self, and_true, true_and, not_true_eq_false, not_false_eq_true]
      · simp (disch := first | omega | exact b01_or _) only [b904_0, b904_9, b904_12, b904_15, b904_25, b904_28, m_in, Option.bind_some, q_push_some, q_push_none, b01_eq0, b01_eq1, decide_eq_false_iff_not, decide_eq_true_eq, ite_not, b01_t, b01_f, one_ne0, zero_eq0, ite_true, ite_false, and_self, and_true, true_and, not_true_eq_false, not_false_eq_true, hc.1, hc.2, hl]
      · refine h.text (by omega) hN (by intro k hk; (repeat rw [put_ne (by rintro rfl; revert hk; decide)])) (by intro k hk; (repeat rw [put_ne (by rintro rfl; revert hk; decide)])) ?_ ?_
        · intro j hj
          rw [rw_sl (by rintro rfl; revert hj; decide), put_ne (by decide)]
        · unfold R_X
          simp (disch := decide) only [mix_c, mix_m, rw_ne, rw_sl, rw_eq, true_and, and_true]
          refine ⟨by omega, fun i hi => ?_⟩
          have hx := hX.2 i
          simp only [q_put]
          by_cases hi2 : i = (σ 50 24).toNat
          · simp only [hi2, and_self, if_true, true_and]
            omega
          · simp only [hi2, and_false, if_false]
            exact hx (by omega)
  · refine Op.ro h hN (a := -1000000002) ?_ ?_
    · by_cases c1 : c < 0
      · simp (disch := first | omega | exact b01_or _) only [b800_0, b800_4, b800_11, b800_14, b800_27, b800_30, c1, b01_eq0, b01_eq1, decide_eq_false_iff_not, decide_eq_true_eq, ite_not, b01_t, b01_f, one_ne0, zero_eq0, ite_true, ite_false, and_self, and_true, true_and, not_true_eq_false, not_false_eq_true]
      · have c2 : 255 < c := by omega
        simp (disch := first | omega | exact b01_or _) only [b800_0, b800_4, b800_11, b800_14, b800_27, b800_30, c1, c2, b01_eq0, b01_eq1, decide_eq_false_iff_not, decide_eq_true_eq, ite_not, b01_t, b01_f, one_ne0, zero_eq0, ite_true, ite_false, and_self, and_true, true_and, not_true_eq_false, not_false_eq_true]
    · simp (disch := first | omega | exact b01_or _) only [b904_0, b904_9, b904_12, b904_15, b904_25, b904_28, m_in, Option.bind_some, q_push_some, q_push_none, b01_eq0, b01_eq1, decide_eq_false_iff_not, decide_eq_true_eq, ite_not, b01_t, b01_f, one_ne0, zero_eq0, ite_true, ite_false, and_self, and_true, true_and, not_true_eq_false, not_false_eq_true, hc]
end OPS
