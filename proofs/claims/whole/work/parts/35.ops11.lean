/-! ===== sisters ===== -/
def sC (σ : SS) (f t : Nat → Int) : SS := fun k => if k = 48 then f else if k = 49 then t else σ k
def sM (σ : SS) (f : Nat → Int) : SS := fun k => if k = 65 then f else σ k
theorem updn_same {f : Nat → Int} {i : Nat} {v : Int} : updn f i v i = v := by unfold updn; rw [if_pos rfl]
theorem updn_ne {f : Nat → Int} {i j : Nat} {v : Int} (h : j ≠ i) : updn f i v j = f j := by unfold updn; rw [if_neg h]
theorem updn_back {f : Nat → Int} {i : Nat} {v : Int} : updn (updn f i v) i (f i) = f := by
  funext j
  unfold updn
  split
  · subst j; rfl
  · rfl
theorem updn_two {f : Nat → Int} {i : Nat} {v w : Int} : updn (updn f i v) i w = updn f i w := by
  funext j
  unfold updn
  split <;> rfl
theorem sC_48 {σ : SS} {f t : Nat → Int} {i : Nat} {v : Int} : q_put (sC σ f t) 48 i v = sC σ (updn f i v) t := by
  funext k j
  unfold q_put sC updn
  by_cases h : k = 48
  · subst h
    simp
  · simp [h]
theorem sC_49 {σ : SS} {f t : Nat → Int} {i : Nat} {v : Int} : q_put (sC σ f t) 49 i v = sC σ f (updn t i v) := by
  funext k j
  unfold q_put sC updn
  by_cases h : k = 49
  · subst h
    simp
  · simp [h]
theorem sM_65 {σ : SS} {f : Nat → Int} {i : Nat} {v : Int} : q_put (sM σ f) 65 i v = sM σ (updn f i v) := by
  funext k j
  unfold q_put sM updn
  by_cases h : k = 65
  · subst h
    simp
  · simp [h]
theorem sC_id {σ : SS} : sC σ (σ 48) (σ 49) = σ := by
  funext k
  unfold sC
  split
  · subst k; rfl
  · split
    · subst k; rfl
    · rfl
theorem sM_id {σ : SS} : sM σ (σ 65) = σ := by
  funext k
  unfold sM
  split
  · subst k; rfl
  · rfl
theorem sC_ne {σ : SS} {f t : Nat → Int} {k : Nat} (h : k ≠ 48 ∧ k ≠ 49) : sC σ f t k = σ k := by
  unfold sC
  rw [if_neg h.1, if_neg h.2]
theorem sM_ne {σ : SS} {f : Nat → Int} {k : Nat} (h : k ≠ 65) : sM σ f k = σ k := by
  unfold sM
  rw [if_neg h]
/-- who wins, from g on -/
def s_win (F : Nat → Int → Bool) (f : Nat → Int) : Nat → Int → Int → Int
  | 0, _, b => b
  | k + 1, g, b => if (b = -1 ∨ f g.toNat < f b.toNat) ∧ F g.toNat (f g.toNat) = true then s_win F f k (g + 1) g else s_win F f k (g + 1) b
def s_take (F : Nat → Int → Bool) (n : Nat) (f : Nat → Int) (g : Nat) : Nat → Int → Option (Nat → Int)
  | 0, _ => none
  | k + 1, x => if s_win F (updn f g x) n 0 (-1) = g then some (updn f g x) else s_take F n f g k (x + 1)
def s_one (F : Nat → Int → Bool) (n : Nat) (f : Nat → Int) (g : Nat) : (Nat → Int) × Bool := if s_win F f n 0 (-1) = g then (f, false) else match s_take F n f g 24 0 with
  | some f' => (f', true)
  | none => (f, false)
def s_rnd (F : Nat → Int → Bool) (n : Nat) : Nat → Int → (Nat → Int) → Bool → (Nat → Int) × Bool
  | 0, _, f, c => (f, c)
  | k + 1, g, f, c => s_rnd F n k (g + 1) (s_one F n f g.toNat).1 (c || (s_one F n f g.toNat).2)
def s_play (F : Nat → Int → Bool) (n : Nat) : Nat → Int → (Nat → Int) → Int × (Nat → Int)
  | 0, r, f => (r, f)
  | k + 1, r, f => if (s_rnd F n n 0 f false).2 = true then s_play F n k (r + 1) (s_rnd F n n 0 f false).1 else (r, (s_rnd F n n 0 f false).1)
/-- only the girls there are count -/
def s_eq (n : Nat) (f f' : Nat → Int) : Prop := ∀ i, i < n → f i = f' i
theorem s_win_cg {F : Nat → Int → Bool} {n : Nat} {f f' : Nat → Int} (h : s_eq n f f') : ∀ {k : Nat} {g b : Int}, 0 ≤ g → g + k = n → (b = -1 ∨ (0 ≤ b ∧ b < g)) → s_win F f k g b = s_win F f' k g b
  | 0, _, _, _, _, _ => rfl
  | k + 1, g, b, h0, hk, hb => by
    unfold s_win
    have e1 := h g.toNat (by omega)
    rw [e1]
    by_cases hz : b = -1
    · subst hz
      simp only [true_or, true_and]
      rw [s_win_cg h (k := k) (g := g + 1) (b := g) (by omega) (by omega) (by omega), s_win_cg h (k := k) (g := g + 1) (b := -1) (by omega) (by omega) (by omega)]
    · have e2 := h b.toNat (by omega)
      rw [e2, s_win_cg h (k := k) (g := g + 1) (b := g) (by omega) (by omega) (by omega), s_win_cg h (k := k) (g := g + 1) (b := b) (by omega) (by omega) (by omega)]
theorem s_eq_up {n : Nat} {f f' : Nat → Int} (h : s_eq n f f') {g : Nat} {x : Int} : s_eq n (updn f g x) (updn f' g x) := by
  intro i hi
  unfold updn
  split
  · rfl
  · exact h i hi
theorem s_take_cg {F : Nat → Int → Bool} {n : Nat} {f f' : Nat → Int} (h : s_eq n f f') {g : Nat} : ∀ {k : Nat} {x : Int}, (s_take F n f g k x = none ∧ s_take F n f' g k x = none) ∨ ∃ a b, s_take F n f g k x = some a ∧ s_take F n f' g k x = some b ∧ s_eq n a b
  | 0, _ => Or.inl ⟨rfl, rfl⟩
  | k + 1, x => by
    unfold s_take
    rw [s_win_cg (s_eq_up h) (by omega) (by omega) (Or.inl rfl)]
    split
    · exact Or.inr ⟨_, _, rfl, rfl, s_eq_up h⟩
    · exact s_take_cg h
theorem s_one_cg {F : Nat → Int → Bool} {n : Nat} {f f' : Nat → Int} (h : s_eq n f f') {g : Nat} : s_eq n (s_one F n f g).1 (s_one F n f' g).1 ∧ (s_one F n f g).2 = (s_one F n f' g).2 := by
  unfold s_one
  rw [s_win_cg h (by omega) (by omega) (Or.inl rfl)]
  split
  · exact ⟨h, rfl⟩
  · rcases s_take_cg (F := F) h (g := g) (k := 24) (x := 0) with e | ⟨a, b, e1, e2, e3⟩
    · rw [e.1, e.2]
      exact ⟨h, rfl⟩
    · rw [e1, e2]
      exact ⟨e3, rfl⟩
theorem s_rnd_cg {F : Nat → Int → Bool} {n : Nat} : ∀ {k : Nat} {g : Int} {f f' : Nat → Int} {c : Bool}, s_eq n f f' → s_eq n (s_rnd F n k g f c).1 (s_rnd F n k g f' c).1 ∧ (s_rnd F n k g f c).2 = (s_rnd F n k g f' c).2
  | 0, _, _, _, _, h => ⟨h, rfl⟩
  | k + 1, g, f, f', c, h => by
    unfold s_rnd
    have q := s_one_cg (F := F) h (g := g.toNat)
    rw [q.2]
    exact s_rnd_cg q.1
theorem s_play_cg {F : Nat → Int → Bool} {n : Nat} : ∀ {k : Nat} {r : Int} {f f' : Nat → Int}, s_eq n f f' → (s_play F n k r f).1 = (s_play F n k r f').1 ∧ s_eq n (s_play F n k r f).2 (s_play F n k r f').2
  | 0, _, _, _, h => ⟨rfl, h⟩
  | k + 1, r, f, f', h => by
    unfold s_play
    have q := s_rnd_cg (F := F) (n := n) (k := n) (g := 0) (c := false) h
    rw [q.2]
    split
    · exact s_play_cg q.1
    · exact ⟨rfl, q.1⟩
/-- hours of the day -/
def s_ok (n : Nat) (f : Nat → Int) : Prop := ∀ i, i < n → 0 ≤ f i ∧ f i < 24
theorem s_ok_up {n : Nat} {f : Nat → Int} (h : s_ok n f) {g : Nat} {x : Int} (hx : 0 ≤ x ∧ x < 24) : s_ok n (updn f g x) := by
  intro i hi
  unfold updn
  split
  · exact hx
  · exact h i hi
theorem s_take_ok {F : Nat → Int → Bool} {n : Nat} {f : Nat → Int} (h : s_ok n f) {g : Nat} : ∀ {k : Nat} {x : Int} {a : Nat → Int}, 0 ≤ x → x + k = 24 → s_take F n f g k x = some a → s_ok n a
  | 0, _, _, _, _, e => by cases e
  | k + 1, x, a, h0, hk, e => by
    unfold s_take at e
    split at e
    · cases e
      exact s_ok_up h (by omega)
    · exact s_take_ok h (by omega) (by omega) e
theorem s_one_ok {F : Nat → Int → Bool} {n : Nat} {f : Nat → Int} (h : s_ok n f) {g : Nat} : s_ok n (s_one F n f g).1 := by
  unfold s_one
  split
  · exact h
  · cases e : s_take F n f g 24 0 with
    | none => exact h
    | some a => exact s_take_ok h (by omega) (by omega) e
theorem s_rnd_ok {F : Nat → Int → Bool} {n : Nat} : ∀ {k : Nat} {g : Int} {f : Nat → Int} {c : Bool}, s_ok n f → s_ok n (s_rnd F n k g f c).1
  | 0, _, _, _, h => h
  | k + 1, g, f, c, h => by
    unfold s_rnd
    exact s_rnd_ok (s_one_ok h)
theorem s_win_rng {F : Nat → Int → Bool} {f : Nat → Int} : ∀ {k : Nat} {g b : Int}, 0 ≤ g → (b = -1 ∨ (0 ≤ b ∧ b < g)) → s_win F f k g b = -1 ∨ (0 ≤ s_win F f k g b ∧ s_win F f k g b < g + k)
  | 0, g, b, h0, hb => by unfold s_win; omega
  | k + 1, g, b, h0, hb => by
    unfold s_win
    split
    · have := s_win_rng (F := F) (f := f) (k := k) (g := g + 1) (b := g) (by omega) (by omega)
      omega
    · have := s_win_rng (F := F) (f := f) (k := k) (g := g + 1) (b := b) (by omega) (by omega)
      omega
section O12
variable {σ : SS} {N : Int}
def s_F (σ : SS) (g : Nat) (x : Int) : Bool := p_dry σ g x (p_gl σ (σ 51 20))
def s_B (σ : SS) (t : Nat → Int) : Prop := ∀ i : Nat, (i : Int) < σ 50 14 → t i = ((bset (fun x => s_F σ i x) 24 : Nat) : Int)
theorem RR.sisC (h : RR σ N) {f t : Nat → Int} : RR (sC σ f t) N := by
  have hn := h.n
  have := h.cg2 (σ1 := sC σ f t) (σ2 := σ) (N' := N) (by omega) (by omega) (fun k hk => sC_ne (by constructor <;> (rintro rfl; revert hk; decide))) (fun _ _ => rfl)
  have e : mix (sC σ f t) σ = sC σ f t := by
    funext k
    unfold mix
    split
    · rfl
    · rw [sC_ne (by omega)]
  rw [e] at this
  exact this
end O12
