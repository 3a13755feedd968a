/-! ===== THE MACHINE'S STATE IN THE HEAP ===== -/
def q_cv (ad : Nat → Nat) (v : AV) : Value := match v with
  | .inl z => .int (i32 z)
  | .inr (.inl z) => .long (i64 z)
  | .inr (.inr (some k)) => .ref (ad k)
  | .inr (.inr none) => .null
def q_fv (ad : Nat → Nat) (σ : SS) (k j : Nat) (f : Option Nat) : Value := match f with
  | none => .int (i32 (σ k j))
  | some k2 => .ref (ad k2)
def q_cell (ad : Nat → Nat) (cI cZ cK : ClassId) (σ : SS) (k : Nat) (s : Nat × Nat × List (Option Nat)) : va_E := match s.1 with
  | 0 => .inl (cI, s.2.1, .inl (fun j => i32 (σ k j)))
  | 1 => .inl (cZ, s.2.1, .inl (fun j => i32 (σ k j)))
  | 2 => .inr (s.2.1, s.2.2.mapIdx (fun j f => q_fv ad σ k j f))
  | _ => .inl (cK, s.2.1, .inr (.inr (.inr (.inr (fun j => (s.2.2.getD j none).map ad)))))
def q_wl (ad : Nat → Nat) (cI cZ cK : ClassId) (σ : SS) : va_W := shT.mapIdx (fun k s => (ad k, q_cell ad cI cZ cK σ k s))
theorem q_wl_at {ad : Nat → Nat} {cI cZ cK : ClassId} {σ : SS} {k : Nat} {s : Nat × Nat × List (Option Nat)} (h : qsh k = some s) : (q_wl ad cI cZ cK σ)[k]? = some (ad k, q_cell ad cI cZ cK σ k s) := by
  unfold q_wl
  unfold qsh at h
  rw [List.getElem?_mapIdx, h]
  rfl
theorem shT_len : shT.length = 72 := by decide +kernel
theorem qsh_lt {k : Nat} {s : Nat × Nat × List (Option Nat)} (h : qsh k = some s) : k < 72 := by
  unfold qsh at h
  have := (List.getElem?_eq_some_iff.mp h).1
  rw [shT_len] at this
  exact this
def q_A (ad : Nat → Nat) : Nat → Prop := fun q => ∃ k, k < 72 ∧ q = ad k
def q_inj (ad : Nat → Nat) : Prop := ∀ i j, i < 72 → j < 72 → ad i = ad j → i = j
theorem q_wl_D {ad : Nat → Nat} {cI cZ cK : ClassId} {σ : SS} (hj : q_inj ad) : va_D (q_A ad) (q_wl ad cI cZ cK σ) := by
  have key : ∀ (k : Nat) (q : Nat × va_E), (q_wl ad cI cZ cK σ)[k]? = some q → k < 72 ∧ q.1 = ad k := by
    intro k q h
    unfold q_wl at h
    rw [List.getElem?_mapIdx] at h
    cases h1 : shT[k]? with
    | none => rw [h1] at h; cases h
    | some s =>
      rw [h1] at h
      cases h
      exact ⟨qsh_lt h1, rfl⟩
  refine ⟨fun i j x y hi hjj hxy => ?_, fun k q hk => ?_⟩
  · obtain ⟨a1, a2⟩ := key i x hi
    obtain ⟨b1, b2⟩ := key j y hjj
    exact hj i j a1 b1 (by rw [← a2, ← b2]; exact hxy)
  · obtain ⟨a1, a2⟩ := key k q hk
    exact ⟨k, a1, a2⟩
theorem q_cell_congr {ad : Nat → Nat} {cI cZ cK : ClassId} {σ σ' : SS} {k : Nat} {s : Nat × Nat × List (Option Nat)} (h : ∀ j, σ' k j = σ k j) : q_cell ad cI cZ cK σ' k s = q_cell ad cI cZ cK σ k s := by
  have e : σ' k = σ k := funext h
  unfold q_cell q_fv
  rw [e]
theorem q_wl_set {ad : Nat → Nat} {cI cZ cK : ClassId} {σ σ' : SS} {k : Nat} {s : Nat × Nat × List (Option Nat)} (hk : qsh k = some s) (h : ∀ a, a ≠ k → ∀ b, σ' a b = σ a b) : (q_wl ad cI cZ cK σ).set k (ad k, q_cell ad cI cZ cK σ' k s) = q_wl ad cI cZ cK σ' := by
  apply List.ext_getElem?
  intro i
  by_cases hi : i = k
  · subst hi
    rw [q_wl_at hk, List.getElem?_set_self]
    have := q_wl_at (ad := ad) (cI := cI) (cZ := cZ) (cK := cK) (σ := σ) hk
    exact (List.getElem?_eq_some_iff.mp this).1
  · rw [List.getElem?_set_ne (Ne.symm hi)]
    cases h1 : qsh i with
    | none =>
      unfold q_wl
      unfold qsh at h1
      rw [List.getElem?_mapIdx, List.getElem?_mapIdx, h1]
      rfl
    | some s1 => rw [q_wl_at h1, q_wl_at h1, q_cell_congr (h i hi)]
theorem q_cell0 {ad : Nat → Nat} {cI cZ cK : ClassId} {σ : SS} {k n : Nat} {x : List (Option Nat)} : q_cell ad cI cZ cK σ k (0, n, x) = .inl (cI, n, .inl (fun j => i32 (σ k j))) := rfl
theorem q_cell1 {ad : Nat → Nat} {cI cZ cK : ClassId} {σ : SS} {k n : Nat} {x : List (Option Nat)} : q_cell ad cI cZ cK σ k (1, n, x) = .inl (cZ, n, .inl (fun j => i32 (σ k j))) := rfl
theorem q_cell2 {ad : Nat → Nat} {cI cZ cK : ClassId} {σ : SS} {k n : Nat} {x : List (Option Nat)} : q_cell ad cI cZ cK σ k (2, n, x) = .inr (n, x.mapIdx (fun j f => q_fv ad σ k j f)) := rfl
theorem q_cell3 {ad : Nat → Nat} {cI cZ cK : ClassId} {σ : SS} {k n : Nat} {x : List (Option Nat)} : q_cell ad cI cZ cK σ k (3, n, x) = .inl (cK, n, .inr (.inr (.inr (.inr (fun j => (x.getD j none).map ad))))) := rfl
/-- a field is put -/
theorem q_set_field {ad : Nat → Nat} {cI cZ cK : ClassId} {σ : SS} {k ci j : Nat} {fs : List (Option Nat)} {v : Int} (hk : qsh k = some (2, ci, fs)) (hj : fs[j]? = some none) : (q_wl ad cI cZ cK σ).set k (ad k, .inr (ci, (fs.mapIdx (fun j f => q_fv ad σ k j f)).set j (.int (i32 v)))) = q_wl ad cI cZ cK (q_put σ k j v) := by
  rw [← q_wl_set (σ := σ) (σ' := q_put σ k j v) hk (fun a ha b => by simp [q_put, ha]), q_cell2]
  congr 4
  apply List.ext_getElem?
  intro i
  by_cases hi : i = j
  · subst hi
    rw [List.getElem?_set_self (by rw [List.length_mapIdx]; exact (List.getElem?_eq_some_iff.mp hj).1), List.getElem?_mapIdx, hj]
    simp [q_fv, q_put]
  · rw [List.getElem?_set_ne (Ne.symm hi), List.getElem?_mapIdx, List.getElem?_mapIdx]
    congr 1
    funext f
    cases f with
    | none => simp [q_fv, q_put, hi]
    | some k2 => rfl
theorem q_upd {σ : SS} {k i : Nat} {v : Int} : upd (fun j => i32 (σ k j)) i (i32 v) = fun j => i32 (q_put σ k i v k j) := by
  funext j
  by_cases hj : j = i
  · simp [upd, q_put, hj]
  · simp [upd, q_put, hj]
theorem q_set_arr {ad : Nat → Nat} {cI cZ cK cA : ClassId} {σ : SS} {k kd n i : Nat} {x : List (Option Nat)} {v : Int} (hk : qsh k = some (kd, n, x)) (hd : (kd = 0 ∧ cA = cI) ∨ (kd = 1 ∧ cA = cZ)) : (q_wl ad cI cZ cK σ).set k (ad k, .inl (cA, n, .inl (upd (fun j => i32 (σ k j)) i (i32 v)))) = q_wl ad cI cZ cK (q_put σ k i v) := by
  rw [← q_wl_set (σ := σ) (σ' := q_put σ k i v) hk (fun a ha b => by simp [q_put, ha]), q_upd]
  rcases hd with ⟨rfl, rfl⟩ | ⟨rfl, rfl⟩ <;> rfl
theorem q_set_cpy {ad : Nat → Nat} {cI cZ cK : ClassId} {σ : SS} {k n sp dp m : Nat} {x : List (Option Nat)} {f : Nat → Int} (hk : qsh k = some (0, n, x)) : (q_wl ad cI cZ cK σ).set k (ad k, .inl (cI, n, .inl (va_cpy (fun j => i32 (f j)) (fun j => i32 (σ k j)) sp dp m))) = q_wl ad cI cZ cK (q_cpy σ k f sp dp m) := by
  rw [← q_wl_set (σ := σ) (σ' := q_cpy σ k f sp dp m) hk (fun a ha b => by simp [q_cpy, ha]), q_cell0]
  congr 6
  funext j
  simp only [va_cpy, q_cpy, true_and]
  split <;> rfl
/-! ===== ranges ===== -/
theorem i32_toInt (x : Int32) : i32 x.toInt = x := Int32.ofInt_toInt x
theorem i64_toInt (x : Int64) : i64 x.toInt = x := Int64.ofInt_toInt x
def q_ok (v : AV) : Prop := match v with
  | .inl z => (i32 z).toInt = z
  | .inr (.inl z) => (i64 z).toInt = z
  | _ => True
def q_okS (σ : SS) : Prop := ∀ k j, (i32 (σ k j)).toInt = σ k j
theorem q_okS_put {σ : SS} {k j : Nat} {v : Int} (h : q_okS σ) (hv : (i32 v).toInt = v) : q_okS (q_put σ k j v) := by
  intro a b
  unfold q_put
  split
  · exact hv
  · exact h a b
theorem q_okS_cpy {σ : SS} {k sp dp n : Nat} {f : Nat → Int} (h : q_okS σ) (hf : ∀ j, (i32 (f j)).toInt = f j) : q_okS (q_cpy σ k f sp dp n) := by
  intro a b
  unfold q_cpy
  split
  · exact hf _
  · exact h a b
theorem i32_lt {a b : Int} (ha : (i32 a).toInt = a) (hb : (i32 b).toInt = b) : i32 a < i32 b ↔ a < b := by
  rw [Int32.lt_iff_toInt_lt, ha, hb]
theorem i32_le {a b : Int} (ha : (i32 a).toInt = a) (hb : (i32 b).toInt = b) : i32 a ≤ i32 b ↔ a ≤ b := by
  rw [Int32.le_iff_toInt_le, ha, hb]
theorem i32_eq {a b : Int} (ha : (i32 a).toInt = a) (hb : (i32 b).toInt = b) : i32 a = i32 b ↔ a = b := by
  rw [← Int32.toInt_inj, ha, hb]
theorem i32_0 : i32 0 = 0 := by decide
theorem i32_clamp {a : Int} (ha : (i32 a).toInt = a) : (i32 a).toNatClampNeg = a.toNat := by
  show (i32 a).toInt.toNat = a.toNat
  rw [ha]
theorem i32_in {a : Int} {n : Nat} (ha : (i32 a).toInt = a) (h0 : 0 ≤ a) (h1 : a < (n : Int)) : vp_in (i32 a) n := by
  rw [vp_in_iff, ha]
  exact ⟨h0, h1⟩
/-! ===== locals ===== -/
def q_lv (ad : Nat → Nat) (nL : Nat) (ls : Array Slot) (L : List AV) : Prop := L.length = nL ∧ ∃ l, lv_has ls nL l ∧ ∀ i v, L[i]? = some v → v ≠ qU → (i, q_cv ad v) ∈ l
theorem q_lv_ld {ad : Nat → Nat} {nL : Nat} {ls : Array Slot} {L : List AV} {i : Nat} {v : AV} (h : q_lv ad nL ls L) (hi : L[i]? = some v) (hv : v ≠ qU) : ls[i]? = some (.val (q_cv ad v)) := by
  obtain ⟨-, l, h1, h2⟩ := h
  exact h1.2.2 (i, q_cv ad v) (h2 i v hi hv)
theorem q_lv_size {ad : Nat → Nat} {nL : Nat} {ls : Array Slot} {L : List AV} (h : q_lv ad nL ls L) : ls.size = nL := by
  obtain ⟨-, l, h1, h2⟩ := h
  exact h1.1
/-- a store: what the kit's rows say of the locals behind it -/
theorem q_lv_st {ad : Nat → Nat} {mi : Nat} {L L' : List AV} {i : Nat} {v : AV} {l : List (Nat × Value)} (h2 : ∀ i v, L[i]? = some v → v ≠ qU → (i, q_cv ad v) ∈ l) (hnl : ∀ w ∈ L, q_isL w = false) (hs : q_st mi L i v = some L') (j : Nat) (w : AV) (hj : L'[j]? = some w) (hw : w ≠ qU) : (j, q_cv ad w) ∈ ((i, q_cv ad v) :: l.filter (fun q => !(q.1 == i) && !(q.1 + 1 == i && q.2.category == 2))) := by
  unfold q_st at hs
  split at hs
  · rename_i hc
    cases hs
    by_cases hij : j = i
    · subst hij
      rw [List.getElem?_set_self hc.1] at hj
      cases hj
      exact List.mem_cons_self
    · rw [List.getElem?_set_ne (Ne.symm hij)] at hj
      refine List.mem_cons_of_mem _ (List.mem_filter.mpr ⟨h2 j w hj hw, ?_⟩)
      have hnl := hnl w (List.mem_of_getElem? hj)
      have hcat : (q_cv ad w).category = 1 := by
        rcases w with z | z | k
        · rfl
        · cases hnl
        · cases k <;> rfl
      simp [hij, hcat]
  · cases hs
theorem q_st_len {mi : Nat} {L L' : List AV} {i : Nat} {v : AV} (hs : q_st mi L i v = some L') : L'.length = L.length ∧ i < L.length := by
  unfold q_st at hs
  split at hs
  · rename_i hc
    cases hs
    exact ⟨List.length_set, hc.1⟩
  · cases hs
theorem q_st_ok {mi : Nat} {L L' : List AV} {i : Nat} {v : AV} (hs : q_st mi L i v = some L') (hL : ∀ w ∈ L, q_ok w) (hv : q_ok v) : ∀ w ∈ L', q_ok w := by
  unfold q_st at hs
  split at hs
  · cases hs
    intro w hw
    rcases List.mem_or_eq_of_mem_set hw with h | h
    · exact hL w h
    · rw [h]; exact hv
  · cases hs
theorem q_st_nl {mi : Nat} {L L' : List AV} {i : Nat} {v : AV} (hs : q_st mi L i v = some L') (hL : ¬ mi = 900 → ∀ w ∈ L, q_isL w = false) (hv : q_isL v = false) : (∀ w ∈ L, q_isL w = false) ∧ ∀ w ∈ L', q_isL w = false := by
  unfold q_st at hs
  split at hs
  · rename_i hc
    cases hs
    refine ⟨hL hc.2, fun w hw => ?_⟩
    rcases List.mem_or_eq_of_mem_set hw with h | h
    · exact hL hc.2 w h
    · rw [h]; exact hv
  · cases hs
