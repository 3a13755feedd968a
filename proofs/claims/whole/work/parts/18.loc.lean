/-! ===== LOCALITY: what the machine does depends on, and changes, its own region alone ===== -/
def okR (P : Nat → Prop) (v : AV) : Prop := match v with
  | .inr (.inr (some k)) => P k
  | _ => True
/-- the region's memory -/
def Mp (P : Nat → Prop) (k : Nat) : Prop := P k ∧ k < 100
def q_Loc (P : Nat → Prop) (X : SS → Option QA) (σ : SS) : Prop := ∀ a, X σ = some a → match a with
  | .inl (pc', L', st', σ') => (∀ v ∈ L', okR P v) ∧ (∀ v ∈ st', okR P v) ∧ (∀ k, ¬ Mp P k → σ' k = σ k) ∧ ∀ τ : SS, (∀ k, Mp P k → τ k = σ k) → ∃ τ', X τ = some (.inl (pc', L', st', τ')) ∧ (∀ k, Mp P k → τ' k = σ' k) ∧ (∀ k, ¬ Mp P k → τ' k = τ k)
  | .inr (.inl r) => (∀ v, r = some v → okR P v) ∧ ∀ τ : SS, (∀ k, Mp P k → τ k = σ k) → X τ = some (.inr (.inl r))
  | .inr (.inr (mj, vs, pc', st')) => (∀ v ∈ vs, okR P v) ∧ (∀ v ∈ st', okR P v) ∧ ∀ τ : SS, (∀ k, Mp P k → τ k = σ k) → X τ = some (.inr (.inr (mj, vs, pc', st')))
def Clo (P : Nat → Prop) : Prop := (∀ k c fs, qsh k = some (c, fs) → P k → ∀ k2, some k2 ∈ fs.2 → P k2) ∧ ∀ k, 100 ≤ k → P k
theorem mp_of {P : Nat → Prop} {k : Nat} {s : Nat × Nat × List (Option Nat)} (hk : P k) (hs : qsh k = some s) : Mp P k := ⟨hk, by have := qsh_lt hs; omega⟩
section LOC
variable {P : Nat → Prop} {σ : SS} {mi pc : Nat} {L st : List AV}
theorem loc_none : q_Loc P (fun _ => none) σ := fun a h => by cases h
theorem loc_nx (hL : ∀ v ∈ L, okR P v) (hst : ∀ v ∈ st, okR P v) : q_Loc P (fun σ => q_nx pc L st σ) σ := by
  intro a h
  cases h
  exact ⟨hL, hst, fun _ _ => rfl, fun τ ht => ⟨τ, rfl, ht, fun _ _ => rfl⟩⟩
theorem loc_ite {c : Prop} [Decidable c] {X Y : SS → Option QA} (h1 : c → q_Loc P X σ) (h2 : ¬ c → q_Loc P Y σ) : q_Loc P (fun σ => if c then X σ else Y σ) σ := by
  by_cases hc : c
  · have e : (fun σ => if c then X σ else Y σ) = X := by funext s; simp [hc]
    rw [e]; exact h1 hc
  · have e : (fun σ => if c then X σ else Y σ) = Y := by funext s; simp [hc]
    rw [e]; exact h2 hc
theorem loc_jmp {off : Int} (hL : ∀ v ∈ L, okR P v) (hst : ∀ v ∈ st, okR P v) : q_Loc P (fun σ => q_jmp pc off L st σ) σ := by
  unfold q_jmp
  exact loc_ite (fun _ => loc_nx hL hst) (fun _ => loc_none)
theorem loc_if {off : Int} {b : Bool} (hL : ∀ v ∈ L, okR P v) (hst : ∀ v ∈ st, okR P v) : q_Loc P (fun σ => q_if pc off b L st σ) σ := by
  unfold q_if
  exact loc_ite (fun _ => loc_nx hL hst) (fun _ => loc_none)
theorem okc {v : AV} {l : List AV} (h : ∀ w ∈ v :: l, okR P w) : okR P v ∧ ∀ w ∈ l, okR P w := List.forall_mem_cons.mp h
theorem oki {z : Int} {l : List AV} (h : ∀ w ∈ l, okR P w) : ∀ w ∈ qI z :: l, okR P w := List.forall_mem_cons.mpr ⟨trivial, h⟩
theorem okl {z : Int} {l : List AV} (h : ∀ w ∈ l, okR P w) : ∀ w ∈ qL z :: l, okR P w := List.forall_mem_cons.mpr ⟨trivial, h⟩
theorem loc_bin {f : Int → Int → Option Int} (hL : ∀ v ∈ L, okR P v) (hst : ∀ v ∈ st, okR P v) : q_Loc P (fun σ => q_bin f pc L st σ) σ := by
  unfold q_bin
  match st, hst with
  | [], _ => exact loc_none
  | [.inl b], _ => exact loc_none
  | [.inr b], _ => exact loc_none
  | .inr b :: _ :: _, _ => exact loc_none
  | .inl b :: .inr a :: r, _ => exact loc_none
  | .inl b :: .inl a :: r, hst =>
    cases hf : f a b with
    | none => simp only [hf]; exact loc_none
    | some z => simp only [hf]; exact loc_nx hL (oki (okc (okc hst).2).2)
theorem loc_binl {f : Int → Int → Option Int} (hL : ∀ v ∈ L, okR P v) (hst : ∀ v ∈ st, okR P v) : q_Loc P (fun σ => q_binl f pc L st σ) σ := by
  unfold q_binl
  match st, hst with
  | [], _ => exact loc_none
  | [.inl b], _ => exact loc_none
  | [.inr (.inl b)], _ => exact loc_none
  | [.inr (.inr b)], _ => exact loc_none
  | .inl b :: _ :: _, _ => exact loc_none
  | .inr (.inr b) :: _ :: _, _ => exact loc_none
  | .inr (.inl b) :: .inl a :: r, _ => exact loc_none
  | .inr (.inl b) :: .inr (.inr a) :: r, _ => exact loc_none
  | .inr (.inl b) :: .inr (.inl a) :: r, hst =>
    cases hf : f a b with
    | none => simp only [hf]; exact loc_none
    | some z => simp only [hf]; exact loc_nx hL (okl (okc (okc hst).2).2)
theorem loc_load {i len : Nat} {pr : AV → Bool} (hL : ∀ v ∈ L, okR P v) (hst : ∀ v ∈ st, okR P v) : q_Loc P (fun σ => q_load i len pr pc L st σ) σ := by
  unfold q_load
  cases hv : q_ld L i with
  | none => simp only [hv]; exact loc_none
  | some v =>
    simp only [hv]
    exact loc_ite (fun _ => loc_nx hL (List.forall_mem_cons.mpr ⟨hL v (List.mem_of_getElem? hv), hst⟩)) (fun _ => loc_none)
theorem loc_set {i : Nat} {v : AV} {L' : List AV} (hs : q_st mi L i v = some L') (hL : ∀ v ∈ L, okR P v) (hv : okR P v) : ∀ w ∈ L', okR P w := by
  unfold q_st at hs
  split at hs
  · cases hs
    intro w hw
    rcases List.mem_or_eq_of_mem_set hw with h | h
    · exact hL w h
    · rw [h]; exact hv
  · cases hs
theorem loc_store {i len : Nat} {pr : AV → Bool} (hL : ∀ v ∈ L, okR P v) (hst : ∀ v ∈ st, okR P v) : q_Loc P (fun σ => q_store mi i len pr pc L st σ) σ := by
  unfold q_store
  match st, hst with
  | [], _ => exact loc_none
  | v :: r, hst =>
    refine loc_ite (fun _ => ?_) (fun _ => loc_none)
    cases hs : q_st mi L i v with
    | none => simp only [hs]; exact loc_none
    | some L' =>
      simp only [hs]
      exact loc_nx (loc_set hs hL (okc hst).1) (okc hst).2
/-- a step whose answer reads the memory at a place of the region -/
theorem loc_read {k : Nat} {X : Int → SS → Option QA} {rd : SS → Int} (hk : Mp P k) (hr : ∀ s t : SS, s k = t k → rd s = rd t) (hX : ∀ z, q_Loc P (X z) σ) : q_Loc P (fun σ => X (rd σ) σ) σ := by
  intro a h
  have h1 := hX (rd σ) a h
  rcases a with ⟨pc', L', st', σ'⟩ | r | ⟨mj, vs, pc', st'⟩
  · obtain ⟨a1, a2, a3, a4⟩ := h1
    exact ⟨a1, a2, a3, fun τ ht => by
      have e := hr τ σ (ht k hk)
      dsimp only
      rw [e]
      exact a4 τ ht⟩
  · obtain ⟨a1, a4⟩ := h1
    exact ⟨a1, fun τ ht => by
      have e := hr τ σ (ht k hk)
      dsimp only
      rw [e]
      exact a4 τ ht⟩
  · obtain ⟨a1, a2, a4⟩ := h1
    exact ⟨a1, a2, fun τ ht => by
      have e := hr τ σ (ht k hk)
      dsimp only
      rw [e]
      exact a4 τ ht⟩
/-- a step that writes at a place of the region -/
theorem loc_write {k : Nat} {w : SS → SS} (hk : Mp P k) (hw : ∀ s k', k' ≠ k → w s k' = s k') (hw2 : ∀ s t : SS, (∀ k, Mp P k → s k = t k) → w s k = w t k) (hL : ∀ v ∈ L, okR P v) (hst : ∀ v ∈ st, okR P v) : q_Loc P (fun σ => q_nx pc L st (w σ)) σ := by
  intro a h
  cases h
  refine ⟨hL, hst, fun k' hn => hw σ k' (fun e => hn (by rw [e]; exact hk)), fun τ ht => ⟨w τ, rfl, fun k' hk' => ?_, fun k' hn => hw τ k' (fun e => hn (by rw [e]; exact hk))⟩⟩
  by_cases e : k' = k
  · rw [e]; exact hw2 τ σ ht
  · rw [hw τ k' e, hw σ k' e]; exact ht k' hk'
theorem put_ne {s : SS} {k j k' : Nat} {v : Int} (h : k' ≠ k) : q_put s k j v k' = s k' := by
  funext b
  simp [q_put, h]
theorem loc_get {idx : Nat} (hP : Clo P) (hL : ∀ v ∈ L, okR P v) (hst : ∀ v ∈ st, okR P v) : q_Loc P (fun σ => q_get mi idx pc L st σ) σ := by
  unfold q_get
  match st, hst with
  | [], _ => exact loc_none
  | .inl b :: _, _ => exact loc_none
  | .inr (.inl b) :: _, _ => exact loc_none
  | .inr (.inr none) :: _, _ => exact loc_none
  | .inr (.inr (some k)) :: r, hst =>
    have hk : P k := (okc hst).1
    have hr := (okc hst).2
    cases hf : flk (mO mi) idx with
    | none => simp only [hf]; exact loc_none
    | some q =>
      obtain ⟨ci, j⟩ := q
      cases hs : qsh k with
      | none => simp only [hf, hs]; exact loc_none
      | some q2 =>
        obtain ⟨kd, c2, fs⟩ := q2
        match kd, hs with
        | 0, hs => simp only [hf, hs]; exact loc_none
        | 1, hs => simp only [hf, hs]; exact loc_none
        | kd + 3, hs => simp only [hf, hs]; exact loc_none
        | 2, hs =>
          simp only [hf, hs]
          refine loc_ite (fun _ => ?_) (fun _ => loc_none)
          cases hj : fs[j]? with
          | none => simp only [hj]; exact loc_none
          | some f =>
            cases f with
            | none =>
              simp only [hj]
              exact loc_read (k := k) (rd := fun σ => σ k j) (X := fun z σ => q_nx (pc + 3) L (qI z :: r) σ) (mp_of hk hs) (fun s t e => by rw [e]) (fun z => loc_nx hL (oki hr))
            | some k2 =>
              simp only [hj]
              exact loc_nx hL (List.forall_mem_cons.mpr ⟨hP.1 k 2 (c2, fs) hs hk k2 (List.mem_of_getElem? hj), hr⟩)
theorem loc_put {idx : Nat} (hL : ∀ v ∈ L, okR P v) (hst : ∀ v ∈ st, okR P v) : q_Loc P (fun σ => q_putf mi idx pc L st σ) σ := by
  unfold q_putf
  match st, hst with
  | [], _ => exact loc_none
  | [.inl _], _ => exact loc_none
  | [.inr _], _ => exact loc_none
  | .inr b :: _ :: _, _ => exact loc_none
  | .inl v :: .inl b :: _, _ => exact loc_none
  | .inl v :: .inr (.inl b) :: _, _ => exact loc_none
  | .inl v :: .inr (.inr none) :: _, _ => exact loc_none
  | .inl v :: .inr (.inr (some k)) :: r, hst =>
    have hk : P k := (okc (okc hst).2).1
    have hr := (okc (okc hst).2).2
    cases hf : flk (mO mi) idx with
    | none => simp only [hf]; exact loc_none
    | some q =>
      obtain ⟨ci, j⟩ := q
      cases hs : qsh k with
      | none => simp only [hf, hs]; exact loc_none
      | some q2 =>
        obtain ⟨kd, c2, fs⟩ := q2
        match kd, hs with
        | 0, hs => simp only [hf, hs]; exact loc_none
        | 1, hs => simp only [hf, hs]; exact loc_none
        | kd + 3, hs => simp only [hf, hs]; exact loc_none
        | 2, hs =>
          simp only [hf, hs]
          refine loc_ite (fun _ => ?_) (fun _ => loc_none)
          cases hj : fs[j]? with
          | none => simp only [hj]; exact loc_none
          | some f =>
            cases f with
            | none =>
              simp only [hj]
              exact loc_ite (fun _ => loc_write (w := fun s => q_put s k j v) (mp_of hk hs) (fun s k' h => put_ne h) (fun s t e => by funext b; simp [q_put, e k (mp_of hk hs)]) hL hr) (fun _ => loc_none)
            | some k2 => simp only [hj]; exact loc_none
theorem loc_ald {kind : Nat} (hL : ∀ v ∈ L, okR P v) (hst : ∀ v ∈ st, okR P v) : q_Loc P (fun σ => q_ald kind pc L st σ) σ := by
  unfold q_ald
  match st, hst with
  | [], _ => exact loc_none
  | [.inl _], _ => exact loc_none
  | [.inr _], _ => exact loc_none
  | .inr b :: _ :: _, _ => exact loc_none
  | .inl v :: .inl b :: _, _ => exact loc_none
  | .inl v :: .inr (.inl b) :: _, _ => exact loc_none
  | .inl v :: .inr (.inr none) :: _, _ => exact loc_none
  | .inl i :: .inr (.inr (some k)) :: r, hst =>
    have hk : P k := (okc (okc hst).2).1
    have hr := (okc (okc hst).2).2
    cases hs : qsh k with
    | none => simp only [hs]; exact loc_none
    | some q2 =>
      obtain ⟨kd, n, fs⟩ := q2
      simp only [hs]
      exact loc_ite (fun _ => loc_read (k := k) (rd := fun σ => σ k i.toNat) (X := fun z σ => q_nx (pc + 1) L (qI z :: r) σ) (mp_of hk hs) (fun s t e => by rw [e]) (fun z => loc_nx hL (oki hr))) (fun _ => loc_none)
theorem loc_ast {kind : Nat} (hL : ∀ v ∈ L, okR P v) (hst : ∀ v ∈ st, okR P v) : q_Loc P (fun σ => q_ast kind pc L st σ) σ := by
  unfold q_ast
  match st, hst with
  | [], _ => exact loc_none
  | [.inl _], _ => exact loc_none
  | [.inr _], _ => exact loc_none
  | [.inl _, .inl _], _ => exact loc_none
  | [.inl _, .inr _], _ => exact loc_none
  | [.inr _, _], _ => exact loc_none
  | .inr b :: _ :: _ :: _, _ => exact loc_none
  | .inl v :: .inr b :: _ :: _, _ => exact loc_none
  | .inl v :: .inl i :: .inl b :: _, _ => exact loc_none
  | .inl v :: .inl i :: .inr (.inl b) :: _, _ => exact loc_none
  | .inl v :: .inl i :: .inr (.inr none) :: _, _ => exact loc_none
  | .inl v :: .inl i :: .inr (.inr (some k)) :: r, hst =>
    have hk : P k := (okc (okc (okc hst).2).2).1
    have hr := (okc (okc (okc hst).2).2).2
    cases hs : qsh k with
    | none => simp only [hs]; exact loc_none
    | some q2 =>
      obtain ⟨kd, n, fs⟩ := q2
      simp only [hs]
      exact loc_ite (fun _ => loc_write (w := fun s => q_put s k i.toNat v) (mp_of hk hs) (fun s k' h => put_ne h) (fun s t e => by funext b; simp [q_put, e k (mp_of hk hs)]) hL hr) (fun _ => loc_none)
theorem loc_aald (hP : Clo P) (hL : ∀ v ∈ L, okR P v) (hst : ∀ v ∈ st, okR P v) : q_Loc P (fun σ => q_aald pc L st σ) σ := by
  unfold q_aald
  match st, hst with
  | [], _ => exact loc_none
  | [.inl _], _ => exact loc_none
  | [.inr _], _ => exact loc_none
  | .inr b :: _ :: _, _ => exact loc_none
  | .inl v :: .inl b :: _, _ => exact loc_none
  | .inl v :: .inr (.inl b) :: _, _ => exact loc_none
  | .inl v :: .inr (.inr none) :: _, _ => exact loc_none
  | .inl i :: .inr (.inr (some k)) :: r, hst =>
    have hk : P k := (okc (okc hst).2).1
    have hr := (okc (okc hst).2).2
    cases hs : qsh k with
    | none => simp only [hs]; exact loc_none
    | some q2 =>
      obtain ⟨kd, n, fs⟩ := q2
      match kd, hs with
      | 0, hs => simp only [hs]; exact loc_none
      | 1, hs => simp only [hs]; exact loc_none
      | 2, hs => simp only [hs]; exact loc_none
      | kd + 4, hs => simp only [hs]; exact loc_none
      | 3, hs =>
        simp only [hs]
        refine loc_ite (fun _ => ?_) (fun _ => loc_none)
        cases hj : fs[i.toNat]? with
        | none => simp only [hj]; exact loc_none
        | some f =>
          cases f with
          | none => simp only [hj]; exact loc_none
          | some k2 =>
            simp only [hj]
            exact loc_nx hL (List.forall_mem_cons.mpr ⟨hP.1 k 3 (n, fs) hs hk k2 (List.mem_of_getElem? hj), hr⟩)
theorem loc_copy (hL : ∀ v ∈ L, okR P v) (hst : ∀ v ∈ st, okR P v) : q_Loc P (fun σ => q_copy mi pc L st σ) σ := by
  intro a h
  have h0 := h
  unfold q_copy at h
  split at h
  · rename_i n dp k1 sp k0 r
    split at h
    · rename_i n0 x0 n1 x1 hk0 hk1
      split at h
      · rename_i hc
        have hp1 : Mp P k1 := mp_of (okc (okc (okc hst).2).2).1 hk1
        have hp0 : Mp P k0 := mp_of (okc (okc (okc (okc (okc hst).2).2).2).2).1 hk0
        have hr := (okc (okc (okc (okc (okc hst).2).2).2).2).2
        have e : ∀ s : SS, q_copy mi pc L (.inl n :: .inl dp :: .inr (.inr (some k1)) :: .inl sp :: .inr (.inr (some k0)) :: r) s = q_nx (pc + 3) L r (q_cpy s k1 (s k0) sp.toNat dp.toNat n.toNat) := by
          intro s
          unfold q_copy
          simp only [hk0, hk1]
          rw [if_pos hc]
        have key := loc_write (P := P) (σ := σ) (pc := pc + 3) (L := L) (st := r) (k := k1) (w := fun s => q_cpy s k1 (s k0) sp.toNat dp.toNat n.toNat) hp1 (fun s k' h => by funext b; simp [q_cpy, h]) (fun s t e => by funext b; simp [q_cpy, e k1 hp1, e k0 hp0]) hL hr
        have e2 : (fun σ => q_copy mi pc L (.inl n :: .inl dp :: .inr (.inr (some k1)) :: .inl sp :: .inr (.inr (some k0)) :: r) σ) = (fun σ => q_nx (pc + 3) L r (q_cpy σ k1 (σ k0) sp.toNat dp.toNat n.toNat)) := funext e
        rw [← e2] at key
        exact key a h0
      · cases h
    · cases h
  · cases h
theorem loc_callS {mj : Nat} (hst : ∀ v ∈ st, okR P v) : q_Loc P (fun _ => q_callS mj pc st) σ := by
  intro a h
  have h0 := h
  unfold q_callS at h
  split at h
  · split at h
    · cases h
      exact ⟨fun v hv => hst v (List.mem_of_mem_take (List.mem_reverse.mp hv)), fun v hv => hst v (List.mem_of_mem_drop hv), fun τ _ => h0⟩
    · cases h
  · cases h
theorem loc_callV {mj : Nat} (hst : ∀ v ∈ st, okR P v) : q_Loc P (fun _ => q_callV mj pc st) σ := by
  intro a h
  have h0 := h
  unfold q_callV at h
  split at h
  · rename_i n hn
    split at h
    · rename_i k rr hd
      have hk : okR P (qR k) := hst (qR k) (List.mem_of_mem_drop (by rw [hd]; exact List.mem_cons_self))
      have hv : ∀ v ∈ qR k :: (st.take n).reverse, okR P v := List.forall_mem_cons.mpr ⟨hk, fun v hv => hst v (List.mem_of_mem_take (List.mem_reverse.mp hv))⟩
      have hr : ∀ v ∈ rr, okR P v := fun v hv => hst v (List.mem_of_mem_drop (by rw [hd]; exact List.mem_cons_of_mem _ hv))
      split at h
      · split at h
        · cases h
          exact ⟨hv, hr, fun τ _ => h0⟩
        · cases h
      · cases h
      · split at h
        · cases h
          exact ⟨hv, hr, fun τ _ => h0⟩
        · cases h
    · cases h
  · cases h
theorem loc_ret {r : Option AV} (hr : ∀ v, r = some v → okR P v) : q_Loc P (fun _ => some (.inr (.inl r))) σ := by
  intro a h
  cases h
  exact ⟨hr, fun τ _ => rfl⟩
set_option maxHeartbeats 4000000 in
theorem loc_act {ins : Instr} (hP : Clo P) (hL : ∀ v ∈ L, okR P v) (hst : ∀ v ∈ st, okR P v) : q_Loc P (fun σ => q_act mi ins pc L st σ) σ := by
  cases ins
  case iconst n => exact loc_ite (fun _ => loc_nx hL (oki hst)) (fun _ => loc_none)
  case bipush n => exact loc_ite (fun _ => loc_nx hL (oki hst)) (fun _ => loc_none)
  case sipush n => exact loc_ite (fun _ => loc_nx hL (oki hst)) (fun _ => loc_none)
  case lconst n => exact loc_nx hL (okl hst)
  case ldc i =>
    simp only [q_act]
    cases hh : ldk (mO mi) i with
    | some z =>
      simp only [hh]
      exact loc_ite (fun _ => loc_nx hL (oki hst)) (fun _ => loc_none)
    | none =>
      cases hk : stk (mO mi) i with
      | none => simp only [hh, hk]; exact loc_none
      | some k =>
        simp only [hh, hk]
        exact loc_nx hL (List.forall_mem_cons.mpr ⟨hP.2 (100 + k) (by omega), hst⟩)
  case ldc_w i =>
    simp only [q_act]
    cases hh : ldk (mO mi) i with
    | some z =>
      simp only [hh]
      exact loc_ite (fun _ => loc_nx hL (oki hst)) (fun _ => loc_none)
    | none => simp only [hh]; exact loc_none
  case ldc2_w i =>
    simp only [q_act]
    cases hh : llk (mO mi) i with
    | some z =>
      simp only [hh]
      exact loc_ite (fun _ => loc_nx hL (okl hst)) (fun _ => loc_none)
    | none => simp only [hh]; exact loc_none
  case iload_n k => exact loc_load hL hst
  case iload k => exact loc_load hL hst
  case lload_n k => exact loc_load hL hst
  case lload k => exact loc_load hL hst
  case aload_n k => exact loc_load hL hst
  case aload k => exact loc_load hL hst
  case istore_n k => exact loc_store hL hst
  case istore k => exact loc_store hL hst
  case astore_n k => exact loc_store hL hst
  case iinc i n =>
    simp only [q_act]
    cases hv : q_ld L i with
    | none => simp only [hv]; exact loc_none
    | some v =>
      rcases v with z | z
      · cases hs : q_st mi L i (qI (q_add z n)) with
        | none => simp only [hv, hs]; exact loc_none
        | some L' => simp only [hv, hs]; exact loc_nx (loc_set hs hL trivial) hst
      · simp only [hv]; exact loc_none
  case iadd => exact loc_bin (f := fun a b => some (q_add a b)) hL hst
  case isub => exact loc_bin (f := fun a b => some (q_sub a b)) hL hst
  case imul => exact loc_bin (f := fun a b => some (q_mul a b)) hL hst
  case idiv => exact loc_bin (f := fun a b => if b = 0 then none else some (q_div a b)) hL hst
  case irem => exact loc_bin (f := fun a b => if b = 0 then none else some (q_rem a b)) hL hst
  case iand => exact loc_bin (f := fun a b => some (q_and a b)) hL hst
  case ior => exact loc_bin (f := fun a b => some (q_or a b)) hL hst
  case ixor => exact loc_bin (f := fun a b => some (q_xor a b)) hL hst
  case ishl => exact loc_bin (f := fun a b => some (q_shl a b)) hL hst
  case ishr => exact loc_bin (f := fun a b => some (q_shr a b)) hL hst
  case iushr => exact loc_bin (f := fun a b => some (q_ushr a b)) hL hst
  case ladd => exact loc_binl (f := fun a b => some (q_ladd a b)) hL hst
  case lmul => exact loc_binl (f := fun a b => some (q_lmul a b)) hL hst
  case land => exact loc_binl (f := fun a b => some (q_land a b)) hL hst
  case lrem => exact loc_binl (f := fun a b => if b = 0 then none else some (q_lrem a b)) hL hst
  case i2l =>
    match st, hst with
    | [], _ => exact loc_none
    | .inl a :: r, hst => exact loc_nx hL (okl (okc hst).2)
    | .inr a :: r, _ => exact loc_none
  case l2i =>
    match st, hst with
    | [], _ => exact loc_none
    | .inr (.inl a) :: r, hst => exact loc_nx hL (oki (okc hst).2)
    | .inl a :: r, _ => exact loc_none
    | .inr (.inr a) :: r, _ => exact loc_none
  case lcmp =>
    match st, hst with
    | [], _ => exact loc_none
    | [.inl a], _ => exact loc_none
    | [.inr (.inl a)], _ => exact loc_none
    | [.inr (.inr a)], _ => exact loc_none
    | .inl a :: _ :: r, _ => exact loc_none
    | .inr (.inr a) :: _ :: r, _ => exact loc_none
    | .inr (.inl b) :: .inl a :: r, _ => exact loc_none
    | .inr (.inl b) :: .inr (.inr a) :: r, _ => exact loc_none
    | .inr (.inl b) :: .inr (.inl a) :: r, hst => exact loc_nx hL (oki (okc (okc hst).2).2)
  case dup =>
    match st, hst with
    | [], _ => exact loc_none
    | v :: r, hst => exact loc_ite (fun _ => loc_nx hL (List.forall_mem_cons.mpr ⟨(okc hst).1, hst⟩)) (fun _ => loc_none)
  case dup2 =>
    match st, hst with
    | [], _ => exact loc_none
    | [_], _ => exact loc_none
    | v :: w :: r, hst => exact loc_ite (fun _ => loc_nx hL (List.forall_mem_cons.mpr ⟨(okc hst).1, List.forall_mem_cons.mpr ⟨(okc (okc hst).2).1, hst⟩⟩)) (fun _ => loc_none)
  case ifCond c off =>
    match st, hst with
    | [], _ => exact loc_none
    | .inl a :: r, hst => exact loc_if hL (okc hst).2
    | .inr a :: r, _ => exact loc_none
  case if_icmp c off =>
    match st, hst with
    | [], _ => exact loc_none
    | [.inl a], _ => exact loc_none
    | [.inr a], _ => exact loc_none
    | .inr a :: _ :: r, _ => exact loc_none
    | .inl b :: .inr a :: r, _ => exact loc_none
    | .inl b :: .inl a :: r, hst => exact loc_if hL (okc (okc hst).2).2
  case goto off => exact loc_jmp hL hst
  case tableswitch dflt lo hi offs =>
    match st, hst with
    | [], _ => exact loc_none
    | .inl a :: r, hst =>
      simp only [q_act]
      refine loc_ite (fun _ => loc_jmp hL (okc hst).2) (fun _ => ?_)
      cases ho : offs[(a - lo).toNat]? with
      | none => simp only [ho]; exact loc_none
      | some off =>
        simp only [ho]
        exact loc_jmp hL (okc hst).2
    | .inr a :: r, _ => exact loc_none
  case getfield i => exact loc_get hP hL hst
  case putfield i => exact loc_put hL hst
  case iaload => exact loc_ald hL hst
  case baload => exact loc_ald hL hst
  case iastore => exact loc_ast hL hst
  case bastore => exact loc_ast hL hst
  case aaload => exact loc_aald hP hL hst
  case invokestatic i =>
    simp only [q_act]
    cases hh : mlk (mO mi) i with
    | none => simp only [hh]; exact loc_none
    | some q =>
      obtain ⟨kd, mj⟩ := q
      match kd, hh with
      | 0, hh => simp only [hh]; exact loc_none
      | 1, hh =>
        simp only [hh]
        exact loc_ite (fun _ => loc_callS hst) (fun _ => loc_none)
      | 2, hh =>
        simp only [hh]
        exact loc_ite (fun _ => loc_callS hst) (fun _ => loc_none)
      | 3, hh =>
        simp only [hh]
        exact loc_ite (fun _ => loc_copy hL hst) (fun _ => loc_none)
      | kd + 4, hh => simp only [hh]; exact loc_none
  case invokevirtual i =>
    simp only [q_act]
    cases hh : mlk (mO mi) i with
    | none => simp only [hh]; exact loc_none
    | some q =>
      obtain ⟨kd, mj⟩ := q
      match kd, hh with
      | 0, hh =>
        simp only [hh]
        exact loc_ite (fun _ => loc_callV hst) (fun _ => loc_none)
      | kd + 1, hh => simp only [hh]; exact loc_none
  case ireturn =>
    match st, hst with
    | [], _ => exact loc_none
    | [.inl v], _ => exact loc_ite (fun _ => loc_ret (fun v h => by cases h; trivial)) (fun _ => loc_none)
    | [.inr v], _ => exact loc_none
    | .inl v :: _ :: _, _ => exact loc_none
    | .inr v :: _ :: _, _ => exact loc_none
  case return_ =>
    match st, hst with
    | [], _ => exact loc_ite (fun _ => loc_ret (fun v h => by cases h)) (fun _ => loc_none)
    | _ :: _, _ => exact loc_none
  all_goals exact loc_none
theorem loc_one (hP : Clo P) (hL : ∀ v ∈ L, okR P v) (hst : ∀ v ∈ st, okR P v) : q_Loc P (fun σ => q_one mi pc L st σ) σ := by
  unfold q_one
  cases decode (mB mi) pc with
  | error z => exact loc_none
  | ok z => exact loc_ite (fun _ => loc_act hP hL hst) (fun _ => loc_none)
theorem loc_ent {mj : Nat} {vs : List AV} (h : ∀ v ∈ vs, okR P v) : ∀ v ∈ q_ent mj vs, okR P v := by
  intro v hv
  unfold q_ent at hv
  rcases List.mem_append.mp hv with h1 | h1
  · unfold q_sl at h1
    obtain ⟨w, hw, h1⟩ := List.mem_flatMap.mp h1
    split at h1
    · rcases List.mem_cons.mp h1 with h2 | h2
      · rw [h2]; exact h w hw
      · rw [List.mem_singleton.mp h2]; trivial
    · rw [List.mem_singleton.mp h1]; exact h w hw
  · rw [(List.mem_replicate.mp h1).2]; trivial
theorem loc_str {mj : Nat} {vs : List AV} {v : AV} (h : q_str mj vs = some v) : okR P v := by
  unfold q_str at h
  split at h
  · split at h <;> cases h; trivial
  · split at h <;> cases h; trivial
  · cases h
end LOC
theorem loc_run {P : Nat → Prop} (hP : Clo P) : ∀ (n mi pc : Nat) (L st : List AV) (σ : SS) (r : Option AV) (σ' : SS), (∀ v ∈ L, okR P v) → (∀ v ∈ st, okR P v) → q_run n mi pc L st σ = some (r, σ') → (∀ v, r = some v → okR P v) ∧ (∀ k, ¬ Mp P k → σ' k = σ k) ∧ ∀ τ : SS, (∀ k, Mp P k → τ k = σ k) → ∃ τ', q_run n mi pc L st τ = some (r, τ') ∧ (∀ k, Mp P k → τ' k = σ' k) ∧ (∀ k, ¬ Mp P k → τ' k = τ k) := by
  intro n
  induction n with
  | zero => intro mi pc L st σ r σ' _ _ h; simp [q_run] at h
  | succ n ih =>
    intro mi pc L st σ r σ' hL hst h
    rw [q_run] at h
    cases h1 : q_one mi pc L st σ with
    | none => rw [h1] at h; cases h
    | some a =>
      rw [h1] at h
      have hl := loc_one (mi := mi) (pc := pc) (σ := σ) hP hL hst a h1
      rcases a with ⟨pc', L', st', σ2⟩ | r2 | ⟨mj, vs, pc', st'⟩
      · obtain ⟨a1, a2, a3, a4⟩ := hl
        obtain ⟨b1, b2, b3⟩ := ih mi pc' L' st' σ2 r σ' a1 a2 h
        refine ⟨b1, fun k hk => (b2 k hk).trans (a3 k hk), fun τ ht => ?_⟩
        obtain ⟨τ1, c1, c2, c3⟩ := a4 τ ht
        obtain ⟨τ2, d1, d2, d3⟩ := b3 τ1 c2
        refine ⟨τ2, ?_, d2, fun k hk => (d3 k hk).trans (c3 k hk)⟩
        rw [q_run, show q_one mi pc L st τ = _ from c1]
        exact d1
      · obtain ⟨a1, a4⟩ := hl
        cases h
        refine ⟨a1, fun _ _ => rfl, fun τ ht => ⟨τ, ?_, ht, fun _ _ => rfl⟩⟩
        rw [q_run, show q_one mi pc L st τ = _ from a4 τ ht]
      · obtain ⟨a1, a2, a4⟩ := hl
        dsimp only at h
        by_cases hm : mO mj = 10
        · rw [if_pos hm] at h
          cases hv : q_str mj vs with
          | none => rw [hv] at h; cases h
          | some v =>
            rw [hv] at h
            obtain ⟨b1, b2, b3⟩ := ih mi pc' L (v :: st') σ r σ' hL (List.forall_mem_cons.mpr ⟨loc_str hv, a2⟩) h
            refine ⟨b1, b2, fun τ ht => ?_⟩
            obtain ⟨τ2, d1, d2, d3⟩ := b3 τ ht
            refine ⟨τ2, ?_, d2, d3⟩
            rw [q_run, show q_one mi pc L st τ = _ from a4 τ ht]
            dsimp only
            rw [if_pos hm, hv]
            exact d1
        · rw [if_neg hm] at h
          cases hr2 : q_run n mj 0 (q_ent mj vs) [] σ with
          | none => rw [hr2] at h; cases h
          | some y =>
            obtain ⟨r2, σ2⟩ := y
            rw [hr2] at h
            obtain ⟨e1, e2, e3⟩ := ih mj 0 (q_ent mj vs) [] σ r2 σ2 (loc_ent a1) (fun _ h => by cases h) hr2
            have hp : ∀ v ∈ q_push r2 st', okR P v := by
              intro v hv
              unfold q_push at hv
              rcases List.mem_append.mp hv with h | h
              · exact e1 v (Option.mem_toList.mp h)
              · exact a2 v h
            obtain ⟨b1, b2, b3⟩ := ih mi pc' L (q_push r2 st') σ2 r σ' hL hp h
            refine ⟨b1, fun k hk => (b2 k hk).trans (e2 k hk), fun τ ht => ?_⟩
            obtain ⟨τ1, c1, c2, c3⟩ := e3 τ ht
            obtain ⟨τ2, d1, d2, d3⟩ := b3 τ1 c2
            refine ⟨τ2, ?_, d2, fun k hk => (d3 k hk).trans (c3 k hk)⟩
            rw [q_run, show q_one mi pc L st τ = _ from a4 τ ht]
            dsimp only
            rw [if_neg hm, c1]
            exact d1
/-- the class's region, the model's region -/
def P_c (k : Nat) : Prop := k < 50 ∨ 100 ≤ k
def P_m (k : Nat) : Prop := 50 ≤ k
theorem shT_reg : (List.range 72).all (fun k => match shT[k]? with | some s => s.2.2.all (fun f => match f with | some k2 => decide ((k < 50 → k2 < 50) ∧ (50 ≤ k → 50 ≤ k2)) | none => true) | none => true) = true := by decide +kernel
theorem reg_ok {k : Nat} {c : Nat} {fs : Nat × List (Option Nat)} {k2 : Nat} (h : qsh k = some (c, fs)) (h2 : some k2 ∈ fs.2) : (k < 50 → k2 < 50) ∧ (50 ≤ k → 50 ≤ k2) := by
  have h3 := List.all_eq_true.mp shT_reg k (List.mem_range.mpr (qsh_lt h))
  have h4 : shT[k]? = some (c, fs) := h
  rw [h4] at h3
  have h5 := List.all_eq_true.mp h3 (some k2) h2
  exact of_decide_eq_true h5
theorem clo_c : Clo P_c := by
  refine ⟨fun k c fs h hk k2 h2 => ?_, fun k hk => Or.inr hk⟩
  rcases hk with hk | hk
  · exact Or.inl ((reg_ok h h2).1 hk)
  · have := qsh_lt h
    omega
theorem clo_m : Clo P_m := ⟨fun k c fs h hk k2 h2 => (reg_ok h h2).2 hk, fun k hk => by unfold P_m; omega⟩
/-- two memories side by side: the class's cells of the one, the model's of the other -/
def mix (σ1 σ2 : SS) : SS := fun k => if k < 50 then σ1 k else σ2 k
theorem mix_c {σ1 σ2 : SS} {k : Nat} (h : k < 50) : mix σ1 σ2 k = σ1 k := by simp [mix, h]
theorem mix_m {σ1 σ2 : SS} {k : Nat} (h : 50 ≤ k) : mix σ1 σ2 k = σ2 k := by
  unfold mix
  rw [if_neg (by omega)]
theorem ev_loc {P : Nat → Prop} (hP : Clo P) {mi : Nat} {L : List AV} {σ : SS} {r : Option AV} {σ' : SS} (hL : ∀ v ∈ L, okR P v) (h : ev mi 0 L [] σ = some (r, σ')) : (∀ k, ¬ Mp P k → σ' k = σ k) ∧ ∀ τ : SS, (∀ k, Mp P k → τ k = σ k) → ∃ τ', ev mi 0 L [] τ = some (r, τ') ∧ (∀ k, Mp P k → τ' k = σ' k) ∧ (∀ k, ¬ Mp P k → τ' k = τ k) := by
  obtain ⟨n, hn⟩ := ev_iff.mp h
  obtain ⟨-, h2, h3⟩ := loc_run hP n mi 0 L [] σ r σ' hL (fun _ h => by cases h) hn
  refine ⟨h2, fun τ ht => ?_⟩
  obtain ⟨τ', a, b, c⟩ := h3 τ ht
  exact ⟨τ', ev_iff.mpr ⟨n, a⟩, b, c⟩
/-- the class's run, then the model's, both told from the same memory -/
theorem ev_both {mi mj : Nat} {L M : List AV} {σ σ1 σ2 : SS} {r s : Option AV} (hL : ∀ v ∈ L, okR P_c v) (hM : ∀ v ∈ M, okR P_m v) (h1 : ev mi 0 L [] σ = some (r, σ1)) (h2 : ev mj 0 M [] σ = some (s, σ2)) : ∃ σ3, ev mj 0 M [] σ1 = some (s, σ3) ∧ ∀ k, k < 100 → σ3 k = mix σ1 σ2 k := by
  have a := (ev_loc clo_c hL h1).1
  obtain ⟨τ', b1, b2, b3⟩ := (ev_loc clo_m hM h2).2 σ1 (fun k hk => a k (fun z => by
    have h1 := z.1
    have h2 := hk.1
    have h3 := hk.2
    unfold P_c at h1
    unfold P_m at h2
    omega))
  refine ⟨τ', b1, fun k hk => ?_⟩
  by_cases h : k < 50
  · rw [mix_c h, b3 k (fun z => by have h1 := z.1; unfold P_m at h1; omega)]
  · rw [mix_m (by omega), b2 k ⟨show 50 ≤ k by omega, hk⟩]
