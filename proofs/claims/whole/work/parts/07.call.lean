/-! ===== calls and returns ===== -/
theorem q_mlk {o i kind mj : Nat} (h : mlk o i = some (kind, mj)) : (kind = 3 ∧ Cond.methodLink (cN o) i arraycopyName ∈ gw) ∨ ((kind = 0 ∨ kind = 1) ∧ Cond.methodLink (cN o) i (mY mj) ∈ gw ∧ ∃ r ∈ mtT, r.1 = mj ∧ r.2.2.2.1 = kind) ∨ (kind = 2 ∧ mY mj = yX8_has ∧ mj = 848 ∧ (o, i) ∈ q_nests) := by
  unfold mlk at h
  cases h1 : mlT.find? (fun q => q.1 == o && q.2.1 == i) with
  | none => rw [h1] at h; cases h
  | some q =>
    rw [h1] at h
    obtain ⟨hm, hp⟩ := find_mem h1
    have h2 := List.all_eq_true.mp mlT_ok q hm
    simp only [Bool.and_eq_true, beq_iff_eq] at hp
    simp only [Option.map_some, Option.some.injEq, Prod.mk.injEq] at h
    have h3 := of_decide_eq_true h2
    rw [hp.1, hp.2, h.1, h.2] at h3
    rcases h3 with ⟨a1, a2⟩ | ⟨a1, a2, a3⟩ | ⟨a1, a2, a3, a4, a5⟩
    · exact Or.inl ⟨a1, gw_of _ a2 rfl⟩
    · refine Or.inr (Or.inl ⟨a1, gw_of _ a2 rfl, ?_⟩)
      obtain ⟨r, hr, hr2⟩ := List.any_eq_true.mp a3
      simp only [Bool.and_eq_true, beq_iff_eq] at hr2
      exact ⟨r, hr, hr2.1, hr2.2⟩
    · refine Or.inr (Or.inr ⟨a1, a2, a3, ?_⟩)
      exact List.contains_iff_mem.mp a5
/-- what the tables say of a method -/
theorem q_mt {r : Nat × Nat × Nat × Nat × Nat × Nat} (h : r ∈ mtT) : Cond.code (mY r.1) (mB r.1) (mL r.1) (mR r.1) ∈ gw ∧ Cond.initialized (mY r.1).cls ∈ gw ∧ (mY r.1).cls = cN (mO r.1) ∧ ((mY r.1).cls ≠ "java/lang/invoke/MethodHandle" ∧ (mY r.1).cls ≠ "java/lang/invoke/VarHandle") ∧ plainFor (mY r.1) = true ∧ (r.2.2.2.1 = 1 → Cond.static (mY r.1) ∈ gw) ∧ (¬ r.2.2.2.1 = 1 → Cond.instanceMethod (mY r.1) ∈ gw ∧ Cond.selects (mY r.1).cls (mY r.1) (mY r.1) ∈ gw) := by
  obtain ⟨a2, a3, a4, a5, a6, a7⟩ := of_decide_eq_true (List.all_eq_true.mp mtT_ok r h)
  have a1 : Cond.code (mY r.1) (mB r.1) (mL r.1) (mR r.1) ∈ lw_tbl := mtC_ok r h
  refine ⟨List.mem_filter.mpr ⟨a1, rfl⟩, gw_of _ a2 rfl, a3, ⟨a4, a5⟩, a6, fun z => ?_, fun z => ?_⟩
  · rw [if_pos z] at a7
    exact gw_of _ a7 rfl
  · rw [if_neg z] at a7
    exact ⟨gw_of _ a7.1 rfl, gw_of _ a7.2 rfl⟩
def q_P (ad : Nat → Nat) (cI cZ cK : ClassId) (D : va_G) (adV : Nat → Nat) (vs : List AV) (σ : SS) : Array Value → State → Prop := fun v U => v = (vs.map (q_cv ad)).toArray ∧ va_P D vwCl (q_wl ad cI cZ cK σ) U.heap ∧ va_K D vwCl (q_tys cI cZ cK) U ∧ q_Env ad adV U U.heap
def q_Q (ad : Nat → Nat) (cI cZ cK : ClassId) (D : va_G) (r : Option AV) (σ' : SS) : Array Value → State → Outcome → State → Prop := fun _ st oc t => oc = .returned (r.map (q_cv ad)) ∧ va_P D vwCl (q_wl ad cI cZ cK σ') t.heap ∧ va_F (q_A ad) st t ∧ q_okS σ' ∧ ∀ v, r = some v → q_ok v
def q_Met (l : Launch) (ad : Nat → Nat) (cI cZ cK : ClassId) (D : va_G) (adV : Nat → Nat) (mi : Nat) (vs : List AV) (σ : SS) (r : Option AV) (σ' : SS) : Prop :=
  Met l (mY mi) (q_ws mi) (q_rm mi) (q_P ad cI cZ cK D adV vs σ) (q_Q ad cI cZ cK D r σ') 0 0 (q_A ad)
theorem q_blind {ad : Nat → Nat} {cI cZ cK : ClassId} {D : va_G} {adV : Nat → Nat} {vs : List AV} {σ : SS} : FrameBlind (q_P ad cI cZ cK D adV vs σ) := by
  intro a U g mk q
  obtain ⟨q1, q2, q3, q4⟩ := q
  exact ⟨q1, q2, va_K.moved (u := U) (U := U.calling g mk a) (Vm.Alike.refl U.vm) q3, q4.same (U := U.calling g mk a) rfl⟩
theorem q_lv_args {ad : Nat → Nat} : ∀ (vs : List AV) (i j : Nat) (v : AV), (q_sl vs)[j]? = some v → v ≠ qU → (i + j, q_cv ad v) ∈ lv_args i (vs.map (q_cv ad)) := by
  intro vs
  induction vs with
  | nil => intro i j v h; simp [q_sl] at h
  | cons w vs ih =>
    intro i j v h hv
    have hc := q_w_cat (ad := ad) w
    by_cases hw : q_isL w = true
    · have e : q_sl (w :: vs) = w :: qU :: q_sl vs := by simp [q_sl, hw]
      rw [e] at h
      have e2 : lv_args i ((w :: vs).map (q_cv ad)) = (i, q_cv ad w) :: lv_args (i + 2) (vs.map (q_cv ad)) := by
        show (i, q_cv ad w) :: lv_args (if (q_cv ad w).category = 2 then i + 2 else i + 1) (vs.map (q_cv ad)) = _
        rw [hc]
        simp [q_w, hw]
      rw [e2]
      match j, h with
      | 0, h => cases h; exact List.mem_cons_self
      | 1, h => cases h; exact absurd rfl hv
      | j + 2, h =>
        refine List.mem_cons_of_mem _ ?_
        have := ih (i + 2) j v h hv
        rw [show i + (j + 2) = i + 2 + j by omega]
        exact this
    · have e : q_sl (w :: vs) = w :: q_sl vs := by simp [q_sl, hw]
      rw [e] at h
      have e2 : lv_args i ((w :: vs).map (q_cv ad)) = (i, q_cv ad w) :: lv_args (i + 1) (vs.map (q_cv ad)) := by
        show (i, q_cv ad w) :: lv_args (if (q_cv ad w).category = 2 then i + 2 else i + 1) (vs.map (q_cv ad)) = _
        rw [hc]
        simp [q_w, hw]
      rw [e2]
      match j, h with
      | 0, h => cases h; exact List.mem_cons_self
      | j + 1, h =>
        refine List.mem_cons_of_mem _ ?_
        have := ih (i + 1) j v h hv
        rw [show i + (j + 1) = i + 1 + j by omega]
        exact this
theorem q_sl_len {ad : Nat → Nat} (vs : List AV) : (lg_sl (vs.map (q_cv ad))).length = (q_sl vs).length := by
  induction vs with
  | nil => rfl
  | cons w vs ih =>
    have hc := q_w_cat (ad := ad) w
    have e1 : lg_sl ((w :: vs).map (q_cv ad)) = (if (q_cv ad w).category = 2 then [Slot.val (q_cv ad w), .second] else [.val (q_cv ad w)]) ++ lg_sl (vs.map (q_cv ad)) := by simp [lg_sl]
    have e2 : q_sl (w :: vs) = (if q_isL w then [w, qU] else [w]) ++ q_sl vs := by simp [q_sl]
    rw [e1, e2, List.length_append, List.length_append, ih, hc]
    by_cases hw : q_isL w = true
    · simp [q_w, hw]
    · simp [q_w, hw]
theorem q_ent_lv {ad : Nat → Nat} {mj : Nat} {vs : List AV} (h : (q_sl vs).length ≤ mL mj) : q_lv ad (mL mj) ((lg_sl (vs.map (q_cv ad)) ++ List.replicate (mL mj - (lg_sl (vs.map (q_cv ad))).length) Slot.unset).toArray) (q_ent mj vs) := by
  refine ⟨?_, lv_args 0 (vs.map (q_cv ad)), lv_entry _ (by rw [q_sl_len]; exact h), fun i v hi hv => ?_⟩
  · unfold q_ent
    rw [List.length_append, List.length_replicate]
    omega
  · unfold q_ent at hi
    by_cases hl : i < (q_sl vs).length
    · rw [List.getElem?_append_left hl] at hi
      have := q_lv_args (ad := ad) vs 0 i v hi hv
      rw [Nat.zero_add] at this
      exact this
    · rw [List.getElem?_append_right (by omega), List.getElem?_replicate] at hi
      split at hi
      · cases hi; exact absurd rfl hv
      · cases hi
theorem q_sl_ok {vs : List AV} (h : ∀ v ∈ vs, q_ok v) : ∀ v ∈ q_sl vs, q_ok v := by
  intro v hv
  unfold q_sl at hv
  obtain ⟨w, hw, hv⟩ := List.mem_flatMap.mp hv
  split at hv
  · rcases List.mem_cons.mp hv with h1 | h1
    · rw [h1]; exact h w hw
    · rw [List.mem_singleton.mp h1]; trivial
  · rw [List.mem_singleton.mp hv]; exact h w hw
theorem q_ent_ok {mj : Nat} {vs : List AV} (h : ∀ v ∈ vs, q_ok v) : ∀ v ∈ q_ent mj vs, q_ok v := by
  intro v hv
  unfold q_ent at hv
  rcases List.mem_append.mp hv with h1 | h1
  · exact q_sl_ok h v h1
  · rw [(List.mem_replicate.mp h1).2]; trivial
theorem q_ent_nl {mj : Nat} {vs : List AV} (h : q_nl mj vs = true) : ¬ mj = 900 → ∀ v ∈ q_ent mj vs, q_isL v = false := by
  intro h9 v hv
  unfold q_nl at h
  simp only [Bool.or_eq_true, beq_iff_eq, h9, false_or] at h
  unfold q_ent at hv
  rcases List.mem_append.mp hv with h1 | h1
  · unfold q_sl at h1
    obtain ⟨w, hw, h1⟩ := List.mem_flatMap.mp h1
    have hw2 := List.all_eq_true.mp h w hw
    simp only [Bool.not_eq_true'] at hw2
    rw [hw2] at h1
    rw [List.mem_singleton.mp h1]
    exact hw2
  · rw [(List.mem_replicate.mp h1).2]; rfl
section QC
variable {ad : Nat → Nat} {cI cZ cK : ClassId} {D : va_G} {adV : Nat → Nat} {p : Program} {l : Launch} {e : Env} {s : State} {m : MethodId} {args : Array Value} {below : List Frame} {meth : Method} {c : Code} {mi : Nat} {Q : State → Prop} {pc : Nat} {L st : List AV} {σ : SS} {R : Room} {H : Heap} {locs : List Loc} {cells slots : Nat}
/-- behind a call -/
theorem q_go {ls : Array Slot} {st0 rest : List Value} {a : Array Value} {r : Option AV} {σ' : SS} {A0 : Nat → Prop} {H0 : Heap} (hr : va_Run p l e R s m args below meth c H locs cells slots 0 0 (F0 m pc ls st0) rest (q_Q ad cI cZ cK D r σ' a) (q_A ad)) (hS : va_S A0 H0 H locs) (hA : ∀ q, q_A ad q → A0 q)
    (kk : ∀ (H1 : Heap) (locs1 : List Loc), va_P D vwCl (q_wl ad cI cZ cK σ') H1 → q_okS σ' → (∀ v, r = some v → q_ok v) → va_S A0 H0 H1 locs1 → W p l e R s m args below meth c H1 locs1 cells slots Q (F0 m (pc + 3) ls ((r.map (q_cv ad)).toList ++ rest))) : W p l e R s m args below meth c H locs cells slots Q (F0 m pc ls st0) := by
  intro T hT X
  obtain ⟨v, st₀, t, T', L, h0, X', hL, e1, e2, ⟨hv, hP, ⟨hz, hk⟩, ho1, ho2⟩, stp⟩ := hr T hT X
  cases hv
  rw [h0] at hz hk
  obtain ⟨t2, a1, b1⟩ := kk T'.heap (locs ++ L) (by rw [e1]; exact hP) ho1 ho2
    ⟨Nat.le_trans hS.1 (by rw [e1]; exact hz), fun q h1 h2 => by rw [e1, hk q (Nat.lt_of_lt_of_le h1 hS.1) (fun z => h2 (hA q z))]; exact hS.2.1 q h1 h2, fun q hq => by
      rcases List.mem_append.mp hq with h | h
      · exact hS.2.2 q h
      · exact hA _ (hL q h)⟩ T' rfl X'
  exact ⟨t2, stp t2 a1, b1⟩
end QC
