/-! ===== SOUNDNESS: what the machine comes to, the JVM comes to ===== -/
def q_rm (mi : Nat) : Room := { frames := mF mi, cells := 0, slots := 0, locals := mW mi }
def q_ws (mi : Nat) : List Cond := .code (mY mi) (mB mi) (mL mi) (mR mi) :: gw
def q_lens : List Nat := [4, 4, 5, 3, 4, 4, 3]
def q_byts : List (List Int32) := [[115, 104, 111, 101], [110, 111, 111, 110], [104, 111, 117, 115, 101], [119, 97, 121], [103, 105, 114, 108], [103, 97, 105, 116], [115, 104, 101]]
def q_sidx : List (Nat × String) := [(57, "shoe"), (66, "noon"), (71, "house"), (76, "way"), (81, "girl"), (86, "gait"), (91, "she")]
def q_nests : List (Nat × Nat) := [(5, 134), (7, 62), (1, 52), (0, 50)]
def q_Env (ad adV : Nat → Nat) (U : State) (H : Heap) : Prop :=
  (∀ q ∈ q_nests, va_Nw (.methodLinkNest (cN q.1) q.2 yX8_has "SlipperFits") U) ∧ (∀ i, i < 7 → vk_R "SlipperFits$Reader" (q_sidx.getD i (0, "")).1 (q_sidx.getD i (0, "")).2 (ad (100 + i)) U) ∧ vk_S 7 q_lens q_byts (fun i => ad (100 + i)) adV (q_A ad) U H ∧ va_Z "java/lang/String" "COMPACT_STRINGS" "Z" (.int 1) (q_A ad) U H ∧ va_Zq "jdk/internal/util/Preconditions" "SIOOBE_FORMATTER" "Ljava/util/function/BiFunction;" (q_A ad) U H
theorem q_Env.warm {ad adV : Nat → Nat} {s U : State} {H H1 : Heap} (hW : s.WarmedH U.vm) (hq : ∀ a : Nat, a < H.size → ¬ q_A ad a → H1[a]? = H[a]?) (h : q_Env ad adV s H) : q_Env ad adV U H1 :=
  ⟨fun q hq => va_Nw.warmM hW (h.1 q hq), fun i hi => (h.2.1 i hi).warm hW, (h.2.2.1.moved hW.alike).kept hq, (h.2.2.2.1.moved hW.alike).kept hq, (h.2.2.2.2.moved hW.alike).kept hq⟩
theorem q_Env.same {ad adV : Nat → Nat} {s U : State} {H : Heap} (hv : U.vm = s.vm) (h : q_Env ad adV s H) : q_Env ad adV U H :=
  ⟨fun q hq => va_Nw.same rfl hv.symm (h.1 q hq), fun i hi => (h.2.1 i hi).same hv, h.2.2.1.moved (by rw [hv]; exact Vm.Alike.refl _), h.2.2.2.1.moved (by rw [hv]; exact Vm.Alike.refl _), h.2.2.2.2.moved (by rw [hv]; exact Vm.Alike.refl _)⟩
abbrev q_tys (cI cZ cK : ClassId) : List (ClassId × FieldType) := [(cI, .int), (cZ, .boolean), (cK, .object "SlipperFits$Night")]
def q_Cx (ad : Nat → Nat) (cI cZ cK : ClassId) (D : va_G) (adV : Nat → Nat) (p : Program) (s : State) (m : MethodId) (args : Array Value) (meth : Method) (c : Code) (mi : Nat) : Prop :=
  p.tables.exec = Jvm.exec ∧ c.code = mB mi ∧ c.maxLocals = mL mi ∧ meth.sig.returnType = mR mi ∧ s.vm.findClass (cN (mO mi)) = some m.cls ∧ (∀ w ∈ gw, w.before args s = true) ∧ meth.locks = false ∧ va_K D vwCl (q_tys cI cZ cK) s ∧ q_inj ad ∧ q_Env ad adV s s.heap
def q_At (ad : Nat → Nat) (cI cZ cK : ClassId) (D : va_G) (s : State) (mi : Nat) (H : Heap) (locs : List Loc) (ls : Array Slot) (L st : List AV) (σ : SS) : Prop :=
  va_P D vwCl (q_wl ad cI cZ cK σ) H ∧ va_S (q_A ad) s.heap H locs ∧ q_lv ad (mL mi) ls L ∧ q_okS σ ∧ (∀ v ∈ L, q_ok v) ∧ (∀ v ∈ st, q_ok v) ∧ (¬ mi = 900 → ∀ v ∈ L, q_isL v = false)
def q_G (ad : Nat → Nat) (cI cZ cK : ClassId) (D : va_G) (p : Program) (l : Launch) (e : Env) (s : State) (m : MethodId) (args : Array Value) (below : List Frame) (meth : Method) (c : Code) (mi : Nat) (Q : State → Prop) (pc : Nat) (L st : List AV) (σ : SS) : Prop :=
  ∀ H locs ls, q_At ad cI cZ cK D s mi H locs ls L st σ → W p l e (q_rm mi) s m args below meth c H locs 0 0 Q (F0 m pc ls (st.map (q_cv ad)))
/-- the field tables of the classes -/
theorem q_cls {ci : Nat} {C : String} {T : u_T} {N : Nat} (h : vwCl[ci]? = some (C, T, N)) : (∀ w ∈ u_ws C T N, w ∈ gw) ∧ (∀ k, k < N → parseFieldDescriptor (T k).2.2.1 = some (q_cty ci k)) ∧ (∀ a, a < N → ∀ b, b < N → a ≠ b → (T a).2.1 ≠ (T b).2.1) ∧ C = cN ci ∧ ci < 10 := by
  match ci, h with
  | 0, h => cases h; exact ⟨gwX0, tyX0_ok, nmX0, rfl, by omega⟩
  | 1, h => cases h; exact ⟨gwX1, tyX1_ok, nmX1, rfl, by omega⟩
  | 2, h => cases h; exact ⟨gwX2, tyX2_ok, nmX2, rfl, by omega⟩
  | 3, h => cases h; exact ⟨gwX3, tyX3_ok, nmX3, rfl, by omega⟩
  | 4, h => cases h; exact ⟨gwX4, tyX4_ok, nmX4, rfl, by omega⟩
  | 5, h => cases h; exact ⟨gwX5, tyX5_ok, nmX5, rfl, by omega⟩
  | 6, h => cases h; exact ⟨gwX6, tyX6_ok, nmX6, rfl, by omega⟩
  | 7, h => cases h; exact ⟨gwX7, tyX7_ok, nmX7, rfl, by omega⟩
  | 8, h => cases h; exact ⟨gwX8, tyX8_ok, nmX8, rfl, by omega⟩
  | 9, h => cases h; exact ⟨gwX9, tyX9_ok, nmX9, rfl, by omega⟩
  | k + 10, h => simp [vwCl] at h
theorem q_flk {o i ci j : Nat} (h : flk o i = some (ci, j)) : ∃ C T N, vwCl[ci]? = some (C, T, N) ∧ j < N ∧ Cond.fieldLink (cN o) i (T j).1 (T j).2.1 (T j).2.2.1 ∈ gw := by
  unfold flk at h
  cases h1 : flT.find? (fun q => q.1 == o && q.2.1 == i) with
  | none => rw [h1] at h; cases h
  | some q =>
    rw [h1] at h
    obtain ⟨hm, hp⟩ := find_mem h1
    have h2 := List.all_eq_true.mp flT_ok q hm
    simp only [Bool.and_eq_true, beq_iff_eq] at hp
    simp only [Option.map_some, Option.some.injEq, Prod.mk.injEq] at h
    rw [hp.1, hp.2, h.1, h.2] at h2
    cases h3 : vwCl[ci]? with
    | none => rw [h3] at h2; simp at h2
    | some r =>
      obtain ⟨C, T, N⟩ := r
      rw [h3] at h2
      simp only [Bool.and_eq_true, decide_eq_true_eq] at h2
      exact ⟨C, T, N, rfl, h2.1, gw_of _ h2.2 rfl⟩
theorem q_ldk {o i : Nat} {z : Int} (h : ldk o i = some z) : Cond.constant (cN o) i (Int32.ofInt z) ∈ gw := by
  unfold ldk at h
  cases h1 : ldT.find? (fun q => q.1 == o && q.2.1 == i) with
  | none => rw [h1] at h; cases h
  | some q =>
    rw [h1] at h
    obtain ⟨hm, hp⟩ := find_mem h1
    have h2 := List.all_eq_true.mp ldT_ok q hm
    simp only [Bool.and_eq_true, beq_iff_eq] at hp
    simp only [Option.map_some, Option.some.injEq] at h
    simp only [decide_eq_true_eq] at h2
    rw [hp.1, hp.2, h] at h2
    exact gw_of _ h2 rfl
theorem q_llk {o i : Nat} {z : Int} (h : llk o i = some z) : Cond.constantLong (cN o) i (Int64.ofInt z) ∈ gw := by
  unfold llk at h
  cases h1 : llT.find? (fun q => q.1 == o && q.2.1 == i) with
  | none => rw [h1] at h; cases h
  | some q =>
    rw [h1] at h
    obtain ⟨hm, hp⟩ := find_mem h1
    have h2 := List.all_eq_true.mp llT_ok q hm
    simp only [Bool.and_eq_true, beq_iff_eq] at hp
    simp only [Option.map_some, Option.some.injEq] at h
    simp only [decide_eq_true_eq] at h2
    rw [hp.1, hp.2, h] at h2
    exact gw_of _ h2 rfl
theorem stT_ok : stT.all (fun q => decide (q.1 = 5 ∧ q.2.2 < 7 ∧ (q_sidx.getD q.2.2 (0, "")).1 = q.2.1)) = true := by decide +kernel
theorem q_stk {o i k : Nat} (h : stk o i = some k) : o = 5 ∧ k < 7 ∧ (q_sidx.getD k (0, "")).1 = i := by
  unfold stk at h
  cases h1 : stT.find? (fun q => q.1 == o && q.2.1 == i) with
  | none => rw [h1] at h; cases h
  | some q =>
    rw [h1] at h
    obtain ⟨hm, hp⟩ := find_mem h1
    have h2 := List.all_eq_true.mp stT_ok q hm
    simp only [Bool.and_eq_true, beq_iff_eq] at hp
    simp only [Option.map_some, Option.some.injEq] at h
    simp only [decide_eq_true_eq] at h2
    rw [hp.1, hp.2, h] at h2
    exact h2
theorem q_cat {ad : Nat → Nat} {v : AV} (h : q_isL v = false) : (q_cv ad v).category = 1 := by
  rcases v with z | z | k
  · rfl
  · cases h
  · cases k <;> rfl
theorem q_w_cat {ad : Nat → Nat} (v : AV) : (q_cv ad v).category = q_w v := by
  rcases v with z | z | k
  · rfl
  · rfl
  · cases k <;> rfl
theorem q_ws_sum {ad : Nat → Nat} (st : List AV) : ((st.map (q_cv ad)).map fun v => v.category).sum = (st.map q_w).sum := by
  rw [List.map_map]
  congr 1
  apply List.map_congr_left
  intro v _
  exact q_w_cat v
theorem q_jmp_spec {pc : Nat} {off : Int} {L st : List AV} {σ : SS} {a : QA} (h : q_jmp pc off L st σ = some a) : (pc : Int) + off = (((pc : Int) + off).toNat : Int) ∧ a = .inl (((pc : Int) + off).toNat, L, st, σ) := by
  unfold q_jmp q_nx at h
  split at h
  · rename_i hc
    exact ⟨hc, (Option.some.inj h).symm⟩
  · cases h
section QS
variable {ad : Nat → Nat} {cI cZ cK : ClassId} {D : va_G} {adV : Nat → Nat} {p : Program} {l : Launch} {e : Env} {s : State} {m : MethodId} {args : Array Value} {below : List Frame} {meth : Method} {c : Code} {mi : Nat} {Q : State → Prop} {pc : Nat} {L st : List AV} {σ : SS} {pc' : Nat} {L' st' : List AV} {σ' : SS}
theorem qs_load {i len : Nat} {pr : AV → Bool} (hpr : pr qU = false) (h : q_load i len pr pc L st σ = some (.inl (pc', L', st', σ')))
    (row : ∀ (v : AV) (H : Heap) (locs : List Loc) (ls : Array Slot), pr v = true → ls[i]? = some (.val (q_cv ad v)) → W p l e (q_rm mi) s m args below meth c H locs 0 0 Q (F0 m (pc + len) ls (q_cv ad v :: st.map (q_cv ad))) → W p l e (q_rm mi) s m args below meth c H locs 0 0 Q (F0 m pc ls (st.map (q_cv ad))))
    (kk : q_G ad cI cZ cK D p l e s m args below meth c mi Q pc' L' st' σ') : q_G ad cI cZ cK D p l e s m args below meth c mi Q pc L st σ := by
  intro H locs ls hA
  obtain ⟨hP, hS, hl, hσ, hL, hst, hnl⟩ := hA
  unfold q_load q_ld at h
  cases hv : L[i]? with
  | none => rw [hv] at h; cases h
  | some v =>
    rw [hv] at h
    dsimp only at h
    split at h
    · rename_i hp
      cases h
      have hu : v ≠ qU := fun e => by rw [e, hpr] at hp; cases hp
      exact row v H locs ls hp (q_lv_ld hl hv hu) (kk H locs ls ⟨hP, hS, hl, hσ, hL, List.forall_mem_cons.mpr ⟨hL v (List.mem_of_getElem? hv), hst⟩, hnl⟩)
    · cases h
theorem qs_store {i len : Nat} {pr : AV → Bool} (hpr : ∀ v, pr v = true → q_isL v = false) (h : q_store mi i len pr pc L st σ = some (.inl (pc', L', st', σ')))
    (row : ∀ (v : AV) (r : List AV) (H : Heap) (locs : List Loc) (ls : Array Slot) (lv : List (Nat × Value)), pr v = true → lv_has ls (mL mi) lv → i < mL mi → (∀ ls' : Array Slot, lv_has ls' (mL mi) ((i, q_cv ad v) :: lv.filter (fun q => !(q.1 == i) && !(q.1 + 1 == i && q.2.category == 2))) → W p l e (q_rm mi) s m args below meth c H locs 0 0 Q (F0 m (pc + len) ls' (r.map (q_cv ad)))) → W p l e (q_rm mi) s m args below meth c H locs 0 0 Q (F0 m pc ls (q_cv ad v :: r.map (q_cv ad))))
    (kk : q_G ad cI cZ cK D p l e s m args below meth c mi Q pc' L' st' σ') : q_G ad cI cZ cK D p l e s m args below meth c mi Q pc L st σ := by
  intro H locs ls hA
  obtain ⟨hP, hS, hl, hσ, hL, hst, hnl⟩ := hA
  unfold q_store at h
  cases st with
  | nil => cases h
  | cons v r =>
    dsimp only at h
    split at h
    · rename_i hp
      cases hs : q_st mi L i v with
      | none => rw [hs] at h; cases h
      | some L2 =>
        rw [hs] at h
        cases h
        obtain ⟨hlen, l0, h1, h2⟩ := hl
        have hsl := q_st_len hs
        have hn2 := q_st_nl hs hnl (hpr v hp)
        exact row v st' H locs ls l0 hp h1 (by rw [← hlen]; exact hsl.2) (fun ls' hl' => kk H locs ls' ⟨hP, hS, ⟨by rw [hsl.1]; exact hlen, _, hl', q_lv_st h2 hn2.1 hs⟩, hσ, q_st_ok hs hL (hst v List.mem_cons_self), fun w hw => hst w (List.mem_cons_of_mem _ hw), fun _ => hn2.2⟩)
    · cases h
theorem qs_bin {f : Int → Int → Option Int} (h : q_bin f pc L st σ = some (.inl (pc', L', st', σ'))) (hf : ∀ a b z, f a b = some z → (i32 z).toInt = z)
    (row : ∀ (a b z : Int) (r : List AV) (H : Heap) (locs : List Loc) (ls : Array Slot), (i32 a).toInt = a → (i32 b).toInt = b → f a b = some z → W p l e (q_rm mi) s m args below meth c H locs 0 0 Q (F0 m (pc + 1) ls (.int (i32 z) :: r.map (q_cv ad))) → W p l e (q_rm mi) s m args below meth c H locs 0 0 Q (F0 m pc ls (.int (i32 b) :: .int (i32 a) :: r.map (q_cv ad))))
    (kk : q_G ad cI cZ cK D p l e s m args below meth c mi Q pc' L' st' σ') : q_G ad cI cZ cK D p l e s m args below meth c mi Q pc L st σ := by
  intro H locs ls hA
  obtain ⟨hP, hS, hl, hσ, hL, hst, hnl⟩ := hA
  unfold q_bin at h
  split at h
  · rename_i b a r
    cases hz : f a b with
    | none => rw [hz] at h; cases h
    | some z =>
      rw [hz] at h
      cases h
      have hb := hst (.inl b) List.mem_cons_self
      have ha := hst (.inl a) (List.mem_cons_of_mem _ List.mem_cons_self)
      exact row a b z r H locs ls ha hb hz (kk H locs ls ⟨hP, hS, hl, hσ, hL, List.forall_mem_cons.mpr ⟨hf a b z hz, fun w hw => hst w (List.mem_cons_of_mem _ (List.mem_cons_of_mem _ hw))⟩, hnl⟩)
  · cases h
theorem qs_binl {f : Int → Int → Option Int} (h : q_binl f pc L st σ = some (.inl (pc', L', st', σ'))) (hf : ∀ a b z, f a b = some z → (i64 z).toInt = z)
    (row : ∀ (a b z : Int) (r : List AV) (H : Heap) (locs : List Loc) (ls : Array Slot), (i64 a).toInt = a → (i64 b).toInt = b → f a b = some z → W p l e (q_rm mi) s m args below meth c H locs 0 0 Q (F0 m (pc + 1) ls (.long (i64 z) :: r.map (q_cv ad))) → W p l e (q_rm mi) s m args below meth c H locs 0 0 Q (F0 m pc ls (.long (i64 b) :: .long (i64 a) :: r.map (q_cv ad))))
    (kk : q_G ad cI cZ cK D p l e s m args below meth c mi Q pc' L' st' σ') : q_G ad cI cZ cK D p l e s m args below meth c mi Q pc L st σ := by
  intro H locs ls hA
  obtain ⟨hP, hS, hl, hσ, hL, hst, hnl⟩ := hA
  unfold q_binl at h
  split at h
  · rename_i b a r
    cases hz : f a b with
    | none => rw [hz] at h; cases h
    | some z =>
      rw [hz] at h
      cases h
      have hb := hst (.inr (.inl b)) List.mem_cons_self
      have ha := hst (.inr (.inl a)) (List.mem_cons_of_mem _ List.mem_cons_self)
      exact row a b z r H locs ls ha hb hz (kk H locs ls ⟨hP, hS, hl, hσ, hL, List.forall_mem_cons.mpr ⟨hf a b z hz, fun w hw => hst w (List.mem_cons_of_mem _ (List.mem_cons_of_mem _ hw))⟩, hnl⟩)
  · cases h
theorem qs_get {idx : Nat} (hC : q_Cx ad cI cZ cK D adV p s m args meth c mi) (hd : decode (mB mi) pc = .ok (.getfield idx, 3)) (h : q_get mi idx pc L st σ = some (.inl (pc', L', st', σ'))) (kk : q_G ad cI cZ cK D p l e s m args below meth c mi Q pc' L' st' σ') : q_G ad cI cZ cK D p l e s m args below meth c mi Q pc L st σ := by
  intro H locs ls hA
  obtain ⟨hx, hb, hml, hr, hown, hts, hlk, hK, hj, hE⟩ := hC
  obtain ⟨hP, hS, hl, hσ, hL, hst, hnl⟩ := hA
  unfold q_get at h
  split at h
  · rename_i k r
    split at h
    · rename_i ci j c2 fs hf hk
      split at h
      · rename_i hci
        subst hci
        obtain ⟨C, T, N, hcl, hjN, hlink⟩ := q_flk hf
        obtain ⟨g1, g2, g3, -, -⟩ := q_cls hcl
        have hat := q_wl_at (ad := ad) (cI := cI) (cZ := cZ) (cK := cK) (σ := σ) hk
        rw [q_cell2] at hat
        have hr' : ∀ v ∈ r, q_ok v := fun w hw => hst w (List.mem_cons_of_mem _ hw)
        split at h
        · rename_i hfs
          cases h
          exact va_get (D := D) (ci := c2) (v := .int (i32 (σ k j))) (C := C) (T := T) (N := N) hx hb hts g1 hown hK hP k hat hcl j hjN (hts _ hlink) (fun _ h9 => h9) (by rw [List.getElem?_mapIdx, hfs]; rfl) hd (kk H locs ls ⟨hP, hS, hl, hσ, hL, List.forall_mem_cons.mpr ⟨hσ k j, hr'⟩, hnl⟩)
        · rename_i k2 hfs
          cases h
          exact va_get (D := D) (ci := c2) (v := .ref (ad k2)) (C := C) (T := T) (N := N) hx hb hts g1 hown hK hP k hat hcl j hjN (hts _ hlink) (fun _ h9 => h9) (by rw [List.getElem?_mapIdx, hfs]; rfl) hd (kk H locs ls ⟨hP, hS, hl, hσ, hL, List.forall_mem_cons.mpr ⟨trivial, hr'⟩, hnl⟩)
        · cases h
      · cases h
    · cases h
  · cases h
theorem q_okf_spec {t : FieldType} {v : Int} (h : q_okf t v = true) : narrow t (.int (i32 v)) = .int (i32 v) ∧ fits t (.int (i32 v)) = true := by
  unfold q_okf at h
  split at h
  · exact ⟨rfl, rfl⟩
  · simp only [decide_eq_true_eq] at h
    rcases h with rfl | rfl
    · exact ⟨by decide, by decide⟩
    · exact ⟨by decide, by decide⟩
  · cases h
theorem qs_put {idx : Nat} (hC : q_Cx ad cI cZ cK D adV p s m args meth c mi) (hd : decode (mB mi) pc = .ok (.putfield idx, 3)) (h : q_putf mi idx pc L st σ = some (.inl (pc', L', st', σ'))) (kk : q_G ad cI cZ cK D p l e s m args below meth c mi Q pc' L' st' σ') : q_G ad cI cZ cK D p l e s m args below meth c mi Q pc L st σ := by
  intro H locs ls hA
  obtain ⟨hx, hb, hml, hr, hown, hts, hlk, hK, hj, hE⟩ := hC
  obtain ⟨hP, hS, hl, hσ, hL, hst, hnl⟩ := hA
  unfold q_putf at h
  split at h
  · rename_i v k r
    split at h
    · rename_i ci j c2 fs hf hk
      split at h
      · rename_i hci
        subst hci
        obtain ⟨C, T, N, hcl, hjN, hlink⟩ := q_flk hf
        obtain ⟨g1, g2, g3, -, -⟩ := q_cls hcl
        have hat := q_wl_at (ad := ad) (cI := cI) (cZ := cZ) (cK := cK) (σ := σ) hk
        rw [q_cell2] at hat
        have hr' : ∀ v ∈ r, q_ok v := fun w hw => hst w (List.mem_cons_of_mem _ (List.mem_cons_of_mem _ hw))
        have hv := hst (.inl v) List.mem_cons_self
        split at h
        · rename_i hfs
          split at h
          · rename_i hc
            cases h
            have hfin : (T j).2.2.2 = false := by
              have := hc.1
              unfold q_fin at this
              rw [hcl] at this
              exact this
            have hnf := q_okf_spec hc.2
            exact va_put (D := D) (ci := c2) (v := .int (i32 v)) (ty := q_cty c2 j) (C := C) (T := T) (N := N) hx hb hts g1 (q_cty c2) g2 g3 hown hK hP (q_wl_D hj) hS k hat hcl j hjN (hts _ hlink) (fun _ h9 => h9) hfin (g2 j hjN) hnf.1 hnf.2 (by rw [List.length_mapIdx]; exact (List.getElem?_eq_some_iff.mp hfs).1) hd (fun H1 locs1 hP1 hD1 hS1 => kk H1 locs1 ls ⟨by rw [← q_set_field hk hfs]; exact hP1, hS1, hl, q_okS_put hσ hv, hL, hr', hnl⟩)
          · cases h
        · cases h
      · cases h
    · cases h
  · cases h
theorem qs_ald {kind : Nat} (hC : q_Cx ad cI cZ cK D adV p s m args meth c mi) (hd : (kind = 0 ∧ decode (mB mi) pc = .ok (.iaload, 1)) ∨ (kind = 1 ∧ decode (mB mi) pc = .ok (.baload, 1))) (h : q_ald kind pc L st σ = some (.inl (pc', L', st', σ'))) (kk : q_G ad cI cZ cK D p l e s m args below meth c mi Q pc' L' st' σ') : q_G ad cI cZ cK D p l e s m args below meth c mi Q pc L st σ := by
  intro H locs ls hA
  obtain ⟨hx, hb, hml, hr, hown, hts, hlk, hK, hj, hE⟩ := hC
  obtain ⟨hP, hS, hl, hσ, hL, hst, hnl⟩ := hA
  unfold q_ald at h
  split at h
  · rename_i i k r
    split at h
    · rename_i kd n x hk
      split at h
      · rename_i hc
        cases h
        obtain ⟨rfl, h0, h1⟩ := hc
        have hi := hst (.inl i) List.mem_cons_self
        have hat := q_wl_at (ad := ad) (cI := cI) (cZ := cZ) (cK := cK) (σ := σ) hk
        have hr' : ∀ v ∈ r, q_ok v := fun w hw => hst w (List.mem_cons_of_mem _ (List.mem_cons_of_mem _ hw))
        have kk' := kk H locs ls ⟨hP, hS, hl, hσ, hL, List.forall_mem_cons.mpr ⟨hσ k i.toNat, hr'⟩, hnl⟩
        rcases hd with ⟨rfl, hd⟩ | ⟨rfl, hd⟩
        · refine va_iald hx hb hK hP k 0 hat rfl (i32_in hi h0 h1) hd ?_
          rw [i32_clamp hi]
          exact kk'
        · refine va_zald hx hb hK hP k 1 hat rfl (i32_in hi h0 h1) hd ?_
          rw [i32_clamp hi]
          exact kk'
      · cases h
    · cases h
  · cases h
theorem qs_ast {kind : Nat} (hC : q_Cx ad cI cZ cK D adV p s m args meth c mi) (hd : (kind = 0 ∧ decode (mB mi) pc = .ok (.iastore, 1)) ∨ (kind = 1 ∧ decode (mB mi) pc = .ok (.bastore, 1))) (h : q_ast kind pc L st σ = some (.inl (pc', L', st', σ'))) (kk : q_G ad cI cZ cK D p l e s m args below meth c mi Q pc' L' st' σ') : q_G ad cI cZ cK D p l e s m args below meth c mi Q pc L st σ := by
  intro H locs ls hA
  obtain ⟨hx, hb, hml, hr, hown, hts, hlk, hK, hj, hE⟩ := hC
  obtain ⟨hP, hS, hl, hσ, hL, hst, hnl⟩ := hA
  unfold q_ast at h
  split at h
  · rename_i v i k r
    split at h
    · rename_i kd n x hk
      split at h
      · rename_i hc
        cases h
        obtain ⟨rfl, h0, h1, h2⟩ := hc
        have hv := hst (.inl v) List.mem_cons_self
        have hi := hst (.inl i) (List.mem_cons_of_mem _ List.mem_cons_self)
        have hat := q_wl_at (ad := ad) (cI := cI) (cZ := cZ) (cK := cK) (σ := σ) hk
        have hr' : ∀ v ∈ st', q_ok v := fun w hw => hst w (List.mem_cons_of_mem _ (List.mem_cons_of_mem _ (List.mem_cons_of_mem _ hw)))
        rcases hd with ⟨rfl, hd⟩ | ⟨rfl, hd⟩
        · refine va_iast hx hb hK hP (q_wl_D hj) hS k 0 hat rfl (i32_in hi h0 h1) hd (fun H1 locs1 hP1 hD1 hS1 => ?_)
          rw [i32_clamp hi, q_set_arr hk (Or.inl ⟨rfl, rfl⟩)] at hP1
          exact kk H1 locs1 ls ⟨hP1, hS1, hl, q_okS_put hσ hv, hL, hr', hnl⟩
        · have hz : vp_nar .boolean (i32 v) = i32 v := by
            rcases h2 with h2 | rfl | rfl
            · cases h2
            · decide
            · decide
          refine va_zast hx hb hK hP (q_wl_D hj) hS k 1 hat rfl (i32_in hi h0 h1) hd (fun H1 locs1 hP1 hD1 hS1 => ?_)
          rw [i32_clamp hi, hz, q_set_arr hk (Or.inr ⟨rfl, rfl⟩)] at hP1
          exact kk H1 locs1 ls ⟨hP1, hS1, hl, q_okS_put hσ hv, hL, hr', hnl⟩
      · cases h
    · cases h
  · cases h
theorem qs_aald (hC : q_Cx ad cI cZ cK D adV p s m args meth c mi) (hd : decode (mB mi) pc = .ok (.aaload, 1)) (h : q_aald pc L st σ = some (.inl (pc', L', st', σ'))) (kk : q_G ad cI cZ cK D p l e s m args below meth c mi Q pc' L' st' σ') : q_G ad cI cZ cK D p l e s m args below meth c mi Q pc L st σ := by
  intro H locs ls hA
  obtain ⟨hx, hb, hml, hr, hown, hts, hlk, hK, hj, hE⟩ := hC
  obtain ⟨hP, hS, hl, hσ, hL, hst, hnl⟩ := hA
  unfold q_aald at h
  split at h
  · rename_i i k r
    split at h
    · rename_i n fs hk
      split at h
      · rename_i hc
        split at h
        · rename_i k2 hfs
          cases h
          have hi := hst (.inl i) List.mem_cons_self
          have hat := q_wl_at (ad := ad) (cI := cI) (cZ := cZ) (cK := cK) (σ := σ) hk
          rw [q_cell3] at hat
          have hr' : ∀ v ∈ r, q_ok v := fun w hw => hst w (List.mem_cons_of_mem _ (List.mem_cons_of_mem _ hw))
          have kk' := kk H locs ls ⟨hP, hS, hl, hσ, hL, List.forall_mem_cons.mpr ⟨trivial, hr'⟩, hnl⟩
          refine va_aldq hx hb hK hP k 2 hat rfl (i32_in hi hc.1 hc.2) hd ?_
          rw [i32_clamp hi, List.getD_eq_getElem?_getD, hfs]
          exact kk'
        · cases h
      · cases h
    · cases h
  · cases h
theorem qs_copy {idx : Nat} (hC : q_Cx ad cI cZ cK D adV p s m args meth c mi) (hlk3 : Cond.methodLink (cN (mO mi)) idx arraycopyName ∈ gw) (hR : 1 ≤ mF mi ∧ 30 ≤ mW mi) (hd : decode (mB mi) pc = .ok (.invokestatic idx, 3)) (h : q_copy mi pc L st σ = some (.inl (pc', L', st', σ'))) (kk : q_G ad cI cZ cK D p l e s m args below meth c mi Q pc' L' st' σ') : q_G ad cI cZ cK D p l e s m args below meth c mi Q pc L st σ := by
  intro H locs ls hA
  obtain ⟨hx, hb, hml, hr, hown, hts, hlk, hK, hj, hE⟩ := hC
  obtain ⟨hP, hS, hl, hσ, hL, hst, hnl⟩ := hA
  unfold q_copy at h
  split at h
  · rename_i n dp k1 sp k0 r
    split at h
    · rename_i n0 x0 n1 x1 hk0 hk1
      split at h
      · rename_i hc
        cases h
        obtain ⟨c1, c2, c3, c4, c5, c6⟩ := hc
        have hn := hst (.inl n) (by simp)
        have hdp := hst (.inl dp) (by simp)
        have hsp := hst (.inl sp) (by simp)
        have hr' : ∀ v ∈ st', q_ok v := fun w hw => hst w (by simp [hw])
        have hat0 := q_wl_at (ad := ad) (cI := cI) (cZ := cZ) (cK := cK) (σ := σ) hk0
        have hat1 := q_wl_at (ad := ad) (cI := cI) (cZ := cZ) (cK := cK) (σ := σ) hk1
        rw [q_cell0] at hat0 hat1
        have neg : ∀ z : Int, (i32 z).toInt = z → 0 ≤ z → ¬ i32 z < 0 := fun z hz h0 => by
          rw [← i32_0, i32_lt hz (by decide)]
          omega
        refine va_copyi hx hb (by rw [hml, q_lv_size hl]) hown (hts _ hlk3) (hts _ (gw_of 616 (by decide +kernel) rfl)) (hts _ (gw_of 615 (by decide +kernel) rfl)) (hts _ (gw_of 98 (by decide +kernel) rfl)) hK hP (q_wl_D hj) hS k0 k1 0 0 hat0 hat1 rfl rfl rfl (neg sp hsp c1) (neg dp hdp c2) (neg n hn c3) (by rw [i32_clamp hsp, i32_clamp hn]; omega) (by rw [i32_clamp hdp, i32_clamp hn]; omega) (fun i hi => rfl) hR.1 ?_ hd (fun H1 locs1 hP1 hD1 hS1 => ?_)
        · rw [q_ws_sum]
          have : nativeFrameWords "java/lang/System" "arraycopy" 5 = 7 := by decide
          rw [this]
          show _ ≤ mW mi
          omega
        · rw [i32_clamp hsp, i32_clamp hdp, i32_clamp hn, q_set_cpy hk1] at hP1
          exact kk H1 locs1 ls ⟨hP1, hS1, hl, q_okS_cpy hσ (fun j => hσ k0 j), hL, hr', hnl⟩
      · cases h
    · cases h
  · cases h
end QS
