/-! ===== THE LAW ===== -/
def R_law : String := "SlipperFitsLaw"
def lw_P (b : Addr) (xs : List Int32) (args : Array Value) (s : State) : Prop := args = #[.ref b] ∧ s.IntsAt b xs ∧ xs.length ≤ 256 ∧ (Jvm.Cond.and given_1 narrow_1).before args s = true
def lw_Q (_ : Array Value) (s : State) (o : Outcome) (t : State) : Prop := o = .returned (some (.int 1)) ∧ Framed s o t [] 600000 7302250
def lw_Z (below : List Frame) (a : Array Value) (s : State) : State → Prop := fun t => ∃ o, t.status = .running ∧ Ended t below o ∧ lw_Q a s o t
/-- the law's own end, with 1 on the stack, nothing written that was there before, its room as the claim has it -/
theorem lw_ret {p : Program} {l : Launch} {e : Env} {s : State} {m : MethodId} {below : List Frame} {meth : Method} {c : Code} {b : Nat} (hx : p.tables.exec = Jvm.exec) (hb : c.code = code) (hr : meth.sig.returnType = ret) (hlocks : meth.locks = false) {pc : Nat} {H : Heap} {ls : Array Slot} (hdg : decode code pc = .ok (.ireturn, 1)) : W p l e room_1 s m #[Value.ref b] below meth c H [] 600000 7302250 (lw_Z below #[Value.ref b] s) (F0 m pc ls [.int 1]) := by
  intro T hT X
  obtain ⟨fs, hret, hrun, hended, hW, hframe⟩ := X.leave (v := some (.int 1)) (hlocks := hlocks) (fun h => by rw [hr] at h; cases h)
  have hmeth' : T.vm.method? m = some meth := X.method'
  refine ⟨T.setFrames fs, ?_, .returned (some (.int 1)), hrun, hended, rfl, ⟨_, rfl⟩, hW, hframe⟩
  jvm_step X.here [X.here.top, hx, hb, hdg, hmeth', hr, ret, narrow_b1]
  (try refine ⟨rfl, ?_⟩); (try refine ⟨rfl, ?_⟩)
  first | (intro acts; rw [hret _ acts rfl rfl rfl]) | rw [hret _ _ rfl rfl rfl]
  exact Steps.refl _
/-- what holds at the law's entry: the machine, the code, the tables' words (any of lw_tbl by 'hts w (by decide +kernel)'), the script of L ints xs at the cell b, what the Statement gives of the start (any of its parts by flat_of_before) -/
def lw_At (p : Program) (s : State) (m : MethodId) (meth : Method) (c : Code) (b L : Nat) (xs : Nat → Int32) : Prop :=
  p.tables.exec = Jvm.exec ∧ c.code = code ∧ meth.sig.returnType = ret ∧ c.maxLocals = 4 ∧ s.vm.findClass R_law = some m.cls ∧ (∀ w ∈ lw_tbl, w.before #[Value.ref b] s = true) ∧ va_X b L xs s s.heap ∧ b < s.heap.size ∧ meth.locks = false ∧ (Jvm.Cond.and given_1 narrow_1).before #[Value.ref b] s = true
theorem i32_add {a b : Int} : i32 a + i32 b = i32 (a + b) := (Int32.ofInt_add a b).symm
def w_Cx (ad adV : Nat → Nat) (cI cZ cK : ClassId) (D : va_G) (p : Program) (s : State) (m : MethodId) (meth : Method) (c : Code) (b L : Nat) (xs : Nat → Int32) : Prop := lw_At p s m meth c b L xs ∧ va_K D vwCl (q_tys cI cZ cK) s ∧ q_inj ad ∧ q_Env ad adV s s.heap ∧ ∀ q, q_A ad q → s.heap.size ≤ q
def w_St (ad : Nat → Nat) (cI cZ cK : ClassId) (D : va_G) (s : State) (σ : SS) (H : Heap) (locs : List Jvm.Loc) : Prop := va_P D vwCl (q_wl ad cI cZ cK σ) H ∧ va_S (fun q : Nat => s.heap.size ≤ q) s.heap H locs ∧ q_okS σ
theorem RR_ext {σ σ' : SS} {N : Int} (h : RR σ N) (e : ∀ k, k < 100 → σ' k = σ k) : RR σ' N := by
  have hn := h.n
  have := h.cg2 (σ1 := σ') (σ2 := σ') (N' := N) (by omega) (by omega) (fun k hk => e k (by revert hk; revert k; decide)) (fun k hk => e k (by revert hk; revert k; decide))
  rw [mix_self] at this
  exact this
theorem ent_ok {P : Nat → Prop} {mi k : Nat} {vs : List AV} (hk : P k) (hv : ∀ v ∈ vs, ∃ z, v = qI z) : ∀ v ∈ q_ent mi (qR k :: vs), okR P v := by
  intro v hv2
  unfold q_ent at hv2
  rcases List.mem_append.mp hv2 with h | h
  · unfold q_sl at h
    obtain ⟨w, hw, h⟩ := List.mem_flatMap.mp h
    rcases List.mem_cons.mp hw with rfl | hw
    · have : v = qR k := by simpa [q_isL] using h
      rw [this]; exact hk
    · obtain ⟨z, rfl⟩ := hv w hw
      have : v = qI z := by simpa [q_isL] using h
      rw [this]; trivial
  · rw [(List.mem_replicate.mp h).2]; trivial
section LW
variable {p : Program} {l : Launch} {e : Env} {s : State} {m : MethodId} {below : List Frame} {meth : Method} {c : Code} {b L : Nat} {xs : Nat → Int32} {ad adV : Nat → Nat} {cI cZ cK : ClassId} {D : va_G} {H : Heap} {locs : List Jvm.Loc} {cells slots pc : Nat} {ls : Array Slot} {rest : List Value} {σ : SS} {Q : State → Prop}
/-- a call of a method of the machine's -/
theorem w_call (hC : w_Cx ad adV cI cZ cK D p s m meth c b L xs) (hst : w_St ad cI cZ cK D s σ H locs) {row : Nat × Nat × Nat × Nat × Nat × Nat} (hrow : row ∈ mtT) (hkd : ¬ row.2.2.2.1 = 1) {k : Nat} {fs : List (Option Nat)} (hsh : qsh k = some (2, mO row.1, fs)) {idx n : Nat} (hlink : Cond.methodLink R_law idx (mY row.1) ∈ lw_tbl) {vs : List AV} (hn : q_par row.1 = some n) (hlen : vs.length = n) (hfit : mF row.1 + 1 ≤ 11 ∧ 8 + (mL row.1 + 11) + mW row.1 ≤ 386) (hsl : (q_sl (qR k :: vs)).length ≤ mL row.1) (hnl : q_nl row.1 (qR k :: vs) = true) (hvs : ∀ v ∈ vs, q_ok v) {r : Option AV} {σ' : SS} (hev : ev row.1 0 (q_ent row.1 (qR k :: vs)) [] σ = some (r, σ')) (hcs : cells ≤ 600000 ∧ slots ≤ 7302250) (hls : ls.size = 4) (hW : (rest.map fun v => v.category).sum ≤ 8) (hd : decode code pc = .ok (.invokevirtual idx, 3))
    (kk : ∀ H1 locs1, w_St ad cI cZ cK D s σ' H1 locs1 → (∀ v, r = some v → q_ok v) → W p l e room_1 s m #[Value.ref b] below meth c H1 locs1 cells slots Q (F0 m (pc + 3) ls ((r.map (q_cv ad)).toList ++ rest))) : W p l e room_1 s m #[Value.ref b] below meth c H locs cells slots Q (F0 m pc ls ((vs.map (q_cv ad)).reverse ++ .ref (ad k) :: rest)) := by
  obtain ⟨⟨hx, hb, hr, hml, hown, hts, hX, hbl, hlocks, hgv⟩, hK, hj, hE, hAA⟩ := hC
  obtain ⟨hP, hS, hσ⟩ := hst
  obtain ⟨g1, g2, g3, g4, g5, g6, g7⟩ := q_mt hrow
  have hi := g7 hkd
  have hMet := q_met (l := l) (cI := cI) (cZ := cZ) (cK := cK) (D := D) (adV := adV) hj (vs := qR k :: vs) ⟨row, hrow, rfl⟩ hsl hnl (List.forall_mem_cons.mpr ⟨trivial, hvs⟩) hσ hev
  obtain ⟨T, N, hcl⟩ := q_shc hsh
  have hat := q_wl_at (ad := ad) (cI := cI) (cZ := cZ) (cK := cK) (σ := σ) hsh
  rw [q_cell2] at hat
  have hrec := va_recv hK hP hcl hat
  have hgood : GoodIn lw_tbl (q_ws row.1) := fun w hw => ⟨gw_in (q_wsGood hrow w hw).1, (q_wsGood hrow w hw).2⟩
  refine q_go (va_runV (C := (mY row.1).cls) (n := n) (As := vs.map (q_cv ad)) (rest := rest) (R := room_1) ⟨hx, hb, hml, hown, hts⟩ hMet ⟨callB_of n hts hgood rfl rfl rfl (hts _ (gw_in g2)) (hts _ hlink) ⟨g4.1, g4.2, hn⟩ hfit, hts _ (gw_in hi.1), hts _ (gw_in hi.2)⟩ ⟨q_blind, by rw [g3]; exact hrec, fun U hU hW2 => ⟨rfl, by rw [hU]; exact hP, va_K.moved hW2.alike hK, by rw [hU]; exact hE.warm hW2 (fun a ha hna => hS.2.1 a ha (Nat.not_le.mpr ha))⟩⟩ rfl (by rw [List.length_map]; exact hlen) hls rfl (lv_room hW) hd ⟨hcs.1, hcs.2⟩) hS hAA (fun H1 locs1 a1 a2 a3 a4 => kk H1 locs1 ⟨a1, a4, a2⟩ a3)
def w_ld (p : Program) (l : Launch) (e : Env) (s : State) (m : MethodId) (below : List Frame) (meth : Method) (c : Code) (b cells slots : Nat) (ls : Array Slot) (ad : Nat → Nat) (Q : State → Prop) (pc pc' : Nat) (vs : List AV) : Prop := ∀ (H : Heap) (locs : List Jvm.Loc) (rest : List Value), va_S (fun q : Nat => s.heap.size ≤ q) s.heap H locs → W p l e room_1 s m #[Value.ref b] below meth c H locs cells slots Q (F0 m pc' ls ((vs.map (q_cv ad)).reverse ++ rest)) → W p l e room_1 s m #[Value.ref b] below meth c H locs cells slots Q (F0 m pc ls rest)
theorem w_ld0 : w_ld p l e s m below meth c b cells slots ls ad Q pc pc [] := fun _ _ _ _ h => h
theorem w_ldc {pc1 pc2 : Nat} {v : AV} {vs : List AV} (h1 : w_ld p l e s m below meth c b cells slots ls ad Q pc pc1 [v]) (h2 : w_ld p l e s m below meth c b cells slots ls ad Q pc1 pc2 vs) : w_ld p l e s m below meth c b cells slots ls ad Q pc pc2 (v :: vs) := by
  intro H locs rest hS h
  refine h1 H locs rest hS (h2 H locs _ hS ?_)
  have e : ((v :: vs).map (q_cv ad)).reverse ++ rest = (vs.map (q_cv ad)).reverse ++ (([v].map (q_cv ad)).reverse ++ rest) := by simp
  rw [← e]
  exact h
theorem w_int {i k : Nat} {kz : Int} (hC : w_Cx ad adV cI cZ cK D p s m meth c b L xs) (hL : L ≤ 256) (hi : i + k < L) (hk : kz = (k : Int)) (hl : lv_has ls 4 [(0, .ref b), (1, .ref (ad 0)), (2, .ref (ad 50)), (3, .int (i32 (i : Int)))]) (d0 : decode code pc = .ok (.aload_n 0, 1)) (d1 : decode code (pc + 1) = .ok (.iload_n 3, 1)) (d2 : decode code (pc + 2) = .ok (.iconst kz, 1)) (d3 : decode code (pc + 3) = .ok (.iadd, 1)) (d4 : decode code (pc + 4) = .ok (.iaload, 1)) : w_ld p l e s m below meth c b cells slots ls ad Q pc (pc + 5) [qI (xs (i + k)).toInt] := by
  obtain ⟨⟨hx, hb, hr, hml, hown, hts, hX, hbl, hlocks, hgv⟩, -⟩ := hC
  intro H locs rest hS h
  have hbA : ¬ (fun q : Nat => s.heap.size ≤ q) b := Nat.not_le.mpr hbl
  have e1 : i32 (i : Int) + i32 kz = i32 ((i + k : Nat) : Int) := by rw [i32_add, hk]; congr 1
  have e2 : (i32 ((i + k : Nat) : Int)).toInt = ((i + k : Nat) : Int) := i32_id (by omega)
  refine lv_aload_n hx hb d0 rfl (lv_at hl 0 rfl) ?_
  refine lv_iload_n hx hb d1 rfl (lv_at hl 3 rfl) ?_
  refine lv_iconst (v := i32 kz) hx hb d2 rfl ?_
  refine lv_iadd hx hb d3 ?_
  rw [e1]
  refine va_sld hx hb hX hbl hbA hS (i32_in e2 (by omega) (by omega)) d4 ?_
  rw [i32_clamp e2, Int.toNat_natCast]
  have h' : ([qI (xs (i + k)).toInt].map (q_cv ad)).reverse ++ rest = .int (xs (i + k)) :: rest := by
    show Value.int (i32 (xs (i + k)).toInt) :: rest = _
    rw [i32_toInt]
  rw [h'] at h
  exact h
theorem w_bool {i k : Nat} {kz : Int} (hC : w_Cx ad adV cI cZ cK D p s m meth c b L xs) (hL : L ≤ 256) (hi : i + k < L) (hk : kz = (k : Int)) (hl : lv_has ls 4 [(0, .ref b), (1, .ref (ad 0)), (2, .ref (ad 50)), (3, .int (i32 (i : Int)))]) (d0 : decode code pc = .ok (.aload_n 0, 1)) (d1 : decode code (pc + 1) = .ok (.iload_n 3, 1)) (d2 : decode code (pc + 2) = .ok (.iconst kz, 1)) (d3 : decode code (pc + 3) = .ok (.iadd, 1)) (d4 : decode code (pc + 4) = .ok (.iaload, 1)) (d5 : decode code (pc + 5) = .ok (.ifCond .eq 7, 3)) (d8 : decode code (pc + 8) = .ok (.iconst 1, 1)) (d9 : decode code (pc + 9) = .ok (.goto 4, 3)) (d12 : decode code (pc + 12) = .ok (.iconst 0, 1)) : w_ld p l e s m below meth c b cells slots ls ad Q pc (pc + 13) [qI (if xs (i + k) = 0 then 0 else 1)] := by
  intro H locs rest hS h
  have hI := w_int (l := l) (e := e) (below := below) (cells := cells) (slots := slots) (Q := Q) hC hL hi hk hl d0 d1 d2 d3 d4
  obtain ⟨⟨hx, hb, hr, hml, hown, hts, hX, hbl, hlocks, hgv⟩, -⟩ := hC
  refine hI H locs rest hS ?_
  have h' : ([qI (xs (i + k)).toInt].map (q_cv ad)).reverse ++ rest = .int (xs (i + k)) :: rest := by
    show Value.int (i32 (xs (i + k)).toInt) :: rest = _
    rw [i32_toInt]
  rw [h']
  refine lv_if_eq (tgt := pc + 12) hx hb d5 (by omega) (fun hz => ?_) (fun hz => ?_)
  · refine lv_iconst (v := i32 0) hx hb d12 rfl ?_
    rw [if_pos hz] at h
    exact h
  · refine lv_iconst (v := i32 1) hx hb d8 rfl ?_
    refine lv_goto (tgt := pc + 13) hx hb d9 (by omega) ?_
    rw [if_neg hz] at h
    exact h
/-- a case of the law: class and model are called alike, and answer alike -/
theorem w_case {v3 : Int32} (hC : w_Cx ad adV cI cZ cK D p s m meth c b L xs) (hst : w_St ad cI cZ cK D s σ H locs) {N : Int} (hcs : cells ≤ 600000 ∧ slots ≤ 7302250) (hl : lv_has ls 4 [(0, .ref b), (1, .ref (ad 0)), (2, .ref (ad 50)), (3, .int v3)])
    {rc rm : Nat × Nat × Nat × Nat × Nat × Nat} (hrc : rc ∈ mtT) (hrm : rm ∈ mtT) (kc : ¬ rc.2.2.2.1 = 1 ∧ mO rc.1 = 8) (km : ¬ rm.2.2.2.1 = 1 ∧ mO rm.1 = 9) {ic im n : Nat} {vs : List AV} (hlc : Cond.methodLink R_law ic (mY rc.1) ∈ lw_tbl) (hlm : Cond.methodLink R_law im (mY rm.1) ∈ lw_tbl) (hnc : q_par rc.1 = some n) (hnm : q_par rm.1 = some n) (hlen : vs.length = n) (hfc : mF rc.1 + 1 ≤ 11 ∧ 8 + (mL rc.1 + 11) + mW rc.1 ≤ 386) (hfm : mF rm.1 + 1 ≤ 11 ∧ 8 + (mL rm.1 + 11) + mW rm.1 ≤ 386) (hsc : n + 1 ≤ mL rc.1) (hsm : n + 1 ≤ mL rm.1) (hvz : ∀ v ∈ vs, ∃ z, v = qI z ∧ q_ok v)
    (hop : Op rc.1 rm.1 (q_ent rc.1 (qR 0 :: vs)) (q_ent rm.1 (qR 50 :: vs)) σ N)
    {p0 p1 p2 : Nat} {off : Int} (d0 : decode code p0 = .ok (.aload_n 1, 1)) (ld1 : w_ld p l e s m below meth c b cells slots ls ad Q (p0 + 1) p1 vs) (d1 : decode code p1 = .ok (.invokevirtual ic, 3)) (d2 : decode code (p1 + 3) = .ok (.aload_n 2, 1)) (ld2 : w_ld p l e s m below meth c b cells slots ls ad Q (p1 + 4) p2 vs) (d3 : decode code p2 = .ok (.invokevirtual im, 3)) (d4 : decode code (p2 + 3) = .ok (.if_icmp .eq off, 3)) (ho : ((p2 + 3 : Nat) : Int) + off = ((1088 : Nat) : Int))
    (kk : ∀ H1 locs1 σ', w_St ad cI cZ cK D s σ' H1 locs1 → RR σ' (N + 999) → W p l e room_1 s m #[Value.ref b] below meth c H1 locs1 cells slots Q (F0 m 1088 ls [])) : W p l e room_1 s m #[Value.ref b] below meth c H locs cells slots Q (F0 m p0 ls []) := by
  obtain ⟨a, σ1, σ2, e1, e2, hR⟩ := hop
  have hvs : ∀ v ∈ vs, q_ok v := fun v hv => by obtain ⟨z, -, h⟩ := hvz v hv; exact h
  have hvi : ∀ v ∈ vs, ∃ z, v = qI z := fun v hv => by obtain ⟨z, h, -⟩ := hvz v hv; exact ⟨z, h⟩
  obtain ⟨σ3, e3, e4⟩ := ev_both (ent_ok (by unfold P_c; omega) hvi) (ent_ok (by unfold P_m; omega) hvi) e1 e2
  have hsl : ∀ k, (q_sl (qR k :: vs)).length = n + 1 := by
    intro k
    have : ∀ w : List AV, (∀ v ∈ w, ∃ z, v = qI z) → (q_sl w).length = w.length := by
      intro w
      induction w with
      | nil => intro _; rfl
      | cons x w ih =>
        intro hw
        obtain ⟨z, rfl⟩ := hw x List.mem_cons_self
        have e : q_sl (qI z :: w) = qI z :: q_sl w := by simp [q_sl, q_isL]
        rw [e, List.length_cons, List.length_cons, ih (fun v hv => hw v (List.mem_cons_of_mem _ hv))]
    have e : q_sl (qR k :: vs) = qR k :: q_sl vs := by simp [q_sl, q_isL]
    rw [e, List.length_cons, this vs hvi, hlen]
  have hnl : ∀ mi k, q_nl mi (qR k :: vs) = true := by
    intro mi k
    unfold q_nl
    rw [Bool.or_eq_true]
    right
    rw [List.all_eq_true]
    intro v hv
    rcases List.mem_cons.mp hv with rfl | hv
    · rfl
    · obtain ⟨z, rfl⟩ := hvi v hv
      rfl
  obtain ⟨⟨hx, hb, hr, hml, hown, hts, hX, hbl, hlocks, hgv⟩, -⟩ := id hC
  have sh0 : qsh 0 = some (2, mO rc.1, (qsh 0).get!.2.2) := by rw [kc.2]; decide +kernel
  have sh1 : qsh 50 = some (2, mO rm.1, (qsh 50).get!.2.2) := by rw [km.2]; decide +kernel
  refine lv_aload_n hx hb d0 rfl (lv_at hl 1 rfl) ?_
  refine ld1 H locs _ hst.2.1 ?_
  refine w_call hC hst hrc kc.1 sh0 hlc hnc hlen hfc (by rw [hsl]; exact hsc) (hnl _ _) hvs e1 hcs hl.1 (by decide) d1 (fun H1 locs1 hst1 ha => ?_)
  refine lv_aload_n hx hb d2 rfl (lv_at hl 2 rfl) ?_
  refine ld2 H1 locs1 _ hst1.2.1 ?_
  refine w_call hC hst1 hrm km.1 sh1 hlm hnm hlen hfm (by rw [hsl]; exact hsm) (hnl _ _) hvs e3 hcs hl.1 (Nat.le_of_ble_eq_true rfl) d3 (fun H2 locs2 hst2 ha2 => ?_)
  refine lv_icmp_eq (tgt := 1088) hx hb d4 ho (fun _ => ?_) (fun hno => absurd rfl hno)
  exact kk H2 locs2 σ3 hst2 (RR_ext hR e4)
end LW
