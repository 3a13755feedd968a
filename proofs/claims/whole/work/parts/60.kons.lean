/-! ===== THE CONSTRUCTORS: rows for what they do ===== -/
def k_ws (y : MethodName) (cc : ByteArray) (n : Nat) : List Cond := .code y cc n none :: gw
theorem k_good {y : MethodName} {cc : ByteArray} {n : Nat} (h : Cond.code y cc n none ∈ lw_tbl) : GoodIn gw (k_ws y cc n) := by
  refine gw_goodIn ?_
  intro w hw
  rcases List.mem_cons.mp hw with rfl | h2
  · exact List.mem_filter.mpr ⟨h, rfl⟩
  · exact h2
def k_Cx (cI cZ cK : ClassId) (D : va_G) (p : Program) (s : State) (m : MethodId) (args : Array Value) (meth : Method) (c : Code) (cc : ByteArray) (nL o : Nat) : Prop :=
  p.tables.exec = Jvm.exec ∧ c.code = cc ∧ c.maxLocals = nL ∧ meth.sig.returnType = none ∧ s.vm.findClass (cN o) = some m.cls ∧ (∀ w ∈ gw, w.before args s = true) ∧ meth.locks = false ∧ va_K D vwCl (q_tys cI cZ cK) s
def k_At (D : va_G) (A : Nat → Prop) (H0 H : Heap) (locs : List Jvm.Loc) (ws : va_W) : Prop := va_P D vwCl ws H ∧ va_D A ws ∧ va_S A H0 H locs
theorem k_oi : Cond.instanceMethod objectInit ∈ gw := (gw_of 107 (by decide +kernel) rfl)
theorem k_oc : Cond.code objectInit ⟨#[0xb1]⟩ 1 none ∈ gw := List.mem_filter.mpr ⟨(lwt_1 (List.mem_of_getElem? (i := 25) rfl)), rfl⟩
theorem k_ai : Cond.arrayClass .int ∈ gw := (gw_of 144 (by decide +kernel) rfl)
theorem k_az : Cond.arrayClass .boolean ∈ gw := (gw_of 346 (by decide +kernel) rfl)
section KK
variable {cI cZ cK : ClassId} {D : va_G} {p : Program} {l : Launch} {e : Env} {R : Room} {s : State} {m : MethodId} {args : Array Value} {below : List Frame} {meth : Method} {c : Code} {cc : ByteArray} {nL o : Nat} {H : Heap} {locs : List Jvm.Loc} {cells slots : Nat} {Q : State → Prop} {A : Nat → Prop} {H0 : Heap} {ws : va_W} {pc : Nat} {ls : Array Slot} {rest : List Value}
theorem k_putF (hC : k_Cx cI cZ cK D p s m args meth c cc nL o) (hin : meth.name = "<init>") (hA : k_At D A H0 H locs ws) (q0 : Nat) {idx ci j a : Nat} {fs : List Value} {v : Value} (hf : flk o idx = some (ci, j)) (hfin : q_fin ci j = true) (hdecl : ∀ q, vwCl[ci]? = some q → (q.2.1 j).1 = cN o) (hws : ws[q0]? = some (a, .inr (ci, fs))) (hj : j < fs.length) (hn : narrow (q_cty ci j) v = v) (hfit : fits (q_cty ci j) v = true) (hd : decode cc pc = .ok (.putfield idx, 3))
    (kk : ∀ H1 locs1, k_At D A H0 H1 locs1 (ws.set q0 (a, .inr (ci, fs.set j v))) → W p l e R s m args below meth c H1 locs1 cells slots Q (F0 m (pc + 3) ls rest)) : W p l e R s m args below meth c H locs cells slots Q (F0 m pc ls (v :: .ref a :: rest)) := by
  obtain ⟨hx, hb, hml, hr, hown, hts, hlk, hK⟩ := hC
  obtain ⟨hP, hD, hS⟩ := hA
  obtain ⟨C, T, N, hcl, hjN, hlink⟩ := q_flk hf
  obtain ⟨g1, g2, g3, -, -⟩ := q_cls hcl
  have hfin2 : (T j).2.2.2 = true := by
    unfold q_fin at hfin
    rw [hcl] at hfin
    exact hfin
  exact va_putF (D := D) (ci := ci) (v := v) (ty := q_cty ci j) (C := C) (T := T) (N := N) hx hb hts g1 (q_cty ci) g2 g3 hown hK hP hD hS q0 hws hcl j hjN (hts _ hlink) (fun _ h9 => h9) hfin2 hin (hdecl _ hcl) (g2 j hjN) hn hfit hj hd (fun H1 locs1 hP1 hD1 hS1 => kk H1 locs1 ⟨hP1, hD1, hS1⟩)
theorem k_put (hC : k_Cx cI cZ cK D p s m args meth c cc nL o) (hA : k_At D A H0 H locs ws) (q0 : Nat) {idx ci j a : Nat} {fs : List Value} {v : Value} (hf : flk o idx = some (ci, j)) (hfin : q_fin ci j = false) (hws : ws[q0]? = some (a, .inr (ci, fs))) (hj : j < fs.length) (hn : narrow (q_cty ci j) v = v) (hfit : fits (q_cty ci j) v = true) (hd : decode cc pc = .ok (.putfield idx, 3))
    (kk : ∀ H1 locs1, k_At D A H0 H1 locs1 (ws.set q0 (a, .inr (ci, fs.set j v))) → W p l e R s m args below meth c H1 locs1 cells slots Q (F0 m (pc + 3) ls rest)) : W p l e R s m args below meth c H locs cells slots Q (F0 m pc ls (v :: .ref a :: rest)) := by
  obtain ⟨hx, hb, hml, hr, hown, hts, hlk, hK⟩ := hC
  obtain ⟨hP, hD, hS⟩ := hA
  obtain ⟨C, T, N, hcl, hjN, hlink⟩ := q_flk hf
  obtain ⟨g1, g2, g3, -, -⟩ := q_cls hcl
  have hfin2 : (T j).2.2.2 = false := by
    unfold q_fin at hfin
    rw [hcl] at hfin
    exact hfin
  exact va_put (D := D) (ci := ci) (v := v) (ty := q_cty ci j) (C := C) (T := T) (N := N) hx hb hts g1 (q_cty ci) g2 g3 hown hK hP hD hS q0 hws hcl j hjN (hts _ hlink) (fun _ h9 => h9) hfin2 (g2 j hjN) hn hfit hj hd (fun H1 locs1 hP1 hD1 hS1 => kk H1 locs1 ⟨hP1, hD1, hS1⟩)
theorem k_get (hC : k_Cx cI cZ cK D p s m args meth c cc nL o) (hA : k_At D A H0 H locs ws) (q0 : Nat) {idx ci j a : Nat} {fs : List Value} {v : Value} (hf : flk o idx = some (ci, j)) (hws : ws[q0]? = some (a, .inr (ci, fs))) (hv : fs[j]? = some v) (hd : decode cc pc = .ok (.getfield idx, 3))
    (kk : W p l e R s m args below meth c H locs cells slots Q (F0 m (pc + 3) ls (v :: rest))) : W p l e R s m args below meth c H locs cells slots Q (F0 m pc ls (.ref a :: rest)) := by
  obtain ⟨hx, hb, hml, hr, hown, hts, hlk, hK⟩ := hC
  obtain ⟨hP, hD, hS⟩ := hA
  obtain ⟨C, T, N, hcl, hjN, hlink⟩ := q_flk hf
  obtain ⟨g1, g2, g3, -, -⟩ := q_cls hcl
  exact va_get (D := D) (ci := ci) (v := v) (C := C) (T := T) (N := N) hx hb hts g1 hown hK hP q0 hws hcl j hjN (hts _ hlink) (fun _ h9 => h9) hv hd kk
theorem k_newI (hC : k_Cx cI cZ cK D p s m args meth c cc nL o) (hA : k_At D A H0 H locs ws) (hH : ∀ q, H0.size ≤ q → A q) {n : Int32} {N : Nat} (hn : ¬ n < 0) (hN : n.toNatClampNeg = N) (hN4 : N ≤ 1000) (hcells : cells + 1 ≤ R.cells) (hslots : slots + N ≤ R.slots) (hd : decode cc pc = .ok (.newarray .int, 2))
    (kk : ∀ q H1, k_At D A H0 H1 locs (ws ++ [(q, .inl (cI, N, .inl (fun _ => i32 0)))]) → W p l e R s m args below meth c H1 locs (cells + 1) (slots + N) Q (F0 m (pc + 2) ls (.ref q :: rest))) : W p l e R s m args below meth c H locs cells slots Q (F0 m pc ls (.int n :: rest)) := by
  obtain ⟨hx, hb, hml, hr, hown, hts, hlk, hK⟩ := hC
  obtain ⟨hP, hD, hS⟩ := hA
  refine va_newa (atype := .int) (ty := .int) (N' := N) (a0 := (N, .inl (fun _ => i32 0))) hx hb (hts _ k_ai) rfl hK hP hD hS hH (fun cA => by rw [vp_cell_i, i32_0]; rfl) hn hN (by show N * 4 ≤ _; omega) hcells hslots hd (fun q cA H1 hK1 hP1 hD1 hS1 => ?_)
  have e : cA = cI := by
    have h1 : va_RA s cA .int := (hK1.2 3 (cA, .int) rfl).2
    have h2 : va_RA s cI .int := (hK.2 0 (cI, .int) rfl).2
    exact Option.some.inj (h1.symm.trans h2)
  subst e
  exact kk q H1 ⟨hP1, hD1, hS1⟩
theorem k_newZ (hC : k_Cx cI cZ cK D p s m args meth c cc nL o) (hA : k_At D A H0 H locs ws) (hH : ∀ q, H0.size ≤ q → A q) {n : Int32} {N : Nat} (hn : ¬ n < 0) (hN : n.toNatClampNeg = N) (hN4 : N ≤ 1000) (hcells : cells + 1 ≤ R.cells) (hslots : slots + N ≤ R.slots) (hd : decode cc pc = .ok (.newarray .boolean, 2))
    (kk : ∀ q H1, k_At D A H0 H1 locs (ws ++ [(q, .inl (cZ, N, .inl (fun _ => i32 0)))]) → W p l e R s m args below meth c H1 locs (cells + 1) (slots + N) Q (F0 m (pc + 2) ls (.ref q :: rest))) : W p l e R s m args below meth c H locs cells slots Q (F0 m pc ls (.int n :: rest)) := by
  obtain ⟨hx, hb, hml, hr, hown, hts, hlk, hK⟩ := hC
  obtain ⟨hP, hD, hS⟩ := hA
  refine va_newa (atype := .boolean) (ty := .boolean) (N' := N) (a0 := (N, .inl (fun _ => i32 0))) hx hb (hts _ k_az) rfl hK hP hD hS hH (fun cA => by rw [vp_cell_i, i32_0]; rfl) hn hN (by show N * 1 ≤ _; omega) hcells hslots hd (fun q cA H1 hK1 hP1 hD1 hS1 => ?_)
  have e : cA = cZ := by
    have h1 : va_RA s cA .boolean := (hK1.2 3 (cA, .boolean) rfl).2
    have h2 : va_RA s cZ .boolean := (hK.2 1 (cZ, .boolean) rfl).2
    exact Option.some.inj (h1.symm.trans h2)
  subst e
  exact kk q H1 ⟨hP1, hD1, hS1⟩
theorem k_newQ (hC : k_Cx cI cZ cK D p s m args meth c cc nL o) (hA : k_At D A H0 H locs ws) (hH : ∀ q, H0.size ≤ q → A q) (hO : va_AO "SlipperFits$Night" s) {idx : Nat} (hcl : Cond.classLink (cN o) idx "SlipperFits$Night" ∈ gw) {n : Int32} {N : Nat} (hn : ¬ n < 0) (hN : n.toNatClampNeg = N) (hN4 : N ≤ 1000) (hcells : cells + 1 ≤ R.cells) (hslots : slots + N ≤ R.slots) (hd : decode cc pc = .ok (.anewarray idx, 3))
    (kk : ∀ q H1, k_At D A H0 H1 locs (ws ++ [(q, .inl (cK, N, .inr (.inr (.inr (.inr (fun _ => none))))))]) → W p l e R s m args below meth c H1 locs (cells + 1) (slots + N) Q (F0 m (pc + 3) ls (.ref q :: rest))) : W p l e R s m args below meth c H locs cells slots Q (F0 m pc ls (.int n :: rest)) := by
  obtain ⟨hx, hb, hml, hr, hown, hts, hlk, hK⟩ := hC
  obtain ⟨hP, hD, hS⟩ := hA
  refine va_newq (C := "SlipperFits$Night") hx hb hown (hts _ hcl) hO hK hP hD hS hH hn hN (by omega) hcells hslots hd (fun q cA H1 hK1 hP1 hD1 hS1 => ?_)
  have e : cA = cK := by
    obtain ⟨kA, comp, -, -, -, h1⟩ := (hK1.2 3 (cA, .object "SlipperFits$Night") rfl).2
    obtain ⟨kB, comp2, -, -, -, h2⟩ := (hK.2 2 (cK, .object "SlipperFits$Night") rfl).2
    exact Option.some.inj (h1.symm.trans h2)
  subst e
  exact kk q H1 ⟨hP1, hD1, hS1⟩
theorem k_new (hC : k_Cx cI cZ cK D p s m args meth c cc nL o) (hA : k_At D A H0 H locs ws) (hH : ∀ q, H0.size ≤ q → A q) {idx ci N : Nat} {C : String} {T : u_T} {fs : List Value} (hc : vwCl[ci]? = some (C, T, N)) (hcl : Cond.classLink (cN o) idx C ∈ gw) (hinst : Cond.instantiable C N ∈ gw) (hini : Cond.initialized C ∈ gw) (hfs : ∀ j, j < N → defaultValue (q_cty ci j) = vp_V fs j) (hcells : cells + 1 ≤ R.cells) (hslots : slots + N ≤ R.slots) (hd : decode cc pc = .ok (.new idx, 3))
    (kk : ∀ q H1, k_At D A H0 H1 locs (ws ++ [(q, .inr (ci, fs))]) → W p l e R s m args below meth c H1 locs (cells + 1) (slots + N) Q (F0 m (pc + 3) ls (.ref q :: rest))) : W p l e R s m args below meth c H locs cells slots Q (F0 m pc ls rest) := by
  obtain ⟨hx, hb, hml, hr, hown, hts, hlk, hK⟩ := hC
  obtain ⟨hP, hD, hS⟩ := hA
  obtain ⟨g1, g2, g3, -, -⟩ := q_cls hc
  exact va_new (ci := ci) (fs := fs) (C := C) (T := T) (N := N) hx hb hts g1 (q_cty ci) g2 hown (hts _ hcl) (hts _ hinst) (hts _ hini) hK hP hD hS hH hc hfs hcells hslots hd (fun q H1 hP1 hD1 hS1 => kk q H1 ⟨hP1, hD1, hS1⟩)
theorem k_obj (hC : k_Cx cI cZ cK D p s m args meth c cc nL o) {idx a : Nat} (hl : Cond.methodLink (cN o) idx objectInit ∈ gw) (hls : ls.size = nL) (hf : 1 ≤ R.frames) (hw : 12 ≤ R.locals) (hd : decode cc pc = .ok (.invokespecial idx, 3)) (kk : W p l e R s m args below meth c H locs cells slots Q (F0 m (pc + 3) ls [])) : W p l e R s m args below meth c H locs cells slots Q (F0 m pc ls [.ref a]) := by
  obtain ⟨hx, hb, hml, hr, hown, hts, hlk, hK⟩ := hC
  exact W.objInit hx hb hown (hts _ hl) (hts _ k_oi) (hts _ k_oc) rfl (by rw [hml]; exact hls) rfl hd hf hw (W.eq (g2 := F0 m (pc + 3) ls []) rfl kk)
theorem k_ald {i : Fin 4} {k a : Nat} (hC : k_Cx cI cZ cK D p s m args meth c cc nL o) (hd : decode cc pc = .ok (.aload_n i, 1)) (hk : (i : Nat) = k) (hl : ls[k]? = some (.val (.ref a))) (kk : W p l e R s m args below meth c H locs cells slots Q (F0 m (pc + 1) ls (.ref a :: rest))) : W p l e R s m args below meth c H locs cells slots Q (F0 m pc ls rest) := lv_aload_n hC.1 hC.2.1 hd hk hl kk
/-- a push of a number -/
theorem k_psh {ins : Instr} {len : Nat} {z : Int} (hC : k_Cx cI cZ cK D p s m args meth c cc nL o) (hd : decode cc pc = .ok (ins, len)) (hi : (ins = .iconst z ∧ len = 1 ∧ Int32.ofInt z = i32 z) ∨ (ins = .bipush z ∧ len = 2 ∧ (Int8.ofInt z).toInt32 = i32 z) ∨ (ins = .sipush z ∧ len = 3 ∧ (Int16.ofInt z).toInt32 = i32 z)) (kk : W p l e R s m args below meth c H locs cells slots Q (F0 m (pc + len) ls (.int (i32 z) :: rest))) : W p l e R s m args below meth c H locs cells slots Q (F0 m pc ls rest) := by
  rcases hi with ⟨rfl, rfl, h⟩ | ⟨rfl, rfl, h⟩ | ⟨rfl, rfl, h⟩
  · exact lv_iconst hC.1 hC.2.1 hd h kk
  · exact lv_bipush hC.1 hC.2.1 hd h kk
  · exact lv_sipush hC.1 hC.2.1 hd h kk
end KK
