/-! ===== THE CONSTRUCTORS: calls of theirs ===== -/
def k_Pc (D : va_G) (cI cZ cK : ClassId) (av : List Value) (sz : Nat) (W0 : va_W) : Array Value → State → Prop := va_Pc av (fun U => U.heap.size = sz ∧ va_P D vwCl W0 U.heap ∧ va_K D vwCl (q_tys cI cZ cK) U ∧ va_D (fun _ => True) W0 ∧ va_AO "SlipperFits$Night" U)
def k_Qc (D : va_G) (sz : Nat) (W0 : va_W) (ex : va_W → Prop) : Array Value → State → Outcome → State → Prop := va_Qv (fun _ : Unit => True) (fun _ t => ∃ w, ex w ∧ va_P D vwCl w t.heap ∧ va_D (va_A W0 sz) w) (va_A W0 sz)
def k_Met (l : Launch) (D : va_G) (cI cZ cK : ClassId) (y : MethodName) (cc : ByteArray) (n : Nat) (rm : Room) (av : List Value) (W0 : va_W) (ex : va_W → Prop) (mc ms : Nat) : Prop := ∀ sz, Met l y (k_ws y cc n) rm (k_Pc D cI cZ cK av sz W0) (k_Qc D sz W0 ex) mc ms (va_A W0 sz)
theorem k_blind {D : va_G} {cI cZ cK : ClassId} {av : List Value} {sz : Nat} {W0 : va_W} : FrameBlind (k_Pc D cI cZ cK av sz W0) := by
  intro a U g mk q
  obtain ⟨q0, q1, qP, qK, qD, qO⟩ := q
  exact ⟨q0, q1, qP, va_K.moved (u := U) (U := U.calling g mk a) (Vm.Alike.refl U.vm) qK, qD, va_AO.moved (u := U) (U := U.calling g mk a) (Vm.Alike.refl U.vm) qO⟩
section KC
variable {cI cZ cK : ClassId} {D : va_G} {p : Program} {l : Launch} {e : Env} {R : Room} {s : State} {m : MethodId} {args : Array Value} {below : List Frame} {meth : Method} {c : Code} {cc : ByteArray} {nL o : Nat} {H : Heap} {locs : List Jvm.Loc} {cells slots : Nat} {Q : State → Prop} {A : Nat → Prop} {H0 : Heap} {ws : va_W} {pc : Nat} {ls : Array Slot} {rest : List Value}
theorem k_At.sub {ws' : va_W} (h : k_At D A H0 H locs ws) (is : List Nat) (hn : va_nd is = true) (hs : is.map (fun i => ws[i]?) = ws'.map some) (hf : is.filterMap (fun i => ws[i]?) = ws') : k_At D A H0 H locs ws' := ⟨h.1.sub is hf, h.2.1.sub is hn hs, h.2.2⟩
/-- a constructor's call: its object stands last among the cells -/
theorem k_callI (hC : k_Cx cI cZ cK D p s m args meth c cc nL o) (hA : k_At D A H0 H locs ws) (hH : ∀ q, H0.size ≤ q → A q) (hO : va_AO "SlipperFits$Night" s) {y : MethodName} {bytes : ByteArray} {maxL n idx mc ms b : Nat} {rm : Room} {As : List Value} {ob : va_E} {wr : va_W} {ex : va_W → Prop}
    (hM : k_Met l D cI cZ cK y bytes maxL rm (.ref b :: As) [(b, ob)] ex mc ms) (hcode : Cond.code y bytes maxL none ∈ lw_tbl) (hrc : rm.cells = mc) (hrs : rm.slots = ms) (hini : Cond.initialized y.cls ∈ gw) (hlk : Cond.methodLink (cN o) idx y ∈ gw) (him : Cond.instanceMethod y ∈ gw) (hy : y.name = "<init>")
    (hd : y.cls ≠ "java/lang/invoke/MethodHandle" ∧ y.cls ≠ "java/lang/invoke/VarHandle" ∧ (parseMethodDescriptor y.desc).map (fun d => d.parameters.length) = some n) (hR : rm.frames + 1 ≤ R.frames ∧ 8 + (maxL + 11) + rm.locals ≤ R.locals) (hAs : As.length = n) (hls : ls.size = nL) (hW : (rest.map fun v => v.category).sum ≤ 8) (hdg : decode cc pc = .ok (.invokespecial idx, 3)) (hf : cells + mc ≤ R.cells ∧ slots + ms ≤ R.slots)
    (k : Nat) (hk : ws[k]? = some (b, ob)) (isR : List Nat) (hRR : isR.map (fun i => ws[i]?) = wr.map some) (hnd : va_nd isR = true) (hdis : ∀ i ∈ isR, i ∉ [k])
    (kk : ∀ w H1 locs1, ex w → k_At D A H0 H1 locs1 (wr ++ w) → W p l e R s m args below meth c H1 locs1 (cells + mc) (slots + ms) Q (F0 m (pc + 3) ls rest)) : W p l e R s m args below meth c H locs cells slots Q (F0 m pc ls (As.reverse ++ .ref b :: rest)) := by
  obtain ⟨hx, hb, hml, hr, hown, hts, hlks, hK⟩ := hC
  obtain ⟨hP, hD, hS⟩ := hA
  have hs1 : [k].map (fun i => ws[i]?) = [(b, ob)].map some := by simp [hk]
  have hs2 : [k].filterMap (fun i => ws[i]?) = [(b, ob)] := by simp [hk]
  have hPc := hP.sub (ws' := [(b, ob)]) [k] hs2
  have hDc := hD.sub (ws' := [(b, ob)]) [k] rfl hs1
  have hFc := va_free (wc := [(b, ob)]) hD hS hH [k] hs1
  refine va_callv (va_runI (As := As) (rest := rest) ⟨hx, hb, hml, hown, hts⟩ (hM H.size) (cwI n hts (k_good hcode) rfl hrc hrs (hts _ hini) (hts _ hlk) (hts _ him) hy hd hR) ⟨k_blind, fun U hU hW2 => ⟨rfl, by rw [hU], by rw [hU]; exact hPc, va_K.moved hW2.alike hK, hDc.weaken (fun _ _ _ _ => trivial), va_AO.moved hW2.alike hO⟩⟩ rfl hAs hls rfl (lv_room hW) hdg hf) hS (fun q _ h => hFc q h) hFc (fun u t H1 locs1 ht hvm hw hB hz1 hk1 hS1 => ?_)
  obtain ⟨w, hex, hP1, hD1⟩ := hB
  rw [ht] at hP1
  obtain ⟨hP2, hD2⟩ := va_join (wr := wr) (w1 := w) hP hD [k] isR hs1 hRR hnd hdis hk1 hFc hP1 hD1
  exact kk w H1 locs1 hex ⟨hP2, hD2, hS1⟩
/-- a method's call on one object -/
theorem k_callV (hC : k_Cx cI cZ cK D p s m args meth c cc nL o) (hA : k_At D A H0 H locs ws) (hH : ∀ q, H0.size ≤ q → A q) (hO : va_AO "SlipperFits$Night" s) {y : MethodName} {bytes : ByteArray} {maxL idx mc ms b ci : Nat} {fs : List Value} {rm : Room} {wr : va_W} {ex : va_W → Prop} {r : vw_C}
    (hM : k_Met l D cI cZ cK y bytes maxL rm [.ref b] [(b, .inr (ci, fs))] ex mc ms) (hcode : Cond.code y bytes maxL none ∈ lw_tbl) (hrc : rm.cells = mc) (hrs : rm.slots = ms) (hini : Cond.initialized y.cls ∈ gw) (hlk : Cond.methodLink (cN o) idx y ∈ gw) (him : Cond.instanceMethod y ∈ gw) (hsel : Cond.selects y.cls y y ∈ gw) (hcl : vwCl[ci]? = some r) (hcr : r.1 = y.cls)
    (hd : y.cls ≠ "java/lang/invoke/MethodHandle" ∧ y.cls ≠ "java/lang/invoke/VarHandle" ∧ (parseMethodDescriptor y.desc).map (fun d => d.parameters.length) = some 0) (hR : rm.frames + 1 ≤ R.frames ∧ 8 + (maxL + 11) + rm.locals ≤ R.locals) (hls : ls.size = nL) (hW : (rest.map fun v => v.category).sum ≤ 8) (hdg : decode cc pc = .ok (.invokevirtual idx, 3)) (hf : cells + mc ≤ R.cells ∧ slots + ms ≤ R.slots)
    (k : Nat) (hk : ws[k]? = some (b, .inr (ci, fs))) (isR : List Nat) (hRR : isR.map (fun i => ws[i]?) = wr.map some) (hnd : va_nd isR = true) (hdis : ∀ i ∈ isR, i ∉ [k])
    (kk : ∀ w H1 locs1, ex w → k_At D A H0 H1 locs1 (wr ++ w) → W p l e R s m args below meth c H1 locs1 (cells + mc) (slots + ms) Q (F0 m (pc + 3) ls rest)) : W p l e R s m args below meth c H locs cells slots Q (F0 m pc ls (.ref b :: rest)) := by
  obtain ⟨hx, hb, hml, hr, hown, hts, hlks, hK⟩ := hC
  obtain ⟨hP, hD, hS⟩ := hA
  have hs1 : [k].map (fun i => ws[i]?) = [(b, Sum.inr (ci, fs))].map some := by simp [hk]
  have hs2 : [k].filterMap (fun i => ws[i]?) = [(b, Sum.inr (ci, fs))] := by simp [hk]
  have hPc := hP.sub (ws' := [(b, .inr (ci, fs))]) [k] hs2
  have hDc := hD.sub (ws' := [(b, .inr (ci, fs))]) [k] rfl hs1
  have hFc := va_free (wc := [(b, .inr (ci, fs))]) hD hS hH [k] hs1
  refine va_callv (va_runV (C := y.cls) (n := 0) (As := []) (rest := rest) ⟨hx, hb, hml, hown, hts⟩ (hM H.size) ⟨callB_of 0 hts (k_good hcode) rfl hrc hrs (hts _ hini) (hts _ hlk) hd hR, hts _ him, hts _ hsel⟩ ⟨k_blind, by rw [← hcr]; exact va_recv hK hP hcl hk, fun U hU hW2 => ⟨rfl, by rw [hU], by rw [hU]; exact hPc, va_K.moved hW2.alike hK, hDc.weaken (fun _ _ _ _ => trivial), va_AO.moved hW2.alike hO⟩⟩ rfl rfl hls rfl (lv_room hW) hdg hf) hS (fun q _ h => hFc q h) hFc (fun u t H1 locs1 ht hvm hw hB hz1 hk1 hS1 => ?_)
  obtain ⟨w, hex, hP1, hD1⟩ := hB
  rw [ht] at hP1
  obtain ⟨hP2, hD2⟩ := va_join (wr := wr) (w1 := w) hP hD [k] isR hs1 hRR hnd hdis hk1 hFc hP1 hD1
  exact kk w H1 locs1 hex ⟨hP2, hD2, hS1⟩
/-- a constructor's end -/
theorem k_ret {W0 : va_W} {ex : va_W → Prop} {mc ms : Nat} (hC : k_Cx cI cZ cK D p s m args meth c cc nL o) (hA : k_At D (va_A W0 s.heap.size) s.heap H locs ws) (hex : ex ws) (hc : cells ≤ mc) (hs : slots ≤ ms) (hd : decode cc pc = .ok (.return_, 1)) : W p l e R s m args below meth c H locs cells slots (MQ below (k_Qc D s.heap.size W0 ex) args s mc ms (va_A W0 s.heap.size)) (F0 m pc ls []) := by
  obtain ⟨hx, hb, hml, hr, hown, hts, hlocks, hK⟩ := hC
  refine W.widen (k := mc) (n := ms) hc hs ?_
  exact W.vret hx hb hr (fun t ht hW => ⟨⟨(), rfl, trivial, ws, hex, by rw [ht]; exact hA.1, hA.2.1⟩, hA.2.2.F ht⟩) hA.2.2.2.2 hd
/-- a constructor's beginning -/
theorem k_begin {y : MethodName} {cc : ByteArray} {nL o mc ms : Nat} {rm : Room} {av : List Value} {W0 : va_W} {ex : va_W → Prop} {lv : List (Nat × Value)} (hy : plainName y.cls = true) (ho : y.cls = cN o) (hlen : (lg_sl av).length ≤ nL) (hlv : lv_args 0 av = lv)
    (body : ∀ (p : Program) (e : Env) (s : State) (m : MethodId) (below : List Frame) (meth : Method) (c : Code) (ls : Array Slot), k_Cx cI cZ cK D p s m av.toArray meth c cc nL o → (y.name = meth.name) → va_AO "SlipperFits$Night" s → k_At D (va_A W0 s.heap.size) s.heap s.heap [] W0 → lv_has ls nL lv → W p l e rm s m av.toArray below meth c s.heap [] 0 0 (MQ below (k_Qc D s.heap.size W0 ex) av.toArray s mc ms (va_A W0 s.heap.size)) (F0 m 0 ls [])) : k_Met l D cI cZ cK y cc nL rm av W0 ex mc ms := by
  intro sz
  refine Met.ofW (cc := cc) (maxL := nL) (ret := none) hy rfl ?_
  intro p e s m args below meth c s₁ B hml hv
  obtain ⟨rfl, hsz, hP, hK, hD0, hO⟩ := hv
  subst hsz
  rw [lg_entry_eq]
  refine body p e s m below meth c _ ⟨B.exec, B.bytes, hml, B.returns, by rw [← ho]; exact findClass_of_methodNamed B.named, fun w hw => atoms_spec (ws := k_ws y cc nL) B.pre w (List.mem_cons_of_mem _ hw), B.notSynchronized, hK⟩ (name_of_methodNamed B.named B.method).1.symm hO ⟨hP, hD0.self, va_S.rf⟩ ?_
  rw [← hlv]
  exact lv_entry av hlen
end KC
