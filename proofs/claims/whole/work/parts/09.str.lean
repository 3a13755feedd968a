/-! ===== String.length, String.charAt over the class's own constants ===== -/
abbrev cCoder : ByteArray := prog_14_method_152_code
def yCoder : MethodName := ⟨"java/lang/String", "coder", "()B"⟩
theorem dCoder_0 : decode cCoder 0 = .ok (.getstatic 38, 3) := by decide +kernel
theorem dCoder_3 : decode cCoder 3 = .ok (.ifCond .eq 10, 3) := by decide +kernel
theorem dCoder_6 : decode cCoder 6 = .ok (.aload_n 0, 1) := by decide +kernel
theorem dCoder_7 : decode cCoder 7 = .ok (.getfield 15, 3) := by decide +kernel
theorem dCoder_10 : decode cCoder 10 = .ok (.goto 4, 3) := by decide +kernel
theorem dCoder_13 : decode cCoder 13 = .ok (.iconst 1, 1) := by decide +kernel
theorem dCoder_14 : decode cCoder 14 = .ok (.ireturn, 1) := by decide +kernel
abbrev cLat : ByteArray := prog_14_method_154_code
def yLat : MethodName := ⟨"java/lang/String", "isLatin1", "()Z"⟩
theorem dLat_0 : decode cLat 0 = .ok (.getstatic 38, 3) := by decide +kernel
theorem dLat_3 : decode cLat 3 = .ok (.ifCond .eq 14, 3) := by decide +kernel
theorem dLat_6 : decode cLat 6 = .ok (.aload_n 0, 1) := by decide +kernel
theorem dLat_7 : decode cLat 7 = .ok (.getfield 15, 3) := by decide +kernel
theorem dLat_10 : decode cLat 10 = .ok (.ifCond .ne 7, 3) := by decide +kernel
theorem dLat_13 : decode cLat 13 = .ok (.iconst 1, 1) := by decide +kernel
theorem dLat_14 : decode cLat 14 = .ok (.goto 4, 3) := by decide +kernel
theorem dLat_17 : decode cLat 17 = .ok (.iconst 0, 1) := by decide +kernel
theorem dLat_18 : decode cLat 18 = .ok (.ireturn, 1) := by decide +kernel
abbrev cPre : ByteArray := prog_18_method_11_code
def yPre : MethodName := ⟨"jdk/internal/util/Preconditions", "checkIndex", "(IILjava/util/function/BiFunction;)I"⟩
theorem dPre_0 : decode cPre 0 = .ok (.iload_n 0, 1) := by decide +kernel
theorem dPre_1 : decode cPre 1 = .ok (.ifCond .lt 8, 3) := by decide +kernel
theorem dPre_4 : decode cPre 4 = .ok (.iload_n 0, 1) := by decide +kernel
theorem dPre_5 : decode cPre 5 = .ok (.iload_n 1, 1) := by decide +kernel
theorem dPre_6 : decode cPre 6 = .ok (.if_icmp .lt 10, 3) := by decide +kernel
theorem dPre_9 : decode cPre 9 = .ok (.aload_n 2, 1) := by decide +kernel
theorem dPre_10 : decode cPre 10 = .ok (.iload_n 0, 1) := by decide +kernel
theorem dPre_11 : decode cPre 11 = .ok (.iload_n 1, 1) := by decide +kernel
theorem dPre_12 : decode cPre 12 = .ok (.invokestatic 95, 3) := by decide +kernel
theorem dPre_15 : decode cPre 15 = .ok (.athrow, 1) := by decide +kernel
theorem dPre_16 : decode cPre 16 = .ok (.iload_n 0, 1) := by decide +kernel
theorem dPre_17 : decode cPre 17 = .ok (.ireturn, 1) := by decide +kernel
abbrev cChk : ByteArray := prog_14_method_155_code
def yChk : MethodName := ⟨"java/lang/String", "checkIndex", "(II)V"⟩
theorem dChk_0 : decode cChk 0 = .ok (.iload_n 0, 1) := by decide +kernel
theorem dChk_1 : decode cChk 1 = .ok (.iload_n 1, 1) := by decide +kernel
theorem dChk_2 : decode cChk 2 = .ok (.getstatic 1053, 3) := by decide +kernel
theorem dChk_5 : decode cChk 5 = .ok (.invokestatic 1059, 3) := by decide +kernel
theorem dChk_8 : decode cChk 8 = .ok (.pop, 1) := by decide +kernel
theorem dChk_9 : decode cChk 9 = .ok (.return_, 1) := by decide +kernel
abbrev cL1c : ByteArray := prog_15_method_2_code
def yL1c : MethodName := ⟨"java/lang/StringLatin1", "charAt", "([BI)C"⟩
theorem dL1c_0 : decode cL1c 0 = .ok (.iload_n 1, 1) := by decide +kernel
theorem dL1c_1 : decode cL1c 1 = .ok (.aload_n 0, 1) := by decide +kernel
theorem dL1c_2 : decode cL1c 2 = .ok (.arraylength, 1) := by decide +kernel
theorem dL1c_3 : decode cL1c 3 = .ok (.invokestatic 9, 3) := by decide +kernel
theorem dL1c_6 : decode cL1c 6 = .ok (.aload_n 0, 1) := by decide +kernel
theorem dL1c_7 : decode cL1c 7 = .ok (.iload_n 1, 1) := by decide +kernel
theorem dL1c_8 : decode cL1c 8 = .ok (.baload, 1) := by decide +kernel
theorem dL1c_9 : decode cL1c 9 = .ok (.sipush 255, 3) := by decide +kernel
theorem dL1c_12 : decode cL1c 12 = .ok (.iand, 1) := by decide +kernel
theorem dL1c_13 : decode cL1c 13 = .ok (.i2c, 1) := by decide +kernel
theorem dL1c_14 : decode cL1c 14 = .ok (.ireturn, 1) := by decide +kernel
theorem dLen_0 : decode (mB 1000) 0 = .ok (.aload_n 0, 1) := by decide +kernel
theorem dLen_1 : decode (mB 1000) 1 = .ok (.getfield 9, 3) := by decide +kernel
theorem dLen_4 : decode (mB 1000) 4 = .ok (.arraylength, 1) := by decide +kernel
theorem dLen_5 : decode (mB 1000) 5 = .ok (.aload_n 0, 1) := by decide +kernel
theorem dLen_6 : decode (mB 1000) 6 = .ok (.invokevirtual 335, 3) := by decide +kernel
theorem dLen_9 : decode (mB 1000) 9 = .ok (.ishr, 1) := by decide +kernel
theorem dLen_10 : decode (mB 1000) 10 = .ok (.ireturn, 1) := by decide +kernel
theorem dChr_0 : decode (mB 1001) 0 = .ok (.aload_n 0, 1) := by decide +kernel
theorem dChr_1 : decode (mB 1001) 1 = .ok (.invokevirtual 492, 3) := by decide +kernel
theorem dChr_4 : decode (mB 1001) 4 = .ok (.ifCond .eq 12, 3) := by decide +kernel
theorem dChr_7 : decode (mB 1001) 7 = .ok (.aload_n 0, 1) := by decide +kernel
theorem dChr_8 : decode (mB 1001) 8 = .ok (.getfield 9, 3) := by decide +kernel
theorem dChr_11 : decode (mB 1001) 11 = .ok (.iload_n 1, 1) := by decide +kernel
theorem dChr_12 : decode (mB 1001) 12 = .ok (.invokestatic 495, 3) := by decide +kernel
theorem dChr_15 : decode (mB 1001) 15 = .ok (.ireturn, 1) := by decide +kernel
theorem dChr_16 : decode (mB 1001) 16 = .ok (.aload_n 0, 1) := by decide +kernel
theorem dChr_17 : decode (mB 1001) 17 = .ok (.getfield 9, 3) := by decide +kernel
theorem dChr_20 : decode (mB 1001) 20 = .ok (.iload_n 1, 1) := by decide +kernel
theorem dChr_21 : decode (mB 1001) 21 = .ok (.invokestatic 498, 3) := by decide +kernel
theorem dChr_24 : decode (mB 1001) 24 = .ok (.ireturn, 1) := by decide +kernel
def s_P (ad adV : Nat → Nat) (av : List Value) : Array Value → State → Prop := fun v U => v = av.toArray ∧ q_Env ad adV U U.heap
def s_Qv : Array Value → State → Outcome → State → Prop := fun _ st o t => o = .returned none ∧ t.heap = st.heap
theorem s_blind {ad adV : Nat → Nat} {av : List Value} : FrameBlind (s_P ad adV av) := by
  intro a U g mk q
  exact ⟨q.1, q.2.same (U := U.calling g mk a) rfl⟩
def s_rm (f n : Nat) : Room := { frames := f, cells := 0, slots := 0, locals := n }
theorem s_good {y : MethodName} {b : ByteArray} {n : Nat} {r : Option FieldType} (h : Cond.code y b n r ∈ lw_tbl) : GoodIn gw (.code y b n r :: gw) := by
  refine gw_goodIn ?_
  intro w hw
  rcases List.mem_cons.mp hw with rfl | h2
  · exact List.mem_filter.mpr ⟨h, rfl⟩
  · exact h2
section QV
variable {p : Program} {l : Launch} {e : Env} {R : Room} {s : State} {m : MethodId} {args : Array Value} {below : List Frame} {meth : Method} {c : Code} {H : Heap} {locs : List Loc} {cells slots : Nat} {Q : State → Prop} {g : JFrame} {rest : List Value} {a : Array Value}
theorem s_callV (hr : CallRun p l e R s m args below meth c H locs cells slots 0 0 g rest (s_Qv a) (fun _ => False)) (kk : W p l e R s m args below meth c H locs cells slots Q { g with pc := g.pc + 3, stack := rest }) : W p l e R s m args below meth c H locs cells slots Q g := by
  intro T hT X
  obtain ⟨v, st₀, t, T', L, h0, X', hL, e1, ⟨hv, hh⟩, st⟩ := hr T hT X
  cases hv
  obtain ⟨t2, a1, b1⟩ := kk T' (by rw [e1, hh, h0]) (Stand.forget X' (fun q h => (hL q h).elim))
  exact ⟨t2, st t2 a1, b1⟩
end QV
section QStr
variable {ad adV : Nat → Nat} {l : Launch}
theorem s_coder {i : Nat} (hi : i < 7) : Met l yCoder (.code yCoder cCoder 1 (some .byte) :: gw) (s_rm 0 0) (s_P ad adV [.ref (ad (100 + i))]) (QcRead 0) 0 0 (fun _ => False) := by
  refine Met.ofW (cc := cCoder) (maxL := 1) (ret := some .byte) (by decide) rfl ?_
  intro p e s m args below meth c s₁ B hml hv
  obtain ⟨rfl, hE⟩ := hv
  have hx := B.exec
  have hb := B.bytes
  have hr := B.returns
  have hts0 := atoms_spec (ws := .code yCoder cCoder 1 (some .byte) :: gw) B.pre
  have hts : ∀ w ∈ gw, w.before _ s = true := fun w hw => hts0 w (List.mem_cons_of_mem _ hw)
  have hown : s.vm.findClass "java/lang/String" = some m.cls := findClass_of_methodNamed B.named
  have hlocks := B.notSynchronized
  have hl := lv_entry ([.ref (ad (100 + i))]) (n := 1) (Nat.le_of_ble_eq_true rfl)
  rw [lg_entry_eq]
  generalize (lg_sl ([.ref (ad (100 + i))]) ++ List.replicate (1 - (lg_sl ([.ref (ad (100 + i))])).length) Slot.unset).toArray = ls at hl ⊢
  have hl : lv_has ls 1 [(0, .ref (ad (100 + i)))] := hl
  have hS : va_S (q_A ad) s.heap s.heap [] := va_S.rf
  refine va_gets hx hb hE.2.2.2.1 hS hown (hts _ (gw_of 474 (by decide +kernel) rfl)) (fun _ h9 => h9) dCoder_0 ?_
  refine lv_if_eq (tgt := 13) hx hb dCoder_3 (by decide) (fun z => absurd z (by decide)) (fun _ => ?_)
  refine lv_aload_n hx hb dCoder_6 rfl (lv_at hl 0 rfl) ?_
  refine vk_getf hx hb (hE.2.2.1.1 i hi).2.1 hS hown (hts _ (gw_of 1472 (by decide +kernel) rfl)) (fun _ h9 => h9) dCoder_7 ?_
  refine lv_goto (tgt := 14) hx hb dCoder_10 (by decide) ?_
  exact W.zret hx hb hr rfl (fun t ht hW => ⟨rfl, ht⟩) (fun _ h => by cases h) dCoder_14
theorem s_lat {i : Nat} (hi : i < 7) : Met l yLat (.code yLat cLat 1 (some .boolean) :: gw) (s_rm 0 0) (s_P ad adV [.ref (ad (100 + i))]) (QcRead 1) 0 0 (fun _ => False) := by
  refine Met.ofW (cc := cLat) (maxL := 1) (ret := some .boolean) (by decide) rfl ?_
  intro p e s m args below meth c s₁ B hml hv
  obtain ⟨rfl, hE⟩ := hv
  have hx := B.exec
  have hb := B.bytes
  have hr := B.returns
  have hts0 := atoms_spec (ws := .code yLat cLat 1 (some .boolean) :: gw) B.pre
  have hts : ∀ w ∈ gw, w.before _ s = true := fun w hw => hts0 w (List.mem_cons_of_mem _ hw)
  have hown : s.vm.findClass "java/lang/String" = some m.cls := findClass_of_methodNamed B.named
  have hlocks := B.notSynchronized
  have hl := lv_entry ([.ref (ad (100 + i))]) (n := 1) (Nat.le_of_ble_eq_true rfl)
  rw [lg_entry_eq]
  generalize (lg_sl ([.ref (ad (100 + i))]) ++ List.replicate (1 - (lg_sl ([.ref (ad (100 + i))])).length) Slot.unset).toArray = ls at hl ⊢
  have hl : lv_has ls 1 [(0, .ref (ad (100 + i)))] := hl
  have hS : va_S (q_A ad) s.heap s.heap [] := va_S.rf
  refine va_gets hx hb hE.2.2.2.1 hS hown (hts _ (gw_of 474 (by decide +kernel) rfl)) (fun _ h9 => h9) dLat_0 ?_
  refine lv_if_eq (tgt := 17) hx hb dLat_3 (by decide) (fun z => absurd z (by decide)) (fun _ => ?_)
  refine lv_aload_n hx hb dLat_6 rfl (lv_at hl 0 rfl) ?_
  refine vk_getf hx hb (hE.2.2.1.1 i hi).2.1 hS hown (hts _ (gw_of 1472 (by decide +kernel) rfl)) (fun _ h9 => h9) dLat_7 ?_
  refine lv_if_ne (tgt := 17) hx hb dLat_10 (by decide) (fun z => absurd rfl z) (fun _ => ?_)
  refine lv_iconst (v := 1) hx hb dLat_13 (by decide) ?_
  refine lv_goto (tgt := 18) hx hb dLat_14 (by decide) ?_
  exact W.zret hx hb hr rfl (fun t ht hW => ⟨rfl, ht⟩) (fun _ h => by cases h) dLat_18
theorem s_pre {x n : Int32} {v : Value} (hv1 : v.category = 1) (h0 : ¬ x < 0) (h1 : x < n) : Met l yPre (.code yPre cPre 3 (some .int) :: gw) (s_rm 0 0) (s_P ad adV [.int x, .int n, v]) (QcRead x) 0 0 (fun _ => False) := by
  refine Met.ofW (cc := cPre) (maxL := 3) (ret := some .int) (by decide) rfl ?_
  intro p e s m args below meth c s₁ B hml hv
  obtain ⟨rfl, hE⟩ := hv
  have hx := B.exec
  have hb := B.bytes
  have hr := B.returns
  have hlocks := B.notSynchronized
  have hlen : (lg_sl ([.int x, .int n, v])).length = 3 := by
    have : lg_sl ([.int x, .int n, v]) = [.val (.int x), .val (.int n), .val v] := by
      unfold lg_sl
      simp [hv1, show (Value.int x).category = 1 from rfl, show (Value.int n).category = 1 from rfl]
    rw [this]
    rfl
  have hl := lv_entry ([.int x, .int n, v]) (n := 3) (by rw [hlen]; exact Nat.le_refl _)
  rw [lg_entry_eq]
  generalize (lg_sl ([.int x, .int n, v]) ++ List.replicate (3 - (lg_sl ([.int x, .int n, v])).length) Slot.unset).toArray = ls at hl ⊢
  have hl : lv_has ls 3 [(0, .int x), (1, .int n), (2, v)] := hl
  refine lv_iload_n hx hb dPre_0 rfl (lv_at hl 0 rfl) ?_
  refine lv_if_lt (tgt := 9) hx hb dPre_1 (by decide) (fun z => absurd z h0) (fun _ => ?_)
  refine lv_iload_n hx hb dPre_4 rfl (lv_at hl 0 rfl) ?_
  refine lv_iload_n hx hb dPre_5 rfl (lv_at hl 1 rfl) ?_
  refine lv_icmp_lt (tgt := 16) hx hb dPre_6 (by decide) (fun _ => ?_) (fun z => absurd h1 z)
  refine lv_iload_n hx hb dPre_16 rfl (lv_at hl 0 rfl) ?_
  exact W.zret hx hb hr rfl (fun t ht hW => ⟨rfl, ht⟩) (fun _ h => by cases h) dPre_17
theorem s_chk {x n : Int32} (h0 : ¬ x < 0) (h1 : x < n) : Met l yChk (.code yChk cChk 2 none :: gw) (s_rm 1 22) (s_P ad adV [.int x, .int n]) s_Qv 0 0 (fun _ => False) := by
  refine Met.ofW (cc := cChk) (maxL := 2) (ret := none) (by decide) rfl ?_
  intro p e s m args below meth c s₁ B hml hv
  obtain ⟨rfl, hE⟩ := hv
  have hx := B.exec
  have hb := B.bytes
  have hr := B.returns
  have hts0 := atoms_spec (ws := .code yChk cChk 2 none :: gw) B.pre
  have hts : ∀ w ∈ gw, w.before _ s = true := fun w hw => hts0 w (List.mem_cons_of_mem _ hw)
  have hown : s.vm.findClass "java/lang/String" = some m.cls := findClass_of_methodNamed B.named
  have hlocks := B.notSynchronized
  have hl := lv_entry ([.int x, .int n]) (n := 2) (Nat.le_of_ble_eq_true rfl)
  rw [lg_entry_eq]
  generalize (lg_sl ([.int x, .int n]) ++ List.replicate (2 - (lg_sl ([.int x, .int n])).length) Slot.unset).toArray = ls at hl ⊢
  have hl : lv_has ls 2 [(0, .int x), (1, .int n)] := hl
  have hS : va_S (q_A ad) s.heap s.heap [] := va_S.rf
  have key : ∀ v : Value, v.category = 1 → va_Z "jdk/internal/util/Preconditions" "SIOOBE_FORMATTER" "Ljava/util/function/BiFunction;" v (q_A ad) s s.heap → W p l e (s_rm 1 22) s m [.int x, .int n].toArray below meth c s.heap [] 0 0 (MQ below s_Qv [.int x, .int n].toArray s 0 0 (fun _ => False)) (F0 m 0 ls []) := by
    intro v hv1 hZ
    refine lv_iload_n hx hb dChk_0 rfl (lv_at hl 0 rfl) ?_
    refine lv_iload_n hx hb dChk_1 rfl (lv_at hl 1 rfl) ?_
    refine va_gets hx hb hZ hS hown (hts _ (gw_of 490 (by decide +kernel) rfl)) (fun _ h9 => h9) dChk_2 ?_
    refine W.callR (W.runS (n := 3) (As := [.int x, .int n, v]) (rest := []) (own := "java/lang/String") ⟨hx, hb, hml, hown, hts⟩ (s_pre (ad := ad) (adV := adV) hv1 h0 h1) ⟨callB_of 3 hts (s_good (lwt_2 (List.mem_of_getElem? (i := 171) rfl))) rfl rfl rfl (hts _ (gw_of 96 (by decide +kernel) rfl)) (hts _ (gw_of 492 (by decide +kernel) rfl)) (by decide +kernel) ⟨Nat.le_refl 1, by decide⟩, hts _ (gw_of 493 (by decide +kernel) rfl)⟩ ⟨s_blind, fun U hU hW => ⟨rfl, hE.warm hW (fun a _ _ => by rw [hU])⟩⟩ rfl rfl hl.1 rfl (lv_room (Nat.le_of_ble_eq_true rfl)) dChk_5 ⟨Nat.le_refl _, Nat.le_refl _⟩) ?_
    refine lv_pop hx hb dChk_8 rfl ?_
    exact W.vret hx hb hr (fun t ht hW => ⟨rfl, ht⟩) (fun _ h => by cases h) dChk_9
  rcases hE.2.2.2.2 with hz | ⟨t, hz⟩
  · exact key .null rfl hz
  · exact key (.ref t) rfl hz
theorem q_byts_ok : ∀ i, i < 7 → ∀ j, j < q_lens.getD i 0 → (((q_byts.getD i []).getD j 0 &&& 255).toUInt32 % 65536).toInt32 = (q_byts.getD i []).getD j 0 ∧ narrow .char (.int ((q_byts.getD i []).getD j 0)) = .int ((q_byts.getD i []).getD j 0) ∧ i32 ((q_strs.getD i []).getD j 0) = (q_byts.getD i []).getD j 0 ∧ q_ok (qI ((q_strs.getD i []).getD j 0)) := by
  have key : ∀ i, i < 7 → ∀ j, j < 5 → j < q_lens.getD i 0 → (((q_byts.getD i []).getD j 0 &&& 255).toUInt32 % 65536).toInt32 = (q_byts.getD i []).getD j 0 ∧ narrow .char (.int ((q_byts.getD i []).getD j 0)) = .int ((q_byts.getD i []).getD j 0) ∧ i32 ((q_strs.getD i []).getD j 0) = (q_byts.getD i []).getD j 0 ∧ (i32 ((q_strs.getD i []).getD j 0)).toInt = (q_strs.getD i []).getD j 0 := by decide +kernel
  have key2 : ∀ i, i < 7 → q_lens.getD i 0 ≤ 5 := by decide +kernel
  intro i hi j hj
  exact key i hi j (Nat.lt_of_lt_of_le hj (key2 i hi)) hj
theorem q_lens_ok : ∀ i, i < 7 → (q_strs.getD i []).length = q_lens.getD i 0 ∧ q_lens.getD i 0 ≤ 5 := by decide +kernel
theorem s_l1c {i j : Nat} (hi : i < 7) (hj : j < q_lens.getD i 0) : Met l yL1c (.code yL1c cL1c 2 (some .char) :: gw) (s_rm 2 43) (s_P ad adV [.ref (adV i), .int (nI j)]) (QcRead ((q_byts.getD i []).getD j 0)) 0 0 (fun _ => False) := by
  refine Met.ofW (cc := cL1c) (maxL := 2) (ret := some .char) (by decide) rfl ?_
  intro p e s m args below meth c s₁ B hml hv
  obtain ⟨rfl, hE⟩ := hv
  have hx := B.exec
  have hb := B.bytes
  have hr := B.returns
  have hts0 := atoms_spec (ws := .code yL1c cL1c 2 (some .char) :: gw) B.pre
  have hts : ∀ w ∈ gw, w.before _ s = true := fun w hw => hts0 w (List.mem_cons_of_mem _ hw)
  have hown : s.vm.findClass "java/lang/StringLatin1" = some m.cls := findClass_of_methodNamed B.named
  have hlocks := B.notSynchronized
  have hl := lv_entry ([.ref (adV i), .int (nI j)]) (n := 2) (Nat.le_of_ble_eq_true rfl)
  rw [lg_entry_eq]
  generalize (lg_sl ([.ref (adV i), .int (nI j)]) ++ List.replicate (2 - (lg_sl ([.ref (adV i), .int (nI j)])).length) Slot.unset).toArray = ls at hl ⊢
  have hl : lv_has ls 2 [(0, .ref (adV i)), (1, .int (nI j))] := hl
  have hS : va_S (q_A ad) s.heap s.heap [] := va_S.rf
  have hT := (hE.2.2.1.1 i hi).2.2.2
  have h5 := (q_lens_ok i hi).2
  obtain ⟨b1, b2, b3, b4⟩ := q_byts_ok i hi j hj
  refine lv_iload_n hx hb dL1c_0 rfl (lv_at hl 1 rfl) ?_
  refine lv_aload_n hx hb dL1c_1 rfl (lv_at hl 0 rfl) ?_
  refine va_tlen hx hb hT hS (v := nI (q_lens.getD i 0)) rfl dL1c_2 ?_
  refine s_callV (W.runS (n := 2) (As := [.int (nI j), .int (nI (q_lens.getD i 0))]) (rest := []) (own := "java/lang/StringLatin1") ⟨hx, hb, hml, hown, hts⟩ (s_chk (ad := ad) (adV := adV) (nI_pos (by omega)) (nI_lt hj (by omega))) ⟨callB_of 2 hts (s_good (lwt_2 (List.mem_of_getElem? (i := 166) rfl))) rfl rfl rfl (hts _ (gw_of 94 (by decide +kernel) rfl)) (hts _ (gw_of 487 (by decide +kernel) rfl)) (by decide +kernel) ⟨Nat.le_refl 2, by decide⟩, hts _ (gw_of 488 (by decide +kernel) rfl)⟩ ⟨s_blind, fun U hU hW => ⟨rfl, hE.warm hW (fun a _ _ => by rw [hU])⟩⟩ rfl rfl hl.1 rfl (lv_room (Nat.le_of_ble_eq_true rfl)) dL1c_3 ⟨Nat.le_refl _, Nat.le_refl _⟩) ?_
  refine lv_aload_n hx hb dL1c_6 rfl (lv_at hl 0 rfl) ?_
  refine lv_iload_n hx hb dL1c_7 rfl (lv_at hl 1 rfl) ?_
  refine va_tb hx hb hT hS (vp_in_nI hj (by omega)) (v := .int ((q_byts.getD i []).getD j 0)) (by rw [nI_clamp (by omega)]) dL1c_8 ?_
  refine lv_sipush (v := 255) hx hb dL1c_9 (by decide) ?_
  refine lv_iand hx hb dL1c_12 ?_
  refine lv_i2c hx hb dL1c_13 b1 ?_
  exact W.zret hx hb hr b2 (fun t ht hW => ⟨rfl, ht⟩) (fun _ h => by cases h) dL1c_14
variable {cI cZ cK : ClassId} {D : va_G}
theorem s_len {k : Nat} {σ : SS} (h1 : 100 ≤ k) (h2 : k < 107) (hσ : q_okS σ) : q_Met l ad cI cZ cK D adV 1000 [qR k] σ (some (qI ((q_strs.getD (k - 100) []).length : Int))) σ := by
  refine Met.ofW (cc := mB 1000) (maxL := 1) (ret := some .int) (by decide) rfl ?_
  intro p e s m args below meth c s₁ B hml hv
  obtain ⟨rfl, hP, hK, hE⟩ := hv
  have hx := B.exec
  have hb := B.bytes
  have hr := B.returns
  have hts0 := atoms_spec (ws := q_ws 1000) B.pre
  have hts : ∀ w ∈ gw, w.before _ s = true := fun w hw => hts0 w (List.mem_cons_of_mem _ hw)
  have hown : s.vm.findClass "java/lang/String" = some m.cls := findClass_of_methodNamed B.named
  have hlocks := B.notSynchronized
  obtain ⟨i, hi, rfl⟩ : ∃ i, i < 7 ∧ k = 100 + i := ⟨k - 100, by omega, by omega⟩
  rw [show 100 + i - 100 = i by omega, (q_lens_ok i hi).1]
  show W p l e _ s m [Value.ref (ad (100 + i))].toArray below meth c s.heap [] 0 0 _ (entryFrame m [Value.ref (ad (100 + i))].toArray 1)
  have hl := lv_entry ([.ref (ad (100 + i))]) (n := 1) (Nat.le_of_ble_eq_true rfl)
  rw [lg_entry_eq]
  generalize (lg_sl ([.ref (ad (100 + i))]) ++ List.replicate (1 - (lg_sl ([.ref (ad (100 + i))])).length) Slot.unset).toArray = ls at hl ⊢
  have hl : lv_has ls 1 [(0, .ref (ad (100 + i)))] := hl
  have hS : va_S (q_A ad) s.heap s.heap [] := va_S.rf
  have h5 := (q_lens_ok i hi).2
  have hrec := vk_recv (i := i) hE.2.2.1 hi hS
  refine lv_aload_n hx hb dLen_0 rfl (lv_at hl 0 rfl) ?_
  refine vk_getf hx hb (hE.2.2.1.1 i hi).2.2.1 hS hown (hts _ (gw_of 1471 (by decide +kernel) rfl)) (fun _ h9 => h9) dLen_1 ?_
  refine va_tlen hx hb (hE.2.2.1.1 i hi).2.2.2 hS (v := nI (q_lens.getD i 0)) rfl dLen_4 ?_
  refine lv_aload_n hx hb dLen_5 rfl (lv_at hl 0 rfl) ?_
  refine W.callR (W.runV (n := 0) (C := "java/lang/String") (As := []) (rest := [.int (nI (q_lens.getD i 0))]) (own := "java/lang/String") ⟨hx, hb, hml, hown, hts⟩ (s_coder (ad := ad) (adV := adV) hi) ⟨callB_of 0 hts (s_good (lwt_2 (List.mem_of_getElem? (i := 150) rfl))) rfl rfl rfl (hts _ (gw_of 94 (by decide +kernel) rfl)) (hts _ (gw_of 470 (by decide +kernel) rfl)) (by decide +kernel) ⟨by decide, by decide⟩, hts _ (gw_of 471 (by decide +kernel) rfl), hts _ (gw_of 472 (by decide +kernel) rfl)⟩ ⟨s_blind, hrec, fun U hU hW => ⟨rfl, hE.warm hW (fun a _ _ => by rw [hU])⟩⟩ rfl rfl hl.1 rfl (lv_room (Nat.le_of_ble_eq_true rfl)) dLen_6 ⟨Nat.le_refl _, Nat.le_refl _⟩) ?_
  refine lv_ishr hx hb dLen_9 ?_
  have e : nI (q_lens.getD i 0) >>> ((0 : Int32) &&& 31) = i32 ((q_lens.getD i 0 : Nat) : Int) := by
    have : ∀ i, i < 7 → nI (q_lens.getD i 0) >>> ((0 : Int32) &&& 31) = i32 ((q_lens.getD i 0 : Nat) : Int) := by decide +kernel
    exact this i hi
  rw [e]
  have hok : q_ok (qI ((q_lens.getD i 0 : Nat) : Int)) := by
    have : ∀ i, i < 7 → (i32 ((q_lens.getD i 0 : Nat) : Int)).toInt = ((q_lens.getD i 0 : Nat) : Int) := by decide +kernel
    exact this i hi
  exact W.zret hx hb hr rfl (fun t ht hW => ⟨rfl, by rw [ht]; exact hP, hS.F ht, hσ, fun w hw => by cases hw; exact hok⟩) (fun _ h => by cases h) dLen_10
theorem s_chr {k : Nat} {x : Int} {σ : SS} (h1 : 100 ≤ k) (h2 : k < 107) (h3 : 0 ≤ x) (h4 : x < ((q_strs.getD (k - 100) []).length : Int)) (hσ : q_okS σ) : q_Met l ad cI cZ cK D adV 1001 [qR k, qI x] σ (some (qI ((q_strs.getD (k - 100) []).getD x.toNat 0))) σ := by
  refine Met.ofW (cc := mB 1001) (maxL := 2) (ret := some .char) (by decide) rfl ?_
  intro p e s m args below meth c s₁ B hml hv
  obtain ⟨rfl, hP, hK, hE⟩ := hv
  have hx := B.exec
  have hb := B.bytes
  have hr := B.returns
  have hts0 := atoms_spec (ws := q_ws 1001) B.pre
  have hts : ∀ w ∈ gw, w.before _ s = true := fun w hw => hts0 w (List.mem_cons_of_mem _ hw)
  have hown : s.vm.findClass "java/lang/String" = some m.cls := findClass_of_methodNamed B.named
  have hlocks := B.notSynchronized
  obtain ⟨i, hi, rfl⟩ : ∃ i, i < 7 ∧ k = 100 + i := ⟨k - 100, by omega, by omega⟩
  rw [show 100 + i - 100 = i by omega] at h4 ⊢
  rw [(q_lens_ok i hi).1] at h4
  obtain ⟨j, rfl⟩ : ∃ j : Nat, x = (j : Int) := ⟨x.toNat, by omega⟩
  have hj : j < q_lens.getD i 0 := by omega
  rw [show ((j : Int)).toNat = j by omega]
  show W p l e _ s m [Value.ref (ad (100 + i)), Value.int (nI j)].toArray below meth c s.heap [] 0 0 _ (entryFrame m [Value.ref (ad (100 + i)), Value.int (nI j)].toArray 2)
  have hl := lv_entry ([.ref (ad (100 + i)), .int (nI j)]) (n := 2) (Nat.le_of_ble_eq_true rfl)
  rw [lg_entry_eq]
  generalize (lg_sl ([.ref (ad (100 + i)), .int (nI j)]) ++ List.replicate (2 - (lg_sl ([.ref (ad (100 + i)), .int (nI j)])).length) Slot.unset).toArray = ls at hl ⊢
  have hl : lv_has ls 2 [(0, .ref (ad (100 + i))), (1, .int (nI j))] := hl
  have hS : va_S (q_A ad) s.heap s.heap [] := va_S.rf
  have h5 := (q_lens_ok i hi).2
  obtain ⟨b1, b2, b3, b4⟩ := q_byts_ok i hi j hj
  have hrec := vk_recv (i := i) hE.2.2.1 hi hS
  refine lv_aload_n hx hb dChr_0 rfl (lv_at hl 0 rfl) ?_
  refine W.callR (W.runV (n := 0) (C := "java/lang/String") (As := []) (rest := []) (own := "java/lang/String") ⟨hx, hb, hml, hown, hts⟩ (s_lat (ad := ad) (adV := adV) hi) ⟨callB_of 0 hts (s_good (lwt_2 (List.mem_of_getElem? (i := 160) rfl))) rfl rfl rfl (hts _ (gw_of 94 (by decide +kernel) rfl)) (hts _ (gw_of 480 (by decide +kernel) rfl)) (by decide +kernel) ⟨by decide, by decide⟩, hts _ (gw_of 481 (by decide +kernel) rfl), hts _ (gw_of 482 (by decide +kernel) rfl)⟩ ⟨s_blind, hrec, fun U hU hW => ⟨rfl, hE.warm hW (fun a _ _ => by rw [hU])⟩⟩ rfl rfl hl.1 rfl (lv_room (Nat.le_of_ble_eq_true rfl)) dChr_1 ⟨Nat.le_refl _, Nat.le_refl _⟩) ?_
  refine lv_if_eq (tgt := 16) hx hb dChr_4 (by show ((4 : Nat) : Int) + 12 = ((16 : Nat) : Int); decide) (fun z => absurd z (by decide)) (fun _ => ?_)
  refine lv_aload_n hx hb dChr_7 rfl (lv_at hl 0 rfl) ?_
  refine vk_getf hx hb (hE.2.2.1.1 i hi).2.2.1 hS hown (hts _ (gw_of 1471 (by decide +kernel) rfl)) (fun _ h9 => h9) dChr_8 ?_
  refine lv_iload_n hx hb dChr_11 rfl (lv_at hl 1 rfl) ?_
  refine W.callR (W.runS (n := 2) (As := [.ref (adV i), .int (nI j)]) (rest := []) (own := "java/lang/String") ⟨hx, hb, hml, hown, hts⟩ (s_l1c (ad := ad) (adV := adV) hi hj) ⟨callB_of 2 hts (s_good (lwt_2 (List.mem_of_getElem? (i := 163) rfl))) rfl rfl rfl (hts _ (gw_of 95 (by decide +kernel) rfl)) (hts _ (gw_of 484 (by decide +kernel) rfl)) (by decide +kernel) ⟨by decide, by decide⟩, hts _ (gw_of 485 (by decide +kernel) rfl)⟩ ⟨s_blind, fun U hU hW => ⟨rfl, hE.warm hW (fun a _ _ => by rw [hU])⟩⟩ rfl rfl hl.1 rfl (lv_room (Nat.le_of_ble_eq_true rfl)) dChr_12 ⟨Nat.le_refl _, Nat.le_refl _⟩) ?_
  refine W.zret hx hb hr b2 (fun t ht hW => ⟨?_, by rw [ht]; exact hP, hS.F ht, hσ, fun w hw => by cases hw; exact b4⟩) (fun _ h => by cases h) dChr_15
  show Outcome.returned (some (Value.int ((q_byts.getD i []).getD j 0))) = .returned (some (Value.int (i32 ((q_strs.getD i []).getD j 0))))
  rw [b3]
theorem q_strMet (mj : Nat) (vs : List AV) (v : AV) (σ : SS) (h : q_str mj vs = some v) (hσ : q_okS σ) : q_Met l ad cI cZ cK D adV mj vs σ (some v) σ := by
  unfold q_str at h
  split at h
  · split at h
    · rename_i hc
      cases h
      exact s_len hc.1 hc.2 hσ
    · cases h
  · split at h
    · rename_i hc
      cases h
      exact s_chr hc.1 hc.2.1 hc.2.2.1 hc.2.2.2 hσ
    · cases h
  · cases h
/-- THE MACHINE's ANSWERS ARE THE JVM's -/
theorem q_met (hj : q_inj ad) {mi : Nat} {vs : List AV} {σ : SS} {r : Option AV} {σ' : SS} (hrow : ∃ q ∈ mtT, q.1 = mi) (hlen : (q_sl vs).length ≤ mL mi) (hnl : q_nl mi vs = true) (hvs : ∀ v ∈ vs, q_ok v) (hσ : q_okS σ) (h : ev mi 0 (q_ent mi vs) [] σ = some (r, σ')) : q_Met l ad cI cZ cK D adV mi vs σ r σ' := by
  obtain ⟨n, hn⟩ := ev_iff.mp h
  exact q_metOf hrow hj hlen hnl hvs hσ (fun p e s m args below meth c hC => q_sound hj (fun mj vs v σ h1 h2 _ _ => q_strMet mj vs v σ h1 h2) n mi 0 (q_ent mi vs) [] σ r σ' hn p e s m args below meth c hC)
end QStr
