/-! ===== which instructions call, which return ===== -/
section NX
variable {mi pc i len : Nat} {L st : List AV} {σ : SS} {x : Option AV ⊕ (Nat × List AV × Nat × List AV)}
theorem nx_nx (h : q_nx pc L st σ = some (.inr x)) : False := by cases h
theorem nx_jmp {off : Int} (h : q_jmp pc off L st σ = some (.inr x)) : False := by
  unfold q_jmp at h
  split at h <;> first | exact nx_nx h | cases h
theorem nx_if {off : Int} {b : Bool} (h : q_if pc off b L st σ = some (.inr x)) : False := by
  unfold q_if at h
  split at h <;> first | exact nx_nx h | cases h
theorem nx_bin {f : Int → Int → Option Int} (h : q_bin f pc L st σ = some (.inr x)) : False := by
  unfold q_bin at h
  split at h
  · split at h <;> first | exact nx_nx h | cases h
  · cases h
theorem nx_binl {f : Int → Int → Option Int} (h : q_binl f pc L st σ = some (.inr x)) : False := by
  unfold q_binl at h
  split at h
  · split at h <;> first | exact nx_nx h | cases h
  · cases h
theorem nx_load {pr : AV → Bool} (h : q_load i len pr pc L st σ = some (.inr x)) : False := by
  unfold q_load at h
  split at h
  · split at h <;> first | exact nx_nx h | cases h
  · cases h
theorem nx_store {pr : AV → Bool} (h : q_store mi i len pr pc L st σ = some (.inr x)) : False := by
  unfold q_store at h
  split at h
  · split at h
    · split at h <;> first | exact nx_nx h | cases h
    · cases h
  · cases h
theorem nx_get (h : q_get mi i pc L st σ = some (.inr x)) : False := by
  unfold q_get at h
  split at h
  · split at h
    · split at h
      · split at h <;> first | exact nx_nx h | cases h
      · cases h
    · cases h
  · cases h
theorem nx_put (h : q_putf mi i pc L st σ = some (.inr x)) : False := by
  unfold q_putf at h
  split at h
  · split at h
    · split at h
      · split at h
        · split at h <;> first | exact nx_nx h | cases h
        · cases h
      · cases h
    · cases h
  · cases h
theorem nx_ald (h : q_ald i pc L st σ = some (.inr x)) : False := by
  unfold q_ald at h
  split at h
  · split at h
    · split at h <;> first | exact nx_nx h | cases h
    · cases h
  · cases h
theorem nx_ast (h : q_ast i pc L st σ = some (.inr x)) : False := by
  unfold q_ast at h
  split at h
  · split at h
    · split at h <;> first | exact nx_nx h | cases h
    · cases h
  · cases h
theorem nx_aald (h : q_aald pc L st σ = some (.inr x)) : False := by
  unfold q_aald at h
  split at h
  · split at h
    · split at h
      · split at h <;> first | exact nx_nx h | cases h
      · cases h
    · cases h
  · cases h
theorem nx_copy (h : q_copy mi pc L st σ = some (.inr x)) : False := by
  unfold q_copy at h
  split at h
  · split at h
    · split at h <;> first | exact nx_nx h | cases h
    · cases h
  · cases h
end NX
set_option maxHeartbeats 4000000 in
theorem q_act_inr {mi pc : Nat} {ins : Instr} {L st : List AV} {σ : SS} {x : Option AV ⊕ (Nat × List AV × Nat × List AV)} (h : q_act mi ins pc L st σ = some (.inr x)) : (∃ i, ins = .invokestatic i) ∨ (∃ i, ins = .invokevirtual i) ∨ ins = .ireturn ∨ ins = .return_ := by
  cases ins
  case invokestatic i => exact Or.inl ⟨_, rfl⟩
  case invokevirtual i => exact Or.inr (Or.inl ⟨_, rfl⟩)
  case ireturn => exact Or.inr (Or.inr (Or.inl rfl))
  case return_ => exact Or.inr (Or.inr (Or.inr rfl))
  all_goals (exfalso; simp only [q_act] at h)
  all_goals first
    | cases h
    | exact nx_nx h
    | exact nx_jmp h
    | exact nx_bin h
    | exact nx_binl h
    | exact nx_load h
    | exact nx_store h
    | exact nx_get h
    | exact nx_put h
    | exact nx_ald h
    | exact nx_ast h
    | exact nx_aald h
    | (split at h <;> first
        | cases h
        | exact nx_nx h
        | exact nx_if h
        | exact nx_jmp h
        | (split at h <;> first
            | cases h
            | exact nx_nx h
            | exact nx_jmp h
            | (split at h <;> first
                | cases h
                | exact nx_nx h
                | exact nx_jmp h)))
theorem shT_ok : shT.all (fun s => decide (s.1 = 2 → s.2.1 < 10)) = true := by decide +kernel
theorem q_shc {k c : Nat} {fs : List (Option Nat)} (h : qsh k = some (2, c, fs)) : ∃ T N, vwCl[c]? = some (cN c, T, N) := by
  have hlt : c < 10 := by
    have := of_decide_eq_true (List.all_eq_true.mp shT_ok _ (List.mem_of_getElem? (show shT[k]? = some _ from h)))
    exact this rfl
  cases hc : vwCl[c]? with
  | none =>
    have : vwCl.length ≤ c := List.getElem?_eq_none_iff.mp hc
    have h10 : vwCl.length = 10 := rfl
    omega
  | some q =>
    obtain ⟨C, T, N⟩ := q
    obtain ⟨-, -, -, hC, -⟩ := q_cls hc
    exact ⟨T, N, by rw [hC]⟩
/-- Met.ofW, by the method's own name -/
theorem q_ofW {l : Launch} {y : MethodName} {ws ws' : List Cond} {rm : Room} {Pc : Array Value → State → Prop} {Qc : Array Value → State → Outcome → State → Prop} {mc ms : Nat} {free : Addr → Prop} {cc : ByteArray} {maxL : Nat} {ret : Option FieldType}
    (hy : plainFor y = true) (hw : ws = Cond.code y cc maxL ret :: ws')
    (body : ∀ p e s m args below meth c s₁, BodyLoose p l y (headSpec ws rm) cc maxL ret e s m args below meth c s₁ → c.maxLocals = maxL → Pc args s →
      W p l e (headSpec ws rm).room s m args below meth c s.heap [] 0 0 (MQ below Qc args s mc ms free) (entryFrame m args maxL)) : Met l y ws rm Pc Qc mc ms free := by
  refine MetFree.of_bodySF (code := cc) (maxLocals := maxL) (ret := ret) hy ?_ ?_
  · intro args s m h hn
    obtain ⟨meth, c, h1, h2, h3, h4, h5, h6, -, -⟩ := Cond.code_spec hn (atoms_spec (ws := ws) h _ (by rw [hw]; exact List.mem_cons_self))
    exact ⟨meth, c, h1, h2, h3, h4, h5, h6⟩
  · intro p e s m args below meth c s₁ B hml hP _
    have hh0 : s₁.heap = s.heap := by rw [B.state]; rfl
    obtain ⟨t, a1, o, b1, b2, b3⟩ := body p e s m args below meth c s₁ B hml hP s₁ hh0 (Stand.of_body B)
    exact ⟨t, o, a1, b1, b2, ⟨b3.1, b3.2⟩⟩
section QR
variable {ad : Nat → Nat} {cI cZ cK : ClassId} {D : va_G} {adV : Nat → Nat} {l : Launch}
/-- a method's contract, out of its body's walk -/
theorem q_metOf {mj : Nat} {vs : List AV} {σ : SS} {r : Option AV} {σ' : SS} (hrow : ∃ q ∈ mtT, q.1 = mj) (hj : q_inj ad) (hlen : (q_sl vs).length ≤ mL mj) (hnl : q_nl mj vs = true) (hvs : ∀ v ∈ vs, q_ok v) (hσ : q_okS σ)
    (body : ∀ (p : Program) (e : Env) (s : State) (m : MethodId) (args : Array Value) (below : List Frame) (meth : Method) (c : Code), q_Cx ad cI cZ cK D adV p s m args meth c mj → q_G ad cI cZ cK D p l e s m args below meth c mj (MQ below (q_Q ad cI cZ cK D r σ') args s 0 0 (q_A ad)) 0 (q_ent mj vs) [] σ) : q_Met l ad cI cZ cK D adV mj vs σ r σ' := by
  obtain ⟨q, hq, rfl⟩ := hrow
  obtain ⟨g1, g2, g3, g4, g5, -, -⟩ := q_mt hq
  refine q_ofW (cc := mB q.1) (maxL := mL q.1) (ret := mR q.1) g5 rfl ?_
  intro p e s m args below meth c s₁ B hml hv
  obtain ⟨rfl, hP, hK, hE⟩ := hv
  have hts := atoms_spec (ws := q_ws q.1) B.pre
  have hown : s.vm.findClass (mY q.1).cls = some m.cls := findClass_of_methodNamed B.named
  rw [lg_entry_eq]
  rw [g3] at hown
  exact body p e s m _ below meth c ⟨B.exec, B.bytes, hml, B.returns, hown, fun w hw => hts w (List.mem_cons_of_mem _ hw), B.notSynchronized, hK, hj, hE⟩ s.heap [] _ ⟨hP, va_S.rf, q_ent_lv hlen, hσ, q_ent_ok hvs, (fun _ h => by cases h), q_ent_nl hnl⟩
variable {p : Program} {e : Env} {s : State} {m : MethodId} {args : Array Value} {below : List Frame} {meth : Method} {c : Code} {mi : Nat} {Q : State → Prop} {pc : Nat} {L st : List AV} {σ : SS}
/-- the words of a callee among the caller's -/
theorem q_wsGood {q : Nat × Nat × Nat × Nat × Nat × Nat} (h : q ∈ mtT) : GoodIn gw (q_ws q.1) := by
  refine gw_goodIn ?_
  intro w hw
  rcases List.mem_cons.mp hw with rfl | h2
  · exact (q_mt h).1
  · exact h2
theorem q_fit_spec {mi mj : Nat} (h : q_fit mi mj = true) : (q_rm mj).frames + 1 ≤ (q_rm mi).frames ∧ 8 + (mL mj + 11) + (q_rm mj).locals ≤ (q_rm mi).locals := of_decide_eq_true h
theorem q_pre {vs : List AV} {H : Heap} {locs : List Loc} {A : Array Value} (hC : q_Cx ad cI cZ cK D adV p s m args meth c mi) (hP : va_P D vwCl (q_wl ad cI cZ cK σ) H) (hS : va_S (q_A ad) s.heap H locs) (hA : A = (vs.map (q_cv ad)).toArray) (U : State) (hU : U.heap = H) (hW : s.WarmedH U.vm) : q_P ad cI cZ cK D adV vs σ A U := by
  obtain ⟨hx, hb, hml, hr, hown, hts, hlk, hK, hj, hE⟩ := hC
  refine ⟨hA, by rw [hU]; exact hP, va_K.moved hW.alike hK, ?_⟩
  rw [hU]
  exact hE.warm hW (fun a ha hn => hS.2.1 a ha hn)
theorem q_rev {n : Nat} (st : List AV) : st.map (q_cv ad) = (((st.take n).reverse.map (q_cv ad)).reverse) ++ (st.drop n).map (q_cv ad) := by
  rw [← List.map_reverse, List.reverse_reverse, ← List.map_append, List.take_append_drop]
/-- a call, by its callee's contract -/
theorem q_callCase {mj pc2 : Nat} {vs st2 : List AV} {r : Option AV} {σ1 : SS} (hC : q_Cx ad cI cZ cK D adV p s m args meth c mi) (h1 : q_one mi pc L st σ = some (.inr (.inr (mj, vs, pc2, st2))))
    (hM : (∀ v ∈ vs, q_ok v) → (¬ mO mj = 10 → (q_sl vs).length ≤ mL mj ∧ q_nl mj vs = true) → (∃ q ∈ mtT, q.1 = mj) → q_okS σ → q_Met l ad cI cZ cK D adV mj vs σ r σ1) (kk : q_G ad cI cZ cK D p l e s m args below meth c mi Q pc2 L (q_push r st2) σ1) : q_G ad cI cZ cK D p l e s m args below meth c mi Q pc L st σ := by
  intro H locs ls hA
  have hC0 := hC
  obtain ⟨hx, hb, hml, hr, hown, hts, hlk, hK, hj, hE⟩ := hC
  obtain ⟨hP, hS, hl, hσ, hL, hst, hnl⟩ := hA
  have fin : ∀ (H1 : Heap) (locs1 : List Loc), (∀ v ∈ st2, q_ok v) → va_P D vwCl (q_wl ad cI cZ cK σ1) H1 → q_okS σ1 → (∀ v, r = some v → q_ok v) → va_S (q_A ad) s.heap H1 locs1 → W p l e (q_rm mi) s m args below meth c H1 locs1 0 0 Q (F0 m pc2 ls ((r.map (q_cv ad)).toList ++ st2.map (q_cv ad))) := by
    intro H1 locs1 h2 a1 a2 a3 a4
    have := kk H1 locs1 ls ⟨a1, a4, hl, a2, hL, fun v hv => by
      unfold q_push at hv
      rcases List.mem_append.mp hv with h | h
      · exact a3 v (Option.mem_toList.mp h)
      · exact h2 v h, hnl⟩
    unfold q_push at this
    rw [List.map_append] at this
    cases r <;> exact this
  unfold q_one at h1
  cases hd : decode (mB mi) pc with
  | error z => rw [hd] at h1; cases h1
  | ok z =>
    obtain ⟨ins, len⟩ := z
    rw [hd] at h1
    dsimp only at h1
    split at h1
    · rename_i hlen
      rcases q_act_inr h1 with ⟨i, rfl⟩ | ⟨i, rfl⟩ | rfl | rfl
      · simp only [q_lenok, beq_iff_eq] at hlen
        subst hlen
        simp only [q_act] at h1
        have hcall : ∀ kind, (kind = 1 ∨ kind = 2) → mlk (mO mi) i = some (kind, mj) → q_fit mi mj = true → q_callS mj pc st = some (.inr (.inr (mj, vs, pc2, st2))) → W p l e (q_rm mi) s m args below meth c H locs 0 0 Q (F0 m pc ls (st.map (q_cv ad))) := by
          intro kind hkd hmk hft hcs
          unfold q_callS at hcs
          split at hcs
          · rename_i n hn
            split at hcs
            · rename_i hc
              cases hcs
              have hvs : ∀ v ∈ (st.take n).reverse, q_ok v := fun v hv => hst v (List.mem_of_mem_take (List.mem_reverse.mp hv))
              have hrow : ∃ q ∈ mtT, q.1 = mj := by
                rcases q_mlk hmk with ⟨a1, -⟩ | ⟨-, -, q, hq, hq1, -⟩ | ⟨-, -, a3, -⟩
                · omega
                · exact ⟨q, hq, hq1⟩
                · rw [a3]; decide +kernel
              have hMet := hM hvs (fun _ => hc.2.2) hrow hσ
              have hW8 : ((st.drop n).map (q_cv ad) |>.map fun v => v.category).sum ≤ 8 := by rw [q_ws_sum]; exact hc.2.1
              have hlenA : ((st.take n).reverse.map (q_cv ad)).length = n := by
                rw [List.length_map, List.length_reverse, List.length_take]
                omega
              rw [q_rev (n := n) st]
              have fin2 := fun H1 locs1 a1 a2 a3 a4 => fin H1 locs1 (fun v hv => hst v (List.mem_of_mem_drop hv)) a1 a2 a3 a4
              rcases q_mlk hmk with ⟨a1, -⟩ | ⟨a1, a2, q, hq, rfl, hq2⟩ | ⟨a1, a2, a3, a4⟩
              · omega
              · obtain ⟨g1, g2, g3, g4, g5, g6, g7⟩ := q_mt hq
                have hk1 : kind = 1 := by omega
                refine q_go (va_runS (n := n) (As := (st.take n).reverse.map (q_cv ad)) (rest := (st.drop n).map (q_cv ad)) (R := q_rm mi) ⟨hx, hb, hml, hown, hts⟩ hMet ⟨callB_of n hts (q_wsGood hq) rfl rfl rfl (hts _ g2) (hts _ a2) ⟨g4.1, g4.2, hn⟩ (q_fit_spec hft), hts _ (g6 (by rw [hq2, hk1]))⟩ ⟨q_blind, fun U hU hW => q_pre hC0 hP hS rfl U hU hW⟩ rfl hlenA (q_lv_size hl) rfl (lv_room hW8) hd ⟨Nat.le_refl _, Nat.le_refl _⟩) hS (fun q h => h) fin2
              · subst a3
                have hq : ((848, 566, 84, 1, 565, 0) : Nat × Nat × Nat × Nat × Nat × Nat) ∈ mtT := by decide +kernel
                obtain ⟨g1, g2, g3, g4, g5, g6, g7⟩ := q_mt hq
                refine q_go (va_runSN (n := n) (host := "SlipperFits") (As := (st.take n).reverse.map (q_cv ad)) (rest := (st.drop n).map (q_cv ad)) (R := q_rm mi) ⟨hx, hb, hml, hown, hts⟩ hMet ⟨va_cnB n hts (q_wsGood hq) rfl rfl rfl (hE.1 _ a4) (hts _ g2) ⟨g4.1, g4.2, hn⟩ (q_fit_spec hft), hts _ (g6 rfl), trivial⟩ ⟨q_blind, fun U hU hW => q_pre hC0 hP hS rfl U hU hW⟩ rfl hlenA (q_lv_size hl) rfl (lv_room hW8) hd ⟨Nat.le_refl _, Nat.le_refl _⟩) hS (fun q h => h) fin2
            · cases hcs
          · cases hcs
        split at h1
        · rename_i mj' hmk
          split at h1
          · rename_i hft
            have e : mj' = mj := by
              have h2 := h1
              unfold q_callS at h2
              split at h2
              · split at h2
                · cases h2; rfl
                · cases h2
              · cases h2
            subst e
            exact hcall 1 (Or.inl rfl) hmk hft h1
          · cases h1
        · rename_i mj' hmk
          split at h1
          · rename_i hft
            have e : mj' = mj := by
              have h2 := h1
              unfold q_callS at h2
              split at h2
              · split at h2
                · cases h2; rfl
                · cases h2
              · cases h2
            subst e
            exact hcall 2 (Or.inr rfl) hmk hft h1
          · cases h1
        · split at h1
          · exact (nx_copy h1).elim
          · cases h1
        · cases h1
      · simp only [q_lenok, beq_iff_eq] at hlen
        subst hlen
        simp only [q_act] at h1
        split at h1
        · rename_i mj' hmk
          split at h1
          · rename_i hft
            unfold q_callV at h1
            split at h1
            · rename_i n hn
              split at h1
              · rename_i k rr hdrop
                have hlenk : ∀ (hle : n ≤ st.length), ((st.take n).reverse.map (q_cv ad)).length = n := by
                  intro hle
                  rw [List.length_map, List.length_reverse, List.length_take]
                  omega
                have hstk : st.map (q_cv ad) = (((st.take n).reverse.map (q_cv ad)).reverse) ++ (Value.ref (ad k) :: rr.map (q_cv ad)) := by
                  rw [q_rev (n := n) st, hdrop]
                  rfl
                have hvs : ∀ v ∈ qR k :: (st.take n).reverse, q_ok v := by
                  intro v hv
                  rcases List.mem_cons.mp hv with rfl | hv
                  · trivial
                  · exact hst v (List.mem_of_mem_take (List.mem_reverse.mp hv))
                have hrr : ∀ v ∈ rr, q_ok v := fun v hv => hst v (List.mem_of_mem_drop (by rw [hdrop]; exact List.mem_cons_of_mem _ hv))
                rw [hstk]
                split at h1
                · rename_i c2 fs hk
                  split at h1
                  · rename_i hc
                    cases h1
                    rcases q_mlk hmk with ⟨a1, -⟩ | ⟨a1, a2, q, hq, rfl, hq2⟩ | ⟨a1, -⟩
                    · omega
                    · obtain ⟨g1, g2, g3, g4, g5, g6, g7⟩ := q_mt hq
                      have hMet := hM hvs (fun _ => hc.2.2.2) ⟨q, hq, rfl⟩ hσ
                      obtain ⟨T, N, hcl⟩ := q_shc hk
                      have hat := q_wl_at (ad := ad) (cI := cI) (cZ := cZ) (cK := cK) (σ := σ) hk
                      rw [q_cell2] at hat
                      have hrec := va_recv hK hP hcl hat
                      have hi := g7 (by rw [hq2]; decide)
                      have hW8 : ((st2.map (q_cv ad)).map fun v => v.category).sum ≤ 8 := by rw [q_ws_sum]; exact hc.2.2.1
                      refine q_go (va_runV (C := (mY q.1).cls) (n := n) (As := (st.take n).reverse.map (q_cv ad)) (rest := st2.map (q_cv ad)) (R := q_rm mi) ⟨hx, hb, hml, hown, hts⟩ hMet ⟨callB_of n hts (q_wsGood hq) rfl rfl rfl (hts _ g2) (hts _ a2) ⟨g4.1, g4.2, hn⟩ (q_fit_spec hft), hts _ hi.1, hts _ hi.2⟩ ⟨q_blind, by rw [g3, ← hc.2.1]; exact hrec, fun U hU hW => q_pre hC0 hP hS rfl U hU hW⟩ rfl (hlenk hc.1) (q_lv_size hl) rfl (lv_room hW8) hd ⟨Nat.le_refl _, Nat.le_refl _⟩) hS (fun q h => h) (fun H1 locs1 b1 b2 b3 b4 => fin H1 locs1 hrr b1 b2 b3 b4)
                    · omega
                  · cases h1
                · cases h1
                · split at h1
                  · rename_i hk hc
                    cases h1
                    rcases q_mlk hmk with ⟨a1, -⟩ | ⟨a1, a2, q, hq, rfl, hq2⟩ | ⟨a1, -⟩
                    · omega
                    · obtain ⟨g1, g2, g3, g4, g5, g6, g7⟩ := q_mt hq
                      have hMet := hM hvs (fun z => absurd hc.2.1.symm z) ⟨q, hq, rfl⟩ hσ
                      have hrec := vk_recv (i := k - 100) hE.2.2.1 (by omega) hS
                      rw [show 100 + (k - 100) = k by omega] at hrec
                      have hi := g7 (by rw [hq2]; decide)
                      have hW8 : ((st2.map (q_cv ad)).map fun v => v.category).sum ≤ 8 := by rw [q_ws_sum]; exact hc.2.2.2.2
                      refine q_go (va_runV (C := (mY q.1).cls) (n := n) (As := (st.take n).reverse.map (q_cv ad)) (rest := st2.map (q_cv ad)) (R := q_rm mi) ⟨hx, hb, hml, hown, hts⟩ hMet ⟨callB_of n hts (q_wsGood hq) rfl rfl rfl (hts _ g2) (hts _ a2) ⟨g4.1, g4.2, hn⟩ (q_fit_spec hft), hts _ hi.1, hts _ hi.2⟩ ⟨q_blind, by rw [g3, ← hc.2.1]; exact hrec, fun U hU hW => q_pre hC0 hP hS rfl U hU hW⟩ rfl (hlenk hc.1) (q_lv_size hl) rfl (lv_room hW8) hd ⟨Nat.le_refl _, Nat.le_refl _⟩) hS (fun q h => h) (fun H1 locs1 b1 b2 b3 b4 => fin H1 locs1 hrr b1 b2 b3 b4)
                    · omega
                  · cases h1
              · cases h1
            · cases h1
          · cases h1
        · cases h1
      · simp only [q_act] at h1
        split at h1
        · split at h1 <;> cases h1
        · cases h1
      · simp only [q_act] at h1
        split at h1
        · split at h1 <;> cases h1
        · cases h1
    · cases h1
/-- a return -/
theorem q_retCase {r : Option AV} (hC : q_Cx ad cI cZ cK D adV p s m args meth c mi) (h1 : q_one mi pc L st σ = some (.inr (.inl r))) : q_G ad cI cZ cK D p l e s m args below meth c mi (MQ below (q_Q ad cI cZ cK D r σ) args s 0 0 (q_A ad)) pc L st σ := by
  intro H locs ls hA
  obtain ⟨hx, hb, hml, hr, hown, hts, hlk, hK, hj, hE⟩ := hC
  obtain ⟨hP, hS, hl, hσ, hL, hst, hnl⟩ := hA
  unfold q_one at h1
  cases hd : decode (mB mi) pc with
  | error z => rw [hd] at h1; cases h1
  | ok z =>
    obtain ⟨ins, len⟩ := z
    rw [hd] at h1
    dsimp only at h1
    split at h1
    · rename_i hlen
      rcases q_act_inr h1 with ⟨i, rfl⟩ | ⟨i, rfl⟩ | rfl | rfl
      · simp only [q_act] at h1
        split at h1
        · split at h1
          · unfold q_callS at h1
            split at h1
            · split at h1 <;> cases h1
            · cases h1
          · cases h1
        · split at h1
          · unfold q_callS at h1
            split at h1
            · split at h1 <;> cases h1
            · cases h1
          · cases h1
        · split at h1
          · exact (nx_copy h1).elim
          · cases h1
        · cases h1
      · simp only [q_act] at h1
        split at h1
        · split at h1
          · unfold q_callV at h1
            split at h1
            · split at h1
              · split at h1
                · split at h1 <;> cases h1
                · cases h1
                · split at h1 <;> cases h1
              · cases h1
            · cases h1
          · cases h1
        · cases h1
      · simp only [q_lenok, beq_iff_eq] at hlen
        subst hlen
        simp only [q_act] at h1
        split at h1
        · rename_i v
          split at h1
          · rename_i hv
            cases h1
            have hvok := hst (.inl v) List.mem_cons_self
            have hq : ∀ t : State, t.heap = H → s.WarmedH t.vm → q_Q ad cI cZ cK D (some (qI v)) σ args s (.returned (some (.int (i32 v)))) t := fun t ht hW => ⟨rfl, by rw [ht]; exact hP, hS.F ht, hσ, fun w hw => by cases hw; exact hvok⟩
            unfold q_okr at hv
            split at hv
            · rename_i hmr
              exact W.zret hx hb (hr.trans hmr) rfl hq hS.2.2 hd
            · rename_i hmr
              have hz : narrow .boolean (.int (i32 v)) = .int (i32 v) := by
                rcases of_decide_eq_true hv with rfl | rfl
                · decide
                · decide
              exact W.zret hx hb (hr.trans hmr) hz hq hS.2.2 hd
            · cases hv
          · cases h1
        · cases h1
      · simp only [q_lenok, beq_iff_eq] at hlen
        subst hlen
        simp only [q_act] at h1
        split at h1
        · split at h1
          · rename_i hmr
            cases h1
            exact W.vret hx hb (hr.trans hmr) (fun t ht hW => ⟨rfl, by rw [ht]; exact hP, hS.F ht, hσ, fun w hw => by cases hw⟩) hS.2.2 hd
          · cases h1
        · cases h1
    · cases h1
/-- SOUNDNESS of a run, over the contracts of String's two methods -/
theorem q_sound (hj : q_inj ad) (hStr : ∀ mj vs v σ, q_str mj vs = some v → q_okS σ → (∃ q ∈ mtT, q.1 = mj) → (∀ w ∈ vs, q_ok w) → q_Met l ad cI cZ cK D adV mj vs σ (some v) σ) : ∀ (n mi pc : Nat) (L st : List AV) (σ : SS) (r : Option AV) (σ' : SS), q_run n mi pc L st σ = some (r, σ') → ∀ (p : Program) (e : Env) (s : State) (m : MethodId) (args : Array Value) (below : List Frame) (meth : Method) (c : Code), q_Cx ad cI cZ cK D adV p s m args meth c mi → q_G ad cI cZ cK D p l e s m args below meth c mi (MQ below (q_Q ad cI cZ cK D r σ') args s 0 0 (q_A ad)) pc L st σ := by
  intro n
  induction n with
  | zero => intro mi pc L st σ r σ' h; simp [q_run] at h
  | succ n ih =>
    intro mi pc L st σ r σ' h p e s m args below meth c hC
    rw [q_run] at h
    cases h1 : q_one mi pc L st σ with
    | none => rw [h1] at h; cases h
    | some a =>
      rw [h1] at h
      rcases a with ⟨pc', L', st', σ2⟩ | r2 | ⟨mj, vs, pc', st'⟩
      · have kk := ih mi pc' L' st' σ2 r σ' h p e s m args below meth c hC
        have h2 := h1
        unfold q_one at h2
        cases hd : decode (mB mi) pc with
        | error z => rw [hd] at h2; cases h2
        | ok z =>
          obtain ⟨ins, len⟩ := z
          rw [hd] at h2
          dsimp only at h2
          split at h2
          · rename_i hlen
            refine q_step hC hd hlen (fun i x hm => ?_) h2 kk
            rcases q_mlk hm with ⟨-, a2⟩ | ⟨a1, -⟩ | ⟨a1, -⟩
            · exact a2
            · omega
            · omega
          · cases h2
      · cases h
        exact q_retCase hC h1
      · dsimp only at h
        by_cases hm : mO mj = 10
        · rw [if_pos hm] at h
          cases hv : q_str mj vs with
          | none => rw [hv] at h; cases h
          | some v =>
            rw [hv] at h
            exact q_callCase (r := some v) (σ1 := σ) hC h1 (fun hvs _ hrow hσ => hStr mj vs v σ hv hσ hrow hvs) (ih mi pc' L (v :: st') σ r σ' h p e s m args below meth c hC)
        · rw [if_neg hm] at h
          cases hr2 : q_run n mj 0 (q_ent mj vs) [] σ with
          | none => rw [hr2] at h; cases h
          | some y =>
            obtain ⟨r2, σ2⟩ := y
            rw [hr2] at h
            exact q_callCase (r := r2) (σ1 := σ2) hC h1 (fun hvs hlen hrow hσ => q_metOf hrow hj (hlen hm).1 (hlen hm).2 hvs hσ (fun p e s m args below meth c hC2 => ih mj 0 (q_ent mj vs) [] σ r2 σ2 hr2 p e s m args below meth c hC2)) (ih mi pc' L (q_push r2 st') σ2 r σ' h p e s m args below meth c hC)
end QR
