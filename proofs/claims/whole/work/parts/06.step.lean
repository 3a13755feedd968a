theorem i32_ok {z : Int32} : (i32 z.toInt).toInt = z.toInt := by rw [i32_toInt]
theorem i64_ok {z : Int64} : (i64 z.toInt).toInt = z.toInt := by rw [i64_toInt]
theorem q_lcmp_ok (a b : Int) : (i32 (q_lcmp a b)).toInt = q_lcmp a b := by
  unfold q_lcmp
  split
  · decide
  · split
    · decide
    · decide
theorem i64_lt {a b : Int} (ha : (i64 a).toInt = a) (hb : (i64 b).toInt = b) : i64 a < i64 b ↔ a < b := by
  rw [Int64.lt_iff_toInt_lt, ha, hb]
theorem i64_eq {a b : Int} (ha : (i64 a).toInt = a) (hb : (i64 b).toInt = b) : i64 a = i64 b ↔ a = b := by
  rw [← Int64.toInt_inj, ha, hb]
theorem q_lcmp_cv {a b : Int} (ha : (i64 a).toInt = a) (hb : (i64 b).toInt = b) : lg_cmp (i64 a) (i64 b) = i32 (q_lcmp a b) := by
  unfold lg_cmp q_lcmp
  by_cases h1 : a > b
  · rw [if_pos ((i64_lt hb ha).mpr h1), if_pos h1]; decide
  · rw [if_neg (fun h => h1 ((i64_lt hb ha).mp h)), if_neg h1]
    by_cases h2 : a = b
    · rw [if_pos ((i64_eq ha hb).mpr h2), if_pos h2]; decide
    · rw [if_neg (fun h => h2 ((i64_eq ha hb).mp h)), if_neg h2]; decide
theorem i32_i64 {a : Int} (ha : (i32 a).toInt = a) : (i32 a).toInt64 = i64 a ∧ (i64 a).toInt = a := by
  have h1 : (i32 a).toInt64 = i64 a := by
    rw [← Int64.toInt_inj, Int32.toInt_toInt64, ha]
    have hlo := Int32.le_toInt (i32 a)
    have hhi := Int32.toInt_lt (i32 a)
    rw [ha] at hlo hhi
    unfold i64
    rw [Int64.toInt_ofInt_of_le (by omega) (by omega)]
  refine ⟨h1, ?_⟩
  rw [← h1, Int32.toInt_toInt64, ha]
theorem i64_small (n : Fin 2) : Int64.ofNat (n : Nat) = i64 ((n : Nat) : Int) ∧ (i64 ((n : Nat) : Int)).toInt = ((n : Nat) : Int) := by
  match n with
  | 0 => decide
  | 1 => decide
theorem i32_ne0 {b : Int} (hb : (i32 b).toInt = b) (h : ¬ b = 0) : ¬ i32 b = 0 := by
  rw [← i32_0, i32_eq hb (by decide)]; exact h
theorem i64_ne0 {b : Int} (hb : (i64 b).toInt = b) (h : ¬ b = 0) : ¬ i64 b = 0 := by
  have e : i64 0 = 0 := by decide
  rw [← e, i64_eq hb (by decide)]; exact h
theorem q_isI_nl {v : AV} (h : q_isI v = true) : q_isL v = false := by
  rcases v with z | z | z
  · rfl
  · cases h
  · cases z <;> rfl
theorem q_isR_nl {v : AV} (h : q_isR v = true) : q_isL v = false := by
  rcases v with z | z | z
  · rfl
  · cases h
  · cases z <;> rfl
section QT
variable {ad : Nat → Nat} {cI cZ cK : ClassId} {D : va_G} {adV : Nat → Nat} {p : Program} {l : Launch} {e : Env} {s : State} {m : MethodId} {args : Array Value} {below : List Frame} {meth : Method} {c : Code} {mi : Nat} {Q : State → Prop} {pc : Nat} {L st : List AV} {σ : SS} {pc' : Nat} {L' st' : List AV} {σ' : SS}
/-- a branch -/
theorem qs_if {b : Bool} {off : Int} {r : List AV} {st0 : List Value} {P : Prop} (hP : P ↔ b = true) (h : q_if pc off b L r σ = some (.inl (pc', L', st', σ'))) {H : Heap} {locs : List Loc} {ls : Array Slot}
    (row : ∀ (tgt : Nat), (pc : Int) + off = (tgt : Int) → (P → W p l e (q_rm mi) s m args below meth c H locs 0 0 Q (F0 m tgt ls (r.map (q_cv ad)))) → (¬ P → W p l e (q_rm mi) s m args below meth c H locs 0 0 Q (F0 m (pc + 3) ls (r.map (q_cv ad)))) → W p l e (q_rm mi) s m args below meth c H locs 0 0 Q (F0 m pc ls st0))
    (hA : q_At ad cI cZ cK D s mi H locs ls L r σ) (kk : q_G ad cI cZ cK D p l e s m args below meth c mi Q pc' L' st' σ') : W p l e (q_rm mi) s m args below meth c H locs 0 0 Q (F0 m pc ls st0) := by
  unfold q_if at h
  split at h
  · rename_i ht
    cases h
    have k2 := kk H locs ls hA
    refine row _ ht (fun hp => ?_) (fun hn => ?_)
    · rw [if_pos (hP.mp hp)] at k2; exact k2
    · rw [if_neg (fun z => hn (hP.mpr z))] at k2; exact k2
  · cases h
theorem q_step {ins : Instr} {len : Nat} (hC : q_Cx ad cI cZ cK D adV p s m args meth c mi) (hd : decode (mB mi) pc = .ok (ins, len)) (hlen : q_lenok ins len = true)
    (hcp : ∀ i x, mlk (mO mi) i = some (3, x) → Cond.methodLink (cN (mO mi)) i arraycopyName ∈ gw) (h : q_act mi ins pc L st σ = some (.inl (pc', L', st', σ'))) (kk : q_G ad cI cZ cK D p l e s m args below meth c mi Q pc' L' st' σ') : q_G ad cI cZ cK D p l e s m args below meth c mi Q pc L st σ := by
  have hC0 := hC
  obtain ⟨hx, hb, hml, hr, hown, hts, hlk, hK, hj, hE⟩ := hC
  cases ins
  case iconst n =>
    simp only [q_lenok, beq_iff_eq] at hlen
    subst hlen
    simp only [q_act] at h
    split at h
    · rename_i hn
      cases h
      intro H locs ls hA
      obtain ⟨hP, hS, hl, hσ, hL, hst, hnl⟩ := hA
      exact lv_iconst (v := i32 n) hx hb hd rfl (kk H locs ls ⟨hP, hS, hl, hσ, hL, List.forall_mem_cons.mpr ⟨hn, hst⟩, hnl⟩)
    · cases h
  case bipush n =>
    simp only [q_lenok, beq_iff_eq] at hlen
    subst hlen
    simp only [q_act] at h
    split at h
    · rename_i hn
      cases h
      intro H locs ls hA
      obtain ⟨hP, hS, hl, hσ, hL, hst, hnl⟩ := hA
      exact lv_bipush (v := i32 n) hx hb hd hn.2 (kk H locs ls ⟨hP, hS, hl, hσ, hL, List.forall_mem_cons.mpr ⟨hn.1, hst⟩, hnl⟩)
    · cases h
  case sipush n =>
    simp only [q_lenok, beq_iff_eq] at hlen
    subst hlen
    simp only [q_act] at h
    split at h
    · rename_i hn
      cases h
      intro H locs ls hA
      obtain ⟨hP, hS, hl, hσ, hL, hst, hnl⟩ := hA
      exact lv_sipush (v := i32 n) hx hb hd hn.2 (kk H locs ls ⟨hP, hS, hl, hσ, hL, List.forall_mem_cons.mpr ⟨hn.1, hst⟩, hnl⟩)
    · cases h
  case lconst n =>
    simp only [q_lenok, beq_iff_eq] at hlen
    subst hlen
    simp only [q_act] at h
    cases h
    intro H locs ls hA
    obtain ⟨hP, hS, hl, hσ, hL, hst, hnl⟩ := hA
    exact lv_lconst (v := i64 ((n : Nat) : Int)) hx hb hd (i64_small n).1 (kk H locs ls ⟨hP, hS, hl, hσ, hL, List.forall_mem_cons.mpr ⟨(i64_small n).2, hst⟩, hnl⟩)
  case ldc i =>
    simp only [q_lenok, beq_iff_eq] at hlen
    subst hlen
    simp only [q_act] at h
    split at h
    · rename_i z hz
      split at h
      · rename_i hn
        cases h
        intro H locs ls hA
        obtain ⟨hP, hS, hl, hσ, hL, hst, hnl⟩ := hA
        exact lv_ldc (v := i32 z) hx hb hown (hts _ (q_ldk hz)) hd (kk H locs ls ⟨hP, hS, hl, hσ, hL, List.forall_mem_cons.mpr ⟨hn, hst⟩, hnl⟩)
      · cases h
    · split at h
      · rename_i k hk
        cases h
        intro H locs ls hA
        obtain ⟨hP, hS, hl, hσ, hL, hst, hnl⟩ := hA
        obtain ⟨h5, h7, hi⟩ := q_stk hk
        have hvk := hE.2.1 k h7
        rw [hi] at hvk
        have hown5 : s.vm.findClass "SlipperFits$Reader" = some m.cls := by rw [h5] at hown; exact hown
        exact va_ldcS hx hb hown5 hvk hd (kk H locs ls ⟨hP, hS, hl, hσ, hL, List.forall_mem_cons.mpr ⟨trivial, hst⟩, hnl⟩)
      · cases h
  case ldc_w i =>
    simp only [q_lenok, beq_iff_eq] at hlen
    subst hlen
    simp only [q_act] at h
    split at h
    · rename_i z hz
      split at h
      · rename_i hn
        cases h
        intro H locs ls hA
        obtain ⟨hP, hS, hl, hσ, hL, hst, hnl⟩ := hA
        exact lv_ldcw (v := i32 z) hx hb hown (hts _ (q_ldk hz)) hd (kk H locs ls ⟨hP, hS, hl, hσ, hL, List.forall_mem_cons.mpr ⟨hn, hst⟩, hnl⟩)
      · cases h
    · cases h
  case ldc2_w i =>
    simp only [q_lenok, beq_iff_eq] at hlen
    subst hlen
    simp only [q_act] at h
    split at h
    · rename_i z hz
      split at h
      · rename_i hn
        cases h
        intro H locs ls hA
        obtain ⟨hP, hS, hl, hσ, hL, hst, hnl⟩ := hA
        exact lv_ldc2 (v := i64 z) hx hb hown (hts _ (q_llk hz)) hd (kk H locs ls ⟨hP, hS, hl, hσ, hL, List.forall_mem_cons.mpr ⟨hn, hst⟩, hnl⟩)
      · cases h
    · cases h
  case iload_n k =>
    simp only [q_lenok, beq_iff_eq] at hlen
    subst hlen
    simp only [q_act] at h
    refine qs_load rfl h (fun v H locs ls hv hs w => ?_) kk
    rcases v with z | z | z
    · exact lv_iload_n hx hb hd rfl hs w
    · cases hv
    · cases z <;> cases hv
  case iload k =>
    simp only [q_lenok, beq_iff_eq] at hlen
    subst hlen
    simp only [q_act] at h
    refine qs_load rfl h (fun v H locs ls hv hs w => ?_) kk
    rcases v with z | z | z
    · exact lv_iload hx hb hd hs w
    · cases hv
    · cases z <;> cases hv
  case lload_n k =>
    simp only [q_lenok, beq_iff_eq] at hlen
    subst hlen
    simp only [q_act] at h
    refine qs_load rfl h (fun v H locs ls hv hs w => ?_) kk
    rcases v with z | z | z
    · cases hv
    · exact lv_lload_n hx hb hd rfl hs w
    · cases z <;> cases hv
  case lload k =>
    simp only [q_lenok, beq_iff_eq] at hlen
    subst hlen
    simp only [q_act] at h
    refine qs_load rfl h (fun v H locs ls hv hs w => ?_) kk
    rcases v with z | z | z
    · cases hv
    · exact lv_lload hx hb hd hs w
    · cases z <;> cases hv
  case aload_n k =>
    simp only [q_lenok, beq_iff_eq] at hlen
    subst hlen
    simp only [q_act] at h
    refine qs_load rfl h (fun v H locs ls hv hs w => ?_) kk
    rcases v with z | z | z
    · cases hv
    · cases hv
    · cases z with
      | none => cases hv
      | some z => exact lv_aload_n hx hb hd rfl hs w
  case aload k =>
    simp only [q_lenok, beq_iff_eq] at hlen
    subst hlen
    simp only [q_act] at h
    refine qs_load rfl h (fun v H locs ls hv hs w => ?_) kk
    rcases v with z | z | z
    · cases hv
    · cases hv
    · cases z with
      | none => cases hv
      | some z => exact lv_aload hx hb hd hs w
  case istore_n k =>
    simp only [q_lenok, beq_iff_eq] at hlen
    subst hlen
    simp only [q_act] at h
    refine qs_store (fun v hv => q_isI_nl hv) h (fun v r H locs ls lv hv hl hi w => ?_) kk
    rcases v with z | z | z
    · exact lv_istore_n hx hb hd rfl hl hi rfl w
    · cases hv
    · cases z <;> cases hv
  case istore k =>
    simp only [q_lenok, beq_iff_eq] at hlen
    subst hlen
    simp only [q_act] at h
    refine qs_store (fun v hv => q_isI_nl hv) h (fun v r H locs ls lv hv hl hi w => ?_) kk
    rcases v with z | z | z
    · exact lv_istore hx hb hd hl hi rfl w
    · cases hv
    · cases z <;> cases hv
  case astore_n k =>
    simp only [q_lenok, beq_iff_eq] at hlen
    subst hlen
    simp only [q_act] at h
    refine qs_store (fun v hv => q_isR_nl hv) h (fun v r H locs ls lv hv hl hi w => ?_) kk
    rcases v with z | z | z
    · cases hv
    · cases hv
    · cases z with
      | none => cases hv
      | some z => exact lv_astore_n hx hb hd rfl hl hi rfl w
  case iinc i n =>
    simp only [q_lenok, beq_iff_eq] at hlen
    subst hlen
    simp only [q_act, q_ld] at h
    split at h
    · rename_i z hz
      split at h
      · rename_i L2 hs
        cases h
        intro H locs ls hA
        obtain ⟨hP, hS, hl, hσ, hL, hst, hnl⟩ := hA
        obtain ⟨hlen, l0, h1, h2⟩ := hl
        have hsl := q_st_len hs
        have hn2 := q_st_nl hs hnl rfl
        obtain ⟨k0, hk0⟩ := List.getElem?_of_mem (h2 i _ hz (by intro z; cases z))
        exact lv_iinc (v := i32 (q_add z n)) hx hb hd h1 hk0 (by unfold q_add; rw [i32_toInt]; rfl) (by rw [← hlen]; exact hsl.2) rfl (fun ls' hl' => kk H locs ls' ⟨hP, hS, ⟨by rw [hsl.1]; exact hlen, _, hl', q_lv_st h2 hn2.1 hs⟩, hσ, q_st_ok hs hL i32_ok, hst, fun _ => hn2.2⟩)
      · cases h
    · cases h
  case iadd =>
    simp only [q_lenok, beq_iff_eq] at hlen
    subst hlen
    simp only [q_act] at h
    refine qs_bin h (fun a b z hz => by cases hz; exact i32_ok) (fun a b z r H locs ls ha hb' hz w => ?_) kk
    cases hz
    rw [q_add, i32_toInt] at w
    exact lv_iadd hx hb hd w
  case isub =>
    simp only [q_lenok, beq_iff_eq] at hlen
    subst hlen
    simp only [q_act] at h
    refine qs_bin h (fun a b z hz => by cases hz; exact i32_ok) (fun a b z r H locs ls ha hb' hz w => ?_) kk
    cases hz
    rw [q_sub, i32_toInt] at w
    exact lv_isub hx hb hd w
  case imul =>
    simp only [q_lenok, beq_iff_eq] at hlen
    subst hlen
    simp only [q_act] at h
    refine qs_bin h (fun a b z hz => by cases hz; exact i32_ok) (fun a b z r H locs ls ha hb' hz w => ?_) kk
    cases hz
    rw [q_mul, i32_toInt] at w
    exact lv_imul hx hb hd w
  case iand =>
    simp only [q_lenok, beq_iff_eq] at hlen
    subst hlen
    simp only [q_act] at h
    refine qs_bin h (fun a b z hz => by cases hz; exact i32_ok) (fun a b z r H locs ls ha hb' hz w => ?_) kk
    cases hz
    rw [q_and, i32_toInt] at w
    exact lv_iand hx hb hd w
  case ior =>
    simp only [q_lenok, beq_iff_eq] at hlen
    subst hlen
    simp only [q_act] at h
    refine qs_bin h (fun a b z hz => by cases hz; exact i32_ok) (fun a b z r H locs ls ha hb' hz w => ?_) kk
    cases hz
    rw [q_or, i32_toInt] at w
    exact lv_ior hx hb hd w
  case ixor =>
    simp only [q_lenok, beq_iff_eq] at hlen
    subst hlen
    simp only [q_act] at h
    refine qs_bin h (fun a b z hz => by cases hz; exact i32_ok) (fun a b z r H locs ls ha hb' hz w => ?_) kk
    cases hz
    rw [q_xor, i32_toInt] at w
    exact lv_ixor hx hb hd w
  case ishl =>
    simp only [q_lenok, beq_iff_eq] at hlen
    subst hlen
    simp only [q_act] at h
    refine qs_bin h (fun a b z hz => by cases hz; exact i32_ok) (fun a b z r H locs ls ha hb' hz w => ?_) kk
    cases hz
    rw [q_shl, i32_toInt] at w
    exact lv_ishl hx hb hd w
  case ishr =>
    simp only [q_lenok, beq_iff_eq] at hlen
    subst hlen
    simp only [q_act] at h
    refine qs_bin h (fun a b z hz => by cases hz; exact i32_ok) (fun a b z r H locs ls ha hb' hz w => ?_) kk
    cases hz
    rw [q_shr, i32_toInt] at w
    exact lv_ishr hx hb hd w
  case iushr =>
    simp only [q_lenok, beq_iff_eq] at hlen
    subst hlen
    simp only [q_act] at h
    refine qs_bin h (fun a b z hz => by cases hz; exact i32_ok) (fun a b z r H locs ls ha hb' hz w => ?_) kk
    cases hz
    rw [q_ushr, i32_toInt] at w
    exact lv_iushr hx hb hd rfl w
  case idiv =>
    simp only [q_lenok, beq_iff_eq] at hlen
    subst hlen
    simp only [q_act] at h
    refine qs_bin h (fun a b z hz => ?_) (fun a b z r H locs ls ha hb' hz w => ?_) kk
    · split at hz
      · cases hz
      · cases hz; exact i32_ok
    · split at hz
      · cases hz
      · rename_i hne
        cases hz
        rw [q_div, i32_toInt] at w
        exact lv_idiv hx hb hd (i32_ne0 hb' hne) w
  case irem =>
    simp only [q_lenok, beq_iff_eq] at hlen
    subst hlen
    simp only [q_act] at h
    refine qs_bin h (fun a b z hz => ?_) (fun a b z r H locs ls ha hb' hz w => ?_) kk
    · split at hz
      · cases hz
      · cases hz; exact i32_ok
    · split at hz
      · cases hz
      · rename_i hne
        cases hz
        rw [q_rem, i32_toInt] at w
        exact lv_irem hx hb hd (i32_ne0 hb' hne) w
  case ladd =>
    simp only [q_lenok, beq_iff_eq] at hlen
    subst hlen
    simp only [q_act] at h
    refine qs_binl h (fun a b z hz => by cases hz; exact i64_ok) (fun a b z r H locs ls ha hb' hz w => ?_) kk
    cases hz
    rw [q_ladd, i64_toInt] at w
    exact lv_ladd hx hb hd w
  case lmul =>
    simp only [q_lenok, beq_iff_eq] at hlen
    subst hlen
    simp only [q_act] at h
    refine qs_binl h (fun a b z hz => by cases hz; exact i64_ok) (fun a b z r H locs ls ha hb' hz w => ?_) kk
    cases hz
    rw [q_lmul, i64_toInt] at w
    exact lv_lmul hx hb hd w
  case land =>
    simp only [q_lenok, beq_iff_eq] at hlen
    subst hlen
    simp only [q_act] at h
    refine qs_binl h (fun a b z hz => by cases hz; exact i64_ok) (fun a b z r H locs ls ha hb' hz w => ?_) kk
    cases hz
    rw [q_land, i64_toInt] at w
    exact lv_land hx hb hd w
  case lrem =>
    simp only [q_lenok, beq_iff_eq] at hlen
    subst hlen
    simp only [q_act] at h
    refine qs_binl h (fun a b z hz => ?_) (fun a b z r H locs ls ha hb' hz w => ?_) kk
    · split at hz
      · cases hz
      · cases hz; exact i64_ok
    · split at hz
      · cases hz
      · rename_i hne
        cases hz
        rw [q_lrem, i64_toInt] at w
        exact lv_lrem hx hb hd (i64_ne0 hb' hne) w
  case i2l =>
    simp only [q_lenok, beq_iff_eq] at hlen
    subst hlen
    simp only [q_act] at h
    split at h
    · rename_i a r
      cases h
      intro H locs ls hA
      obtain ⟨hP, hS, hl, hσ, hL, hst, hnl⟩ := hA
      have ha := hst (.inl a) List.mem_cons_self
      exact lv_i2l hx hb hd (i32_i64 ha).1 (kk H locs ls ⟨hP, hS, hl, hσ, hL, List.forall_mem_cons.mpr ⟨(i32_i64 ha).2, fun w hw => hst w (List.mem_cons_of_mem _ hw)⟩, hnl⟩)
    · cases h
  case l2i =>
    simp only [q_lenok, beq_iff_eq] at hlen
    subst hlen
    simp only [q_act] at h
    split at h
    · rename_i a r
      cases h
      intro H locs ls hA
      obtain ⟨hP, hS, hl, hσ, hL, hst, hnl⟩ := hA
      exact lv_l2i hx hb hd (by unfold q_l2i; rw [i32_toInt]) (kk H locs ls ⟨hP, hS, hl, hσ, hL, List.forall_mem_cons.mpr ⟨i32_ok, fun w hw => hst w (List.mem_cons_of_mem _ hw)⟩, hnl⟩)
    · cases h
  case lcmp =>
    simp only [q_lenok, beq_iff_eq] at hlen
    subst hlen
    simp only [q_act] at h
    split at h
    · rename_i b a r
      cases h
      intro H locs ls hA
      obtain ⟨hP, hS, hl, hσ, hL, hst, hnl⟩ := hA
      have hb' := hst (.inr (.inl b)) List.mem_cons_self
      have ha := hst (.inr (.inl a)) (List.mem_cons_of_mem _ List.mem_cons_self)
      refine W.lcmp hx hb hd ?_
      rw [q_lcmp_cv ha hb']
      exact kk H locs ls ⟨hP, hS, hl, hσ, hL, List.forall_mem_cons.mpr ⟨q_lcmp_ok a b, fun w hw => hst w (List.mem_cons_of_mem _ (List.mem_cons_of_mem _ hw))⟩, hnl⟩
    · cases h
  case dup =>
    simp only [q_lenok, beq_iff_eq] at hlen
    subst hlen
    simp only [q_act] at h
    split at h
    · rename_i v r
      split at h
      · rename_i hv
        cases h
        intro H locs ls hA
        obtain ⟨hP, hS, hl, hσ, hL, hst, hnl⟩ := hA
        exact lv_dup hx hb hd (q_cat hv) (kk H locs ls ⟨hP, hS, hl, hσ, hL, List.forall_mem_cons.mpr ⟨hst v List.mem_cons_self, hst⟩, hnl⟩)
      · cases h
    · cases h
  case dup2 =>
    simp only [q_lenok, beq_iff_eq] at hlen
    subst hlen
    simp only [q_act] at h
    split at h
    · rename_i v w r
      split at h
      · rename_i hv
        cases h
        intro H locs ls hA
        obtain ⟨hP, hS, hl, hσ, hL, hst, hnl⟩ := hA
        exact lv_dup2_11 hx hb hd (q_cat hv.1) (q_cat hv.2) (kk H locs ls ⟨hP, hS, hl, hσ, hL, List.forall_mem_cons.mpr ⟨hst v List.mem_cons_self, List.forall_mem_cons.mpr ⟨hst w (List.mem_cons_of_mem _ List.mem_cons_self), hst⟩⟩, hnl⟩)
      · cases h
    · cases h
  case ifCond cd off =>
    simp only [q_lenok, beq_iff_eq] at hlen
    subst hlen
    simp only [q_act] at h
    split at h
    · rename_i a r
      intro H locs ls hA
      obtain ⟨hP, hS, hl, hσ, hL, hst, hnl⟩ := hA
      have ha := hst (.inl a) List.mem_cons_self
      have h0 : (i32 0).toInt = 0 := by decide
      have hA' : q_At ad cI cZ cK D s mi H locs ls L r σ := ⟨hP, hS, hl, hσ, hL, fun w hw => hst w (List.mem_cons_of_mem _ hw), hnl⟩
      cases cd
      · exact qs_if (P := i32 a = 0) (by rw [← i32_0, i32_eq ha h0]; simp [q_cond]) h (fun tgt ht k1 k2 => lv_if_eq hx hb hd ht k1 k2) hA' kk
      · exact qs_if (P := ¬ i32 a = 0) (by rw [← i32_0, i32_eq ha h0]; simp [q_cond]) h (fun tgt ht k1 k2 => lv_if_ne hx hb hd ht k1 (fun z => k2 (fun n => n z))) hA' kk
      · exact qs_if (P := i32 a < 0) (by rw [← i32_0, i32_lt ha h0]; simp [q_cond]) h (fun tgt ht k1 k2 => lv_if_lt hx hb hd ht k1 k2) hA' kk
      · exact qs_if (P := 0 ≤ i32 a) (by rw [← i32_0, i32_le h0 ha]; simp [q_cond]) h (fun tgt ht k1 k2 => lv_if_ge hx hb hd ht k1 k2) hA' kk
      · exact qs_if (P := 0 < i32 a) (by rw [← i32_0, i32_lt h0 ha]; simp [q_cond]) h (fun tgt ht k1 k2 => lv_if_gt hx hb hd ht k1 k2) hA' kk
      · exact qs_if (P := i32 a ≤ 0) (by rw [← i32_0, i32_le ha h0]; simp [q_cond]) h (fun tgt ht k1 k2 => lv_if_le hx hb hd ht k1 k2) hA' kk
    · cases h
  case if_icmp cd off =>
    simp only [q_lenok, beq_iff_eq] at hlen
    subst hlen
    simp only [q_act] at h
    split at h
    · rename_i b a r
      intro H locs ls hA
      obtain ⟨hP, hS, hl, hσ, hL, hst, hnl⟩ := hA
      have hb' := hst (.inl b) List.mem_cons_self
      have ha := hst (.inl a) (List.mem_cons_of_mem _ List.mem_cons_self)
      have hA' : q_At ad cI cZ cK D s mi H locs ls L r σ := ⟨hP, hS, hl, hσ, hL, fun w hw => hst w (List.mem_cons_of_mem _ (List.mem_cons_of_mem _ hw)), hnl⟩
      cases cd
      · exact qs_if (P := i32 a = i32 b) (by rw [i32_eq ha hb']; simp [q_cond]) h (fun tgt ht k1 k2 => lv_icmp_eq hx hb hd ht k1 k2) hA' kk
      · exact qs_if (P := ¬ i32 a = i32 b) (by rw [i32_eq ha hb']; simp [q_cond]) h (fun tgt ht k1 k2 => lv_icmp_ne hx hb hd ht k1 (fun z => k2 (fun n => n z))) hA' kk
      · exact qs_if (P := i32 a < i32 b) (by rw [i32_lt ha hb']; simp [q_cond]) h (fun tgt ht k1 k2 => lv_icmp_lt hx hb hd ht k1 k2) hA' kk
      · exact qs_if (P := i32 b ≤ i32 a) (by rw [i32_le hb' ha]; simp [q_cond]) h (fun tgt ht k1 k2 => lv_icmp_ge hx hb hd ht k1 k2) hA' kk
      · exact qs_if (P := i32 b < i32 a) (by rw [i32_lt hb' ha]; simp [q_cond]) h (fun tgt ht k1 k2 => lv_icmp_gt hx hb hd ht k1 k2) hA' kk
      · exact qs_if (P := i32 a ≤ i32 b) (by rw [i32_le ha hb']; simp [q_cond]) h (fun tgt ht k1 k2 => lv_icmp_le hx hb hd ht k1 k2) hA' kk
    · cases h
  case goto off =>
    simp only [q_lenok, beq_iff_eq] at hlen
    subst hlen
    simp only [q_act] at h
    obtain ⟨h1, h2⟩ := q_jmp_spec h
    cases h2
    intro H locs ls hA
    exact lv_goto hx hb hd h1 (kk H locs ls hA)
  case tableswitch dflt lo hi offs =>
    simp only [q_act] at h
    split at h
    · rename_i a r
      intro H locs ls hA
      obtain ⟨hP, hS, hl, hσ, hL, hst, hnl⟩ := hA
      have ha : (i32 a).toInt = a := hst (.inl a) List.mem_cons_self
      have hA' : q_At ad cI cZ cK D s mi H locs ls L r σ := ⟨hP, hS, hl, hσ, hL, fun w hw => hst w (List.mem_cons_of_mem _ hw), hnl⟩
      split at h
      · rename_i hout
        obtain ⟨h1, h2⟩ := q_jmp_spec h
        cases h2
        exact lv_tableOut hx hb hd (by rw [ha]; exact hout) h1 (kk H locs ls hA')
      · rename_i hin
        split at h
        · rename_i off ho
          obtain ⟨h1, h2⟩ := q_jmp_spec h
          cases h2
          exact lv_tableIn hx hb hd (by rw [ha]; exact fun z => hin (Or.inl z)) (by rw [ha]; exact fun z => hin (Or.inr z)) (by rw [ha]; exact ho) h1 (kk H locs ls hA')
        · cases h
    · cases h
  case getfield i =>
    simp only [q_lenok, beq_iff_eq] at hlen
    subst hlen
    simp only [q_act] at h
    exact qs_get hC0 hd h kk
  case putfield i =>
    simp only [q_lenok, beq_iff_eq] at hlen
    subst hlen
    simp only [q_act] at h
    exact qs_put hC0 hd h kk
  case iaload =>
    simp only [q_lenok, beq_iff_eq] at hlen
    subst hlen
    simp only [q_act] at h
    exact qs_ald hC0 (Or.inl ⟨rfl, hd⟩) h kk
  case baload =>
    simp only [q_lenok, beq_iff_eq] at hlen
    subst hlen
    simp only [q_act] at h
    exact qs_ald hC0 (Or.inr ⟨rfl, hd⟩) h kk
  case iastore =>
    simp only [q_lenok, beq_iff_eq] at hlen
    subst hlen
    simp only [q_act] at h
    exact qs_ast hC0 (Or.inl ⟨rfl, hd⟩) h kk
  case bastore =>
    simp only [q_lenok, beq_iff_eq] at hlen
    subst hlen
    simp only [q_act] at h
    exact qs_ast hC0 (Or.inr ⟨rfl, hd⟩) h kk
  case aaload =>
    simp only [q_lenok, beq_iff_eq] at hlen
    subst hlen
    simp only [q_act] at h
    exact qs_aald hC0 hd h kk
  case invokestatic i =>
    simp only [q_lenok, beq_iff_eq] at hlen
    subst hlen
    simp only [q_act] at h
    split at h
    · split at h
      · unfold q_callS at h
        split at h
        · split at h <;> cases h
        · cases h
      · cases h
    · split at h
      · unfold q_callS at h
        split at h
        · split at h <;> cases h
        · cases h
      · cases h
    · rename_i x hm
      split at h
      · rename_i hR
        exact qs_copy hC0 (hcp i x hm) hR hd h kk
      · cases h
    · cases h
  case invokevirtual i =>
    simp only [q_act] at h
    split at h
    · split at h
      · unfold q_callV at h
        split at h
        · split at h
          · split at h
            · split at h <;> cases h
            · cases h
            · split at h <;> cases h
          · cases h
        · cases h
      · cases h
    · cases h
  case ireturn =>
    simp only [q_act] at h
    split at h
    · split at h <;> cases h
    · cases h
  case return_ =>
    simp only [q_act] at h
    split at h
    · split at h <;> cases h
    · cases h
  all_goals (simp only [q_act] at h; cases h)
end QT
