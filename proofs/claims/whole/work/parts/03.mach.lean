/-! ===== THE ABSTRACT MACHINE: ints are numbers in range, references are places in the world ===== -/
abbrev AV : Type := Int ⊕ (Int ⊕ Option Nat)
abbrev qI (z : Int) : AV := .inl z
abbrev qL (z : Int) : AV := .inr (.inl z)
abbrev qR (k : Nat) : AV := .inr (.inr (some k))
abbrev qU : AV := .inr (.inr none)
abbrev SS : Type := Nat → Nat → Int
def q_put (σ : SS) (k j : Nat) (v : Int) : SS := fun a b => if a = k ∧ b = j then v else σ a b
/-- a whole row of n places from row f at place sp, into row k from place dp on -/
def q_cpy (σ : SS) (k : Nat) (f : Nat → Int) (sp dp n : Nat) : SS := fun a b => if a = k ∧ dp ≤ b ∧ b < dp + n then f (sp + (b - dp)) else σ a b
def i32 (z : Int) : Int32 := Int32.ofInt z
def i64 (z : Int) : Int64 := Int64.ofInt z
def q_add (a b : Int) : Int := (i32 a + i32 b).toInt
def q_sub (a b : Int) : Int := (i32 a - i32 b).toInt
def q_mul (a b : Int) : Int := (i32 a * i32 b).toInt
def q_div (a b : Int) : Int := (i32 a / i32 b).toInt
def q_rem (a b : Int) : Int := (i32 a - i32 a / i32 b * i32 b).toInt
def q_and (a b : Int) : Int := (i32 a &&& i32 b).toInt
def q_or (a b : Int) : Int := (i32 a ||| i32 b).toInt
def q_xor (a b : Int) : Int := (i32 a ^^^ i32 b).toInt
def q_shl (a b : Int) : Int := (i32 a <<< (i32 b &&& 31)).toInt
def q_shr (a b : Int) : Int := (i32 a >>> (i32 b &&& 31)).toInt
def q_ushr (a b : Int) : Int := ((i32 a).toUInt32 >>> ((i32 b).toUInt32 &&& Int32.toUInt32 31)).toInt32.toInt
def q_ladd (a b : Int) : Int := (i64 a + i64 b).toInt
def q_lmul (a b : Int) : Int := (i64 a * i64 b).toInt
def q_land (a b : Int) : Int := (i64 a &&& i64 b).toInt
def q_lrem (a b : Int) : Int := (i64 a - i64 a / i64 b * i64 b).toInt
def q_l2i (a : Int) : Int := (i64 a).toInt32.toInt
def q_lcmp (a b : Int) : Int := if a > b then 1 else if a = b then 0 else -1
def q_cond (c : ClassFile.Cond) (a b : Int) : Bool := match c with
  | .eq => decide (a = b)
  | .ne => decide (¬ a = b)
  | .lt => decide (a < b)
  | .ge => decide (b ≤ a)
  | .gt => decide (b < a)
  | .le => decide (a ≤ b)
/-- what an instruction does: goes on, returns, calls -/
abbrev QA : Type := (Nat × List AV × List AV × SS) ⊕ (Option AV ⊕ (Nat × List AV × Nat × List AV))
def q_nx (pc : Nat) (L st : List AV) (σ : SS) : Option QA := some (.inl (pc, L, st, σ))
def q_jmp (pc : Nat) (off : Int) (L st : List AV) (σ : SS) : Option QA := if ((pc : Int) + off = (((pc : Int) + off).toNat : Int)) then q_nx ((pc : Int) + off).toNat L st σ else none
def q_if (pc : Nat) (off : Int) (c : Bool) (L st : List AV) (σ : SS) : Option QA := if ((pc : Int) + off = (((pc : Int) + off).toNat : Int)) then q_nx (if c = true then ((pc : Int) + off).toNat else pc + 3) L st σ else none
def q_ld (L : List AV) (i : Nat) : Option AV := L[i]?
def q_isL : AV → Bool
  | .inr (.inl _) => true
  | _ => false
def q_isI : AV → Bool
  | .inl _ => true
  | _ => false
def q_isR : AV → Bool
  | .inr (.inr (some _)) => true
  | _ => false
/-- a store into a local: no longs stand there, but in 'in', which stores nothing -/
def q_st (mi : Nat) (L : List AV) (i : Nat) (v : AV) : Option (List AV) := if i < L.length ∧ ¬ mi = 900 then some (L.set i v) else none
def q_bin (f : Int → Int → Option Int) (pc : Nat) (L st : List AV) (σ : SS) : Option QA := match st with
  | .inl b :: .inl a :: r => match f a b with
    | some z => q_nx (pc + 1) L (qI z :: r) σ
    | none => none
  | _ => none
def q_binl (f : Int → Int → Option Int) (pc : Nat) (L st : List AV) (σ : SS) : Option QA := match st with
  | .inr (.inl b) :: .inr (.inl a) :: r => match f a b with
    | some z => q_nx (pc + 1) L (qL z :: r) σ
    | none => none
  | _ => none
def q_load (i len : Nat) (p : AV → Bool) (pc : Nat) (L st : List AV) (σ : SS) : Option QA := match q_ld L i with
  | some v => if p v = true then q_nx (pc + len) L (v :: st) σ else none
  | none => none
def q_store (mi i len : Nat) (p : AV → Bool) (pc : Nat) (L st : List AV) (σ : SS) : Option QA := match st with
  | v :: r => if p v = true then (match q_st mi L i v with
    | some L' => q_nx (pc + len) L' r σ
    | none => none) else none
  | _ => none
def q_cty : Nat → Nat → FieldType := fun c => match c with
  | 0 => tyX0
  | 1 => tyX1
  | 2 => tyX2
  | 3 => tyX3
  | 4 => tyX4
  | 5 => tyX5
  | 6 => tyX6
  | 7 => tyX7
  | 8 => tyX8
  | _ => tyX9
def q_fin : Nat → Nat → Bool := fun c j => match vwCl[c]? with
  | some q => (q.2.1 j).2.2.2
  | none => true
def q_get (mi idx pc : Nat) (L st : List AV) (σ : SS) : Option QA := match st with
  | .inr (.inr (some k)) :: r => match flk (mO mi) idx, qsh k with
    | some (ci, j), some (2, c2, fs) => if c2 = ci then (match fs[j]? with
      | some none => q_nx (pc + 3) L (qI (σ k j) :: r) σ
      | some (some k2) => q_nx (pc + 3) L (qR k2 :: r) σ
      | none => none) else none
    | _, _ => none
  | _ => none
def q_okf (t : FieldType) (v : Int) : Bool := match t with
  | .int => true
  | .boolean => decide (v = 0 ∨ v = 1)
  | _ => false
def q_putf (mi idx pc : Nat) (L st : List AV) (σ : SS) : Option QA := match st with
  | .inl v :: .inr (.inr (some k)) :: r => match flk (mO mi) idx, qsh k with
    | some (ci, j), some (2, c2, fs) => if c2 = ci then (match fs[j]? with
      | some none => if q_fin ci j = false ∧ q_okf (q_cty ci j) v = true then q_nx (pc + 3) L r (q_put σ k j v) else none
      | _ => none) else none
    | _, _ => none
  | _ => none
def q_ald (kind pc : Nat) (L st : List AV) (σ : SS) : Option QA := match st with
  | .inl i :: .inr (.inr (some k)) :: r => match qsh k with
    | some (kd, n, _) => if kd = kind ∧ 0 ≤ i ∧ i < (n : Int) then q_nx (pc + 1) L (qI (σ k i.toNat) :: r) σ else none
    | none => none
  | _ => none
def q_ast (kind pc : Nat) (L st : List AV) (σ : SS) : Option QA := match st with
  | .inl v :: .inl i :: .inr (.inr (some k)) :: r => match qsh k with
    | some (kd, n, _) => if kd = kind ∧ 0 ≤ i ∧ i < (n : Int) ∧ (kind = 0 ∨ v = 0 ∨ v = 1) then q_nx (pc + 1) L r (q_put σ k i.toNat v) else none
    | none => none
  | _ => none
def q_aald (pc : Nat) (L st : List AV) (σ : SS) : Option QA := match st with
  | .inl i :: .inr (.inr (some k)) :: r => match qsh k with
    | some (3, n, fs) => if 0 ≤ i ∧ i < (n : Int) then (match fs[i.toNat]? with
      | some (some k2) => q_nx (pc + 1) L (qR k2 :: r) σ
      | _ => none) else none
    | _ => none
  | _ => none
/-- how many arguments a method takes, the receiver apart -/
def q_par (mj : Nat) : Option Nat := (parseMethodDescriptor (mY mj).desc).map (fun d => d.parameters.length)
def q_w (v : AV) : Nat := if q_isL v then 2 else 1
/-- no longs, but for 'in' -/
def q_nl (mj : Nat) (vs : List AV) : Bool := mj == 900 || vs.all (fun v => !q_isL v)
def q_sl (vs : List AV) : List AV := vs.flatMap (fun v => if q_isL v then [v, qU] else [v])
/-- a call's arguments, in order -/
def q_callS (mj pc : Nat) (st : List AV) : Option QA := match q_par mj with
  | some n => if n ≤ st.length ∧ ((st.drop n).map q_w).sum ≤ 8 ∧ (q_sl (st.take n).reverse).length ≤ mL mj ∧ q_nl mj (st.take n).reverse = true then some (.inr (.inr (mj, (st.take n).reverse, pc + 3, st.drop n))) else none
  | none => none
def q_callV (mj pc : Nat) (st : List AV) : Option QA := match q_par mj with
  | some n => (match st.drop n with
    | .inr (.inr (some k)) :: r => (match qsh k with
      | some (2, c2, _) => if n ≤ st.length ∧ c2 = mO mj ∧ (r.map q_w).sum ≤ 8 ∧ (q_sl (qR k :: (st.take n).reverse)).length ≤ mL mj ∧ q_nl mj (qR k :: (st.take n).reverse) = true then some (.inr (.inr (mj, qR k :: (st.take n).reverse, pc + 3, r))) else none
      | some _ => none
      | none => if n ≤ st.length ∧ 10 = mO mj ∧ 100 ≤ k ∧ k < 107 ∧ (r.map q_w).sum ≤ 8 then some (.inr (.inr (mj, qR k :: (st.take n).reverse, pc + 3, r))) else none)
    | _ => none)
  | none => none
def q_copy (mi pc : Nat) (L st : List AV) (σ : SS) : Option QA := match st with
  | .inl n :: .inl dp :: .inr (.inr (some k1)) :: .inl sp :: .inr (.inr (some k0)) :: r => match qsh k0, qsh k1 with
    | some (0, n0, _), some (0, n1, _) => if 0 ≤ sp ∧ 0 ≤ dp ∧ 0 ≤ n ∧ sp + n ≤ (n0 : Int) ∧ dp + n ≤ (n1 : Int) ∧ (r.map q_w).sum ≤ 8 then q_nx (pc + 3) L r (q_cpy σ k1 (σ k0) sp.toNat dp.toNat n.toNat) else none
    | _, _ => none
  | _ => none
/-- may method mi call method mj: the room fits -/
def q_fit (mi mj : Nat) : Bool := decide (mF mj + 1 ≤ mF mi ∧ 8 + (mL mj + 11) + mW mj ≤ mW mi)
def q_okr (mi : Nat) (v : Int) : Bool := match mR mi with
  | some .int => true
  | some .boolean => decide (v = 0 ∨ v = 1)
  | _ => false
/-- the instructions that the machine knows, and their lengths -/
def q_lenok (ins : Instr) (len : Nat) : Bool := match ins with
  | .iconst _ => len == 1
  | .bipush _ => len == 2
  | .sipush _ => len == 3
  | .lconst _ => len == 1
  | .ldc _ => len == 2
  | .ldc_w _ => len == 3
  | .ldc2_w _ => len == 3
  | .iload_n _ => len == 1
  | .iload _ => len == 2
  | .lload_n _ => len == 1
  | .lload _ => len == 2
  | .aload_n _ => len == 1
  | .aload _ => len == 2
  | .istore_n _ => len == 1
  | .istore _ => len == 2
  | .astore_n _ => len == 1
  | .iinc _ _ => len == 3
  | .ifCond _ _ => len == 3
  | .if_icmp _ _ => len == 3
  | .goto _ => len == 3
  | .tableswitch _ _ _ _ => true
  | .getfield _ => len == 3
  | .putfield _ => len == 3
  | .invokestatic _ => len == 3
  | .invokevirtual _ => len == 3
  | _ => len == 1
def q_act (mi : Nat) (ins : Instr) (pc : Nat) (L st : List AV) (σ : SS) : Option QA := match ins with
  | .iconst n => if (i32 n).toInt = n then q_nx (pc + 1) L (qI n :: st) σ else none
  | .bipush n => if (i32 n).toInt = n ∧ (Int8.ofInt n).toInt32 = i32 n then q_nx (pc + 2) L (qI n :: st) σ else none
  | .sipush n => if (i32 n).toInt = n ∧ (Int16.ofInt n).toInt32 = i32 n then q_nx (pc + 3) L (qI n :: st) σ else none
  | .lconst n => q_nx (pc + 1) L (qL ((n : Nat) : Int) :: st) σ
  | .ldc i => (match ldk (mO mi) i with
    | some z => if (i32 z).toInt = z then q_nx (pc + 2) L (qI z :: st) σ else none
    | none => (match stk (mO mi) i with
      | some k => q_nx (pc + 2) L (qR (100 + k) :: st) σ
      | none => none))
  | .ldc_w i => (match ldk (mO mi) i with
    | some z => if (i32 z).toInt = z then q_nx (pc + 3) L (qI z :: st) σ else none
    | none => none)
  | .ldc2_w i => (match llk (mO mi) i with
    | some z => if (i64 z).toInt = z then q_nx (pc + 3) L (qL z :: st) σ else none
    | none => none)
  | .iload_n k => q_load k 1 q_isI pc L st σ
  | .iload i => q_load i 2 q_isI pc L st σ
  | .lload_n k => q_load k 1 q_isL pc L st σ
  | .lload i => q_load i 2 q_isL pc L st σ
  | .aload_n k => q_load k 1 q_isR pc L st σ
  | .aload i => q_load i 2 q_isR pc L st σ
  | .istore_n k => q_store mi k 1 q_isI pc L st σ
  | .istore i => q_store mi i 2 q_isI pc L st σ
  | .astore_n k => q_store mi k 1 q_isR pc L st σ
  | .iinc i n => (match q_ld L i with
    | some (.inl z) => (match q_st mi L i (qI (q_add z n)) with
      | some L' => q_nx (pc + 3) L' st σ
      | none => none)
    | _ => none)
  | .iadd => q_bin (fun a b => some (q_add a b)) pc L st σ
  | .isub => q_bin (fun a b => some (q_sub a b)) pc L st σ
  | .imul => q_bin (fun a b => some (q_mul a b)) pc L st σ
  | .idiv => q_bin (fun a b => if b = 0 then none else some (q_div a b)) pc L st σ
  | .irem => q_bin (fun a b => if b = 0 then none else some (q_rem a b)) pc L st σ
  | .iand => q_bin (fun a b => some (q_and a b)) pc L st σ
  | .ior => q_bin (fun a b => some (q_or a b)) pc L st σ
  | .ixor => q_bin (fun a b => some (q_xor a b)) pc L st σ
  | .ishl => q_bin (fun a b => some (q_shl a b)) pc L st σ
  | .ishr => q_bin (fun a b => some (q_shr a b)) pc L st σ
  | .iushr => q_bin (fun a b => some (q_ushr a b)) pc L st σ
  | .ladd => q_binl (fun a b => some (q_ladd a b)) pc L st σ
  | .lmul => q_binl (fun a b => some (q_lmul a b)) pc L st σ
  | .land => q_binl (fun a b => some (q_land a b)) pc L st σ
  | .lrem => q_binl (fun a b => if b = 0 then none else some (q_lrem a b)) pc L st σ
  | .i2l => (match st with
    | .inl a :: r => q_nx (pc + 1) L (qL a :: r) σ
    | _ => none)
  | .l2i => (match st with
    | .inr (.inl a) :: r => q_nx (pc + 1) L (qI (q_l2i a) :: r) σ
    | _ => none)
  | .lcmp => (match st with
    | .inr (.inl b) :: .inr (.inl a) :: r => q_nx (pc + 1) L (qI (q_lcmp a b) :: r) σ
    | _ => none)
  | .dup => (match st with
    | v :: r => if q_isL v = false then q_nx (pc + 1) L (v :: v :: r) σ else none
    | _ => none)
  | .dup2 => (match st with
    | v :: w :: r => if q_isL v = false ∧ q_isL w = false then q_nx (pc + 1) L (v :: w :: v :: w :: r) σ else none
    | _ => none)
  | .ifCond c off => (match st with
    | .inl a :: r => q_if pc off (q_cond c a 0) L r σ
    | _ => none)
  | .if_icmp c off => (match st with
    | .inl b :: .inl a :: r => q_if pc off (q_cond c a b) L r σ
    | _ => none)
  | .goto off => q_jmp pc off L st σ
  | .tableswitch dflt lo hi offs => (match st with
    | .inl a :: r => if a < lo ∨ hi < a then q_jmp pc dflt L r σ else (match offs[(a - lo).toNat]? with
      | some off => q_jmp pc off L r σ
      | none => none)
    | _ => none)
  | .getfield i => q_get mi i pc L st σ
  | .putfield i => q_putf mi i pc L st σ
  | .iaload => q_ald 0 pc L st σ
  | .baload => q_ald 1 pc L st σ
  | .iastore => q_ast 0 pc L st σ
  | .bastore => q_ast 1 pc L st σ
  | .aaload => q_aald pc L st σ
  | .invokestatic i => (match mlk (mO mi) i with
    | some (1, mj) => if q_fit mi mj = true then q_callS mj pc st else none
    | some (2, mj) => if q_fit mi mj = true then q_callS mj pc st else none
    | some (3, _) => if 1 ≤ mF mi ∧ 30 ≤ mW mi then q_copy mi pc L st σ else none
    | _ => none)
  | .invokevirtual i => (match mlk (mO mi) i with
    | some (0, mj) => if q_fit mi mj = true then q_callV mj pc st else none
    | _ => none)
  | .ireturn => (match st with
    | [.inl v] => if q_okr mi v = true then some (.inr (.inl (some (qI v)))) else none
    | _ => none)
  | .return_ => (match st with
    | [] => if mR mi = none then some (.inr (.inl none)) else none
    | _ => none)
  | _ => none
/-- the locals at a method's entry -/
def q_ent (mj : Nat) (vs : List AV) : List AV := q_sl vs ++ List.replicate (mL mj - (q_sl vs).length) qU
/-- String.length, String.charAt over the class's own constants -/
def q_strs : List (List Int) := [[115, 104, 111, 101], [110, 111, 111, 110], [104, 111, 117, 115, 101], [119, 97, 121], [103, 105, 114, 108], [103, 97, 105, 116], [115, 104, 101]]
def q_str (mj : Nat) (vs : List AV) : Option AV := match mj, vs with
  | 1000, [.inr (.inr (some k))] => if 100 ≤ k ∧ k < 107 then some (qI ((q_strs.getD (k - 100) []).length : Int)) else none
  | 1001, [.inr (.inr (some k)), .inl i] => if 100 ≤ k ∧ k < 107 ∧ 0 ≤ i ∧ i < ((q_strs.getD (k - 100) []).length : Int) then some (qI ((q_strs.getD (k - 100) []).getD i.toNat 0)) else none
  | _, _ => none
def q_one (mi pc : Nat) (L st : List AV) (σ : SS) : Option QA := match decode (mB mi) pc with
  | .ok (ins, len) => if q_lenok ins len = true then q_act mi ins pc L st σ else none
  | .error _ => none
def q_push (r : Option AV) (st : List AV) : List AV := r.toList ++ st
def q_run : Nat → Nat → Nat → List AV → List AV → SS → Option (Option AV × SS)
  | 0, _, _, _, _, _ => none
  | n + 1, mi, pc, L, st, σ => match q_one mi pc L st σ with
    | none => none
    | some (.inl (pc', L', st', σ')) => q_run n mi pc' L' st' σ'
    | some (.inr (.inl r)) => some (r, σ)
    | some (.inr (.inr (mj, vs, pc', st'))) => if mO mj = 10 then (match q_str mj vs with
        | some v => q_run n mi pc' L (v :: st') σ
        | none => none)
      else match q_run n mj 0 (q_ent mj vs) [] σ with
        | none => none
        | some (r, σ') => q_run n mi pc' L (q_push r st') σ'
theorem q_run_mono : ∀ (n mi pc : Nat) (L st : List AV) (σ : SS) (x : Option AV × SS), q_run n mi pc L st σ = some x → q_run (n + 1) mi pc L st σ = some x := by
  intro n
  induction n with
  | zero => intro mi pc L st σ x h; simp [q_run] at h
  | succ n ih =>
    intro mi pc L st σ x h
    rw [q_run] at h
    rw [q_run]
    cases h1 : q_one mi pc L st σ with
    | none => rw [h1] at h; cases h
    | some a =>
      rw [h1] at h
      rcases a with ⟨pc', L', st', σ'⟩ | r | ⟨mj, vs, pc', st'⟩
      · exact ih _ _ _ _ _ _ h
      · exact h
      · dsimp only at h ⊢
        by_cases hm : mO mj = 10
        · rw [if_pos hm] at h ⊢
          cases h2 : q_str mj vs with
          | none => rw [h2] at h; cases h
          | some v =>
            rw [h2] at h
            exact ih _ _ _ _ _ _ h
        · rw [if_neg hm] at h ⊢
          cases h2 : q_run n mj 0 (q_ent mj vs) [] σ with
          | none => rw [h2] at h; cases h
          | some y =>
            rw [h2] at h
            rw [ih _ _ _ _ _ _ h2]
            exact ih _ _ _ _ _ _ h
theorem q_run_le {n k : Nat} (hk : n ≤ k) {mi pc : Nat} {L st : List AV} {σ : SS} {x : Option AV × SS} (h : q_run n mi pc L st σ = some x) : q_run k mi pc L st σ = some x := by
  induction hk with
  | refl => exact h
  | step _ ih => exact q_run_mono _ _ _ _ _ _ _ ih
/-- what the machine comes to from here -/
noncomputable def ev (mi pc : Nat) (L st : List AV) (σ : SS) : Option (Option AV × SS) :=
  haveI := Classical.propDecidable (∃ x, ∃ n, q_run n mi pc L st σ = some x)
  if h : ∃ x, ∃ n, q_run n mi pc L st σ = some x then some (Classical.choose h) else none
theorem ev_iff {mi pc : Nat} {L st : List AV} {σ : SS} {x : Option AV × SS} : ev mi pc L st σ = some x ↔ ∃ n, q_run n mi pc L st σ = some x := by
  unfold ev
  by_cases h : ∃ x, ∃ n, q_run n mi pc L st σ = some x
  · rw [dif_pos h]
    have hc := Classical.choose_spec h
    constructor
    · intro e
      rw [← Option.some.inj e]
      exact hc
    · rintro ⟨n, hn⟩
      obtain ⟨k, hk⟩ := hc
      have h1 := q_run_le (Nat.le_max_left n k) hn
      have h2 := q_run_le (Nat.le_max_right n k) hk
      rw [h1] at h2
      exact congrArg some (Option.some.inj h2).symm
  · rw [dif_neg h]
    constructor
    · intro e; cases e
    · rintro ⟨n, hn⟩
      exact absurd ⟨x, n, hn⟩ h
theorem ev_ext {mi pc mi' pc' : Nat} {L st L' st' : List AV} {σ σ' : SS} (h : ∀ x, ev mi pc L st σ = some x ↔ ev mi' pc' L' st' σ' = some x) : ev mi pc L st σ = ev mi' pc' L' st' σ' := by
  cases h1 : ev mi pc L st σ with
  | some x => exact ((h x).mp h1).symm
  | none =>
    cases h2 : ev mi' pc' L' st' σ' with
    | none => rfl
    | some x => rw [(h x).mpr h2] at h1; cases h1
theorem ev_step {mi pc : Nat} {L st : List AV} {σ : SS} {pc' : Nat} {L' st' : List AV} {σ' : SS} (h : q_one mi pc L st σ = some (.inl (pc', L', st', σ'))) : ev mi pc L st σ = ev mi pc' L' st' σ' := by
  refine ev_ext (fun x => ?_)
  rw [ev_iff, ev_iff]
  constructor
  · rintro ⟨n, hn⟩
    cases n with
    | zero => simp [q_run] at hn
    | succ n => rw [q_run, h] at hn; exact ⟨n, hn⟩
  · rintro ⟨n, hn⟩
    exact ⟨n + 1, by rw [q_run, h]; exact hn⟩
theorem ev_ret {mi pc : Nat} {L st : List AV} {σ : SS} {r : Option AV} (h : q_one mi pc L st σ = some (.inr (.inl r))) : ev mi pc L st σ = some (r, σ) := ev_iff.mpr ⟨1, by rw [q_run, h]⟩
theorem ev_call {mi pc : Nat} {L st : List AV} {σ : SS} {mj : Nat} {vs : List AV} {pc' : Nat} {st' : List AV} (h : q_one mi pc L st σ = some (.inr (.inr (mj, vs, pc', st')))) (hm : ¬ mO mj = 10) : ev mi pc L st σ = (ev mj 0 (q_ent mj vs) [] σ).bind (fun x => ev mi pc' L (q_push x.1 st') x.2) := by
  cases hc : ev mj 0 (q_ent mj vs) [] σ with
  | none =>
    show _ = none
    cases h1 : ev mi pc L st σ with
    | none => rfl
    | some x =>
      obtain ⟨n, hn⟩ := ev_iff.mp h1
      cases n with
      | zero => simp [q_run] at hn
      | succ n =>
        rw [q_run, h] at hn
        dsimp only at hn
        rw [if_neg hm] at hn
        cases h2 : q_run n mj 0 (q_ent mj vs) [] σ with
        | none => rw [h2] at hn; cases hn
        | some y =>
          rw [ev_iff.mpr ⟨n, h2⟩] at hc
          cases hc
  | some y =>
    show _ = ev mi pc' L (q_push y.1 st') y.2
    obtain ⟨k, hk⟩ := ev_iff.mp hc
    refine ev_ext (fun x => ?_)
    rw [ev_iff, ev_iff]
    constructor
    · rintro ⟨n, hn⟩
      cases n with
      | zero => simp [q_run] at hn
      | succ n =>
        rw [q_run, h] at hn
        dsimp only at hn
        rw [if_neg hm] at hn
        cases h2 : q_run n mj 0 (q_ent mj vs) [] σ with
        | none => rw [h2] at hn; cases hn
        | some z =>
          have e : y = z := by
            have h3 := q_run_le (Nat.le_max_left n k) h2
            rw [q_run_le (Nat.le_max_right n k) hk] at h3
            exact Option.some.inj h3
          rw [h2] at hn
          rw [e]
          exact ⟨n, hn⟩
    · rintro ⟨n, hn⟩
      refine ⟨max n k + 1, ?_⟩
      rw [q_run, h]
      dsimp only
      rw [if_neg hm, q_run_le (Nat.le_max_right n k) hk]
      exact q_run_le (Nat.le_max_left n k) hn
theorem ev_str {mi pc : Nat} {L st : List AV} {σ : SS} {mj : Nat} {vs : List AV} {pc' : Nat} {st' : List AV} {v : AV} (h : q_one mi pc L st σ = some (.inr (.inr (mj, vs, pc', st')))) (hm : mO mj = 10) (hv : q_str mj vs = some v) : ev mi pc L st σ = ev mi pc' L (v :: st') σ := by
  refine ev_ext (fun x => ?_)
  rw [ev_iff, ev_iff]
  constructor
  · rintro ⟨n, hn⟩
    cases n with
    | zero => simp [q_run] at hn
    | succ n =>
      rw [q_run, h] at hn
      dsimp only at hn
      rw [if_pos hm, hv] at hn
      exact ⟨n, hn⟩
  · rintro ⟨n, hn⟩
    refine ⟨n + 1, ?_⟩
    rw [q_run, h]
    dsimp only
    rw [if_pos hm, hv]
    exact hn
