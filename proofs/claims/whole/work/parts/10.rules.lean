/-! ===== THE MACHINE, INSTRUCTION BY INSTRUCTION, AS EQUATIONS ===== -/
theorem q_one_of {mi pc : Nat} {ins : Instr} {len : Nat} {L st : List AV} {σ : SS} (d : decode (mB mi) pc = .ok (ins, len)) (hl : q_lenok ins len = true) : q_one mi pc L st σ = q_act mi ins pc L st σ := by
  unfold q_one
  rw [d]
  simp only [hl, if_true]
theorem i32_id {z : Int} (h : -2147483648 ≤ z ∧ z ≤ 2147483647) : (i32 z).toInt = z := by
  unfold i32
  exact Int32.toInt_ofInt_of_le (by omega) (by omega)
theorem q_add_id {a b : Int} (h : -2147483648 ≤ a + b ∧ a + b ≤ 2147483647) : q_add a b = a + b := by
  unfold q_add i32
  rw [← Int32.ofInt_add]
  exact i32_id h
theorem q_sub_id {a b : Int} (h : -2147483648 ≤ a - b ∧ a - b ≤ 2147483647) : q_sub a b = a - b := by
  unfold q_sub i32
  rw [← Int32.ofInt_sub]
  exact i32_id h
theorem q_mul_id {a b : Int} (h : -2147483648 ≤ a * b ∧ a * b ≤ 2147483647) : q_mul a b = a * b := by
  unfold q_mul i32
  rw [← Int32.ofInt_mul]
  exact i32_id h
theorem i32_nat {a : Int} (h0 : 0 ≤ a) : i32 a = nI a.toNat := by
  unfold i32 nI
  obtain ⟨n, rfl⟩ : ∃ n : Nat, a = n := ⟨a.toNat, by omega⟩
  rw [Int.toNat_natCast]
  rfl
theorem nI_toI {n : Nat} (h : n < 2147483648) : (nI n).toInt = (n : Int) := nI_toInt h
theorem q_div_id {a b : Int} (h : 0 ≤ a ∧ a ≤ 2147483647 ∧ 0 < b ∧ b ≤ 2147483647) : q_div a b = a / b := by
  unfold q_div
  obtain ⟨n, rfl⟩ : ∃ n : Nat, a = n := ⟨a.toNat, by omega⟩
  obtain ⟨k, rfl⟩ : ∃ k : Nat, b = k := ⟨b.toNat, by omega⟩
  rw [i32_nat (by omega), i32_nat (by omega), Int.toNat_natCast, Int.toNat_natCast, pk_div (by omega) (by omega) (by omega), nI_toI (Nat.lt_of_le_of_lt (Nat.div_le_self n k) (by omega)), Int.natCast_ediv]
theorem q_rem_id {a b : Int} (h : 0 ≤ a ∧ a ≤ 2147483647 ∧ 0 < b ∧ b ≤ 2147483647) : q_rem a b = a % b := by
  unfold q_rem
  obtain ⟨n, rfl⟩ : ∃ n : Nat, a = n := ⟨a.toNat, by omega⟩
  obtain ⟨k, rfl⟩ : ∃ k : Nat, b = k := ⟨b.toNat, by omega⟩
  rw [i32_nat (by omega), i32_nat (by omega), Int.toNat_natCast, Int.toNat_natCast, pk_rem (by omega) (by omega) (by omega), nI_toI (Nat.lt_of_le_of_lt (Nat.mod_le n k) (by omega)), Int.natCast_emod]
section EV
variable {mi pc : Nat} {L st : List AV} {σ : SS}
theorem e_iconst {n : Int} (d : decode (mB mi) pc = .ok (.iconst n, 1)) (h : (i32 n).toInt = n) : ev mi pc L st σ = ev mi (pc + 1) L (qI n :: st) σ := ev_step (by rw [q_one_of d rfl]; simp only [q_act]; rw [if_pos h]; rfl)
theorem e_bipush {n : Int} (d : decode (mB mi) pc = .ok (.bipush n, 2)) (h : (i32 n).toInt = n ∧ (Int8.ofInt n).toInt32 = i32 n) : ev mi pc L st σ = ev mi (pc + 2) L (qI n :: st) σ := ev_step (by rw [q_one_of d rfl]; simp only [q_act]; rw [if_pos h]; rfl)
theorem e_sipush {n : Int} (d : decode (mB mi) pc = .ok (.sipush n, 3)) (h : (i32 n).toInt = n ∧ (Int16.ofInt n).toInt32 = i32 n) : ev mi pc L st σ = ev mi (pc + 3) L (qI n :: st) σ := ev_step (by rw [q_one_of d rfl]; simp only [q_act]; rw [if_pos h]; rfl)
theorem e_lconst {n : Fin 2} {z : Int} (d : decode (mB mi) pc = .ok (.lconst n, 1)) (h : ((n : Nat) : Int) = z) : ev mi pc L st σ = ev mi (pc + 1) L (qL z :: st) σ := ev_step (by rw [q_one_of d rfl]; simp only [q_act]; rw [h]; rfl)
theorem e_ldc {i : Nat} {z : Int} (d : decode (mB mi) pc = .ok (.ldc i, 2)) (hk : ldk (mO mi) i = some z) (h : (i32 z).toInt = z) : ev mi pc L st σ = ev mi (pc + 2) L (qI z :: st) σ := ev_step (by rw [q_one_of d rfl]; simp only [q_act, hk]; rw [if_pos h]; rfl)
theorem e_ldcS {i k : Nat} (d : decode (mB mi) pc = .ok (.ldc i, 2)) (hk : ldk (mO mi) i = none) (h : stk (mO mi) i = some k) : ev mi pc L st σ = ev mi (pc + 2) L (qR (100 + k) :: st) σ := ev_step (by rw [q_one_of d rfl]; simp only [q_act, hk, h]; rfl)
theorem e_ldcw {i : Nat} {z : Int} (d : decode (mB mi) pc = .ok (.ldc_w i, 3)) (hk : ldk (mO mi) i = some z) (h : (i32 z).toInt = z) : ev mi pc L st σ = ev mi (pc + 3) L (qI z :: st) σ := ev_step (by rw [q_one_of d rfl]; simp only [q_act, hk]; rw [if_pos h]; rfl)
theorem e_ldc2 {i : Nat} {z : Int} (d : decode (mB mi) pc = .ok (.ldc2_w i, 3)) (hk : llk (mO mi) i = some z) (h : (i64 z).toInt = z) : ev mi pc L st σ = ev mi (pc + 3) L (qL z :: st) σ := ev_step (by rw [q_one_of d rfl]; simp only [q_act, hk]; rw [if_pos h]; rfl)
theorem q_load_eq {i len : Nat} {pr : AV → Bool} {v : AV} (h : L[i]? = some v) (hp : pr v = true) : q_load i len pr pc L st σ = some (.inl (pc + len, L, v :: st, σ)) := by
  unfold q_load q_ld
  rw [h]
  simp only [hp, if_true, q_nx]
theorem e_iload_n {k : Fin 4} {z : Int} (d : decode (mB mi) pc = .ok (.iload_n k, 1)) (h : L[(k : Nat)]? = some (qI z)) : ev mi pc L st σ = ev mi (pc + 1) L (qI z :: st) σ := ev_step (by rw [q_one_of d rfl]; exact q_load_eq h rfl)
theorem e_iload {k : Nat} {z : Int} (d : decode (mB mi) pc = .ok (.iload k, 2)) (h : L[k]? = some (qI z)) : ev mi pc L st σ = ev mi (pc + 2) L (qI z :: st) σ := ev_step (by rw [q_one_of d rfl]; exact q_load_eq h rfl)
theorem e_lload_n {k : Fin 4} {z : Int} (d : decode (mB mi) pc = .ok (.lload_n k, 1)) (h : L[(k : Nat)]? = some (qL z)) : ev mi pc L st σ = ev mi (pc + 1) L (qL z :: st) σ := ev_step (by rw [q_one_of d rfl]; exact q_load_eq h rfl)
theorem e_lload {k : Nat} {z : Int} (d : decode (mB mi) pc = .ok (.lload k, 2)) (h : L[k]? = some (qL z)) : ev mi pc L st σ = ev mi (pc + 2) L (qL z :: st) σ := ev_step (by rw [q_one_of d rfl]; exact q_load_eq h rfl)
theorem e_aload_n {k : Fin 4} {z : Nat} (d : decode (mB mi) pc = .ok (.aload_n k, 1)) (h : L[(k : Nat)]? = some (qR z)) : ev mi pc L st σ = ev mi (pc + 1) L (qR z :: st) σ := ev_step (by rw [q_one_of d rfl]; exact q_load_eq h rfl)
theorem e_aload {k : Nat} {z : Nat} (d : decode (mB mi) pc = .ok (.aload k, 2)) (h : L[k]? = some (qR z)) : ev mi pc L st σ = ev mi (pc + 2) L (qR z :: st) σ := ev_step (by rw [q_one_of d rfl]; exact q_load_eq h rfl)
theorem q_store_eq {i len : Nat} {pr : AV → Bool} {v : AV} {L' : List AV} (h9 : ¬ mi = 900) (hi : i < L.length) (hL : L.set i v = L') (hp : pr v = true) : q_store mi i len pr pc L (v :: st) σ = some (.inl (pc + len, L', st, σ)) := by
  unfold q_store q_st
  simp only [hp, if_true]
  rw [if_pos ⟨hi, h9⟩]
  simp only [hL, q_nx]
theorem e_istore_n {k : Fin 4} {z : Int} {L' : List AV} (d : decode (mB mi) pc = .ok (.istore_n k, 1)) (h9 : ¬ mi = 900) (hi : (k : Nat) < L.length) (hL : L.set (k : Nat) (qI z) = L') : ev mi pc L (qI z :: st) σ = ev mi (pc + 1) L' st σ := ev_step (by rw [q_one_of d rfl]; exact q_store_eq (pr := q_isI) h9 hi hL rfl)
theorem e_istore {k : Nat} {z : Int} {L' : List AV} (d : decode (mB mi) pc = .ok (.istore k, 2)) (h9 : ¬ mi = 900) (hi : k < L.length) (hL : L.set k (qI z) = L') : ev mi pc L (qI z :: st) σ = ev mi (pc + 2) L' st σ := ev_step (by rw [q_one_of d rfl]; exact q_store_eq (pr := q_isI) h9 hi hL rfl)
theorem e_astore_n {k : Fin 4} {z : Nat} {L' : List AV} (d : decode (mB mi) pc = .ok (.astore_n k, 1)) (h9 : ¬ mi = 900) (hi : (k : Nat) < L.length) (hL : L.set (k : Nat) (qR z) = L') : ev mi pc L (qR z :: st) σ = ev mi (pc + 1) L' st σ := ev_step (by rw [q_one_of d rfl]; exact q_store_eq (pr := q_isR) h9 hi hL rfl)
theorem e_iinc {k : Nat} {n z : Int} {L' : List AV} (d : decode (mB mi) pc = .ok (.iinc k n, 3)) (h9 : ¬ mi = 900) (h : L[k]? = some (qI z)) (hb : -2147483648 ≤ z + n ∧ z + n ≤ 2147483647) (hL : L.set k (qI (z + n)) = L') : ev mi pc L st σ = ev mi (pc + 3) L' st σ := ev_step (by
  rw [q_one_of d rfl]
  simp only [q_act, q_ld, h]
  unfold q_st
  rw [if_pos ⟨(List.getElem?_eq_some_iff.mp h).1, h9⟩, q_add_id hb]
  simp only [hL, q_nx])
theorem e_iadd {a b : Int} (d : decode (mB mi) pc = .ok (.iadd, 1)) (h : -2147483648 ≤ a + b ∧ a + b ≤ 2147483647) : ev mi pc L (qI b :: qI a :: st) σ = ev mi (pc + 1) L (qI (a + b) :: st) σ := ev_step (by rw [q_one_of d rfl]; simp only [q_act, q_bin, q_add_id h]; rfl)
theorem e_isub {a b : Int} (d : decode (mB mi) pc = .ok (.isub, 1)) (h : -2147483648 ≤ a - b ∧ a - b ≤ 2147483647) : ev mi pc L (qI b :: qI a :: st) σ = ev mi (pc + 1) L (qI (a - b) :: st) σ := ev_step (by rw [q_one_of d rfl]; simp only [q_act, q_bin, q_sub_id h]; rfl)
theorem e_imul {a b : Int} (d : decode (mB mi) pc = .ok (.imul, 1)) (h : -2147483648 ≤ a * b ∧ a * b ≤ 2147483647) : ev mi pc L (qI b :: qI a :: st) σ = ev mi (pc + 1) L (qI (a * b) :: st) σ := ev_step (by rw [q_one_of d rfl]; simp only [q_act, q_bin, q_mul_id h]; rfl)
theorem e_idiv {a b : Int} (d : decode (mB mi) pc = .ok (.idiv, 1)) (h : 0 ≤ a ∧ a ≤ 2147483647 ∧ 0 < b ∧ b ≤ 2147483647) : ev mi pc L (qI b :: qI a :: st) σ = ev mi (pc + 1) L (qI (a / b) :: st) σ := ev_step (by
  rw [q_one_of d rfl]
  simp only [q_act, q_bin]
  rw [if_neg (by omega), q_div_id h]
  rfl)
theorem e_irem {a b : Int} (d : decode (mB mi) pc = .ok (.irem, 1)) (h : 0 ≤ a ∧ a ≤ 2147483647 ∧ 0 < b ∧ b ≤ 2147483647) : ev mi pc L (qI b :: qI a :: st) σ = ev mi (pc + 1) L (qI (a % b) :: st) σ := ev_step (by
  rw [q_one_of d rfl]
  simp only [q_act, q_bin]
  rw [if_neg (by omega), q_rem_id h]
  rfl)
theorem e_iremX {a b : Int} (d : decode (mB mi) pc = .ok (.irem, 1)) (h : ¬ b = 0) : ev mi pc L (qI b :: qI a :: st) σ = ev mi (pc + 1) L (qI (q_rem a b) :: st) σ := ev_step (by
  rw [q_one_of d rfl]
  simp only [q_act, q_bin]
  rw [if_neg h]
  rfl)
theorem e_iand {a b : Int} (d : decode (mB mi) pc = .ok (.iand, 1)) : ev mi pc L (qI b :: qI a :: st) σ = ev mi (pc + 1) L (qI (q_and a b) :: st) σ := ev_step (by rw [q_one_of d rfl]; rfl)
theorem e_ior {a b : Int} (d : decode (mB mi) pc = .ok (.ior, 1)) : ev mi pc L (qI b :: qI a :: st) σ = ev mi (pc + 1) L (qI (q_or a b) :: st) σ := ev_step (by rw [q_one_of d rfl]; rfl)
theorem e_ixor {a b : Int} (d : decode (mB mi) pc = .ok (.ixor, 1)) : ev mi pc L (qI b :: qI a :: st) σ = ev mi (pc + 1) L (qI (q_xor a b) :: st) σ := ev_step (by rw [q_one_of d rfl]; rfl)
theorem e_ishl {a b : Int} (d : decode (mB mi) pc = .ok (.ishl, 1)) : ev mi pc L (qI b :: qI a :: st) σ = ev mi (pc + 1) L (qI (q_shl a b) :: st) σ := ev_step (by rw [q_one_of d rfl]; rfl)
theorem e_ishr {a b : Int} (d : decode (mB mi) pc = .ok (.ishr, 1)) : ev mi pc L (qI b :: qI a :: st) σ = ev mi (pc + 1) L (qI (q_shr a b) :: st) σ := ev_step (by rw [q_one_of d rfl]; rfl)
theorem e_iushr {a b : Int} (d : decode (mB mi) pc = .ok (.iushr, 1)) : ev mi pc L (qI b :: qI a :: st) σ = ev mi (pc + 1) L (qI (q_ushr a b) :: st) σ := ev_step (by rw [q_one_of d rfl]; rfl)
theorem e_iaddX {a b : Int} (d : decode (mB mi) pc = .ok (.iadd, 1)) : ev mi pc L (qI b :: qI a :: st) σ = ev mi (pc + 1) L (qI (q_add a b) :: st) σ := ev_step (by rw [q_one_of d rfl]; rfl)
theorem e_isubX {a b : Int} (d : decode (mB mi) pc = .ok (.isub, 1)) : ev mi pc L (qI b :: qI a :: st) σ = ev mi (pc + 1) L (qI (q_sub a b) :: st) σ := ev_step (by rw [q_one_of d rfl]; rfl)
theorem e_ladd {a b : Int} (d : decode (mB mi) pc = .ok (.ladd, 1)) : ev mi pc L (qL b :: qL a :: st) σ = ev mi (pc + 1) L (qL (q_ladd a b) :: st) σ := ev_step (by rw [q_one_of d rfl]; rfl)
theorem e_lmul {a b : Int} (d : decode (mB mi) pc = .ok (.lmul, 1)) : ev mi pc L (qL b :: qL a :: st) σ = ev mi (pc + 1) L (qL (q_lmul a b) :: st) σ := ev_step (by rw [q_one_of d rfl]; rfl)
theorem e_land {a b : Int} (d : decode (mB mi) pc = .ok (.land, 1)) : ev mi pc L (qL b :: qL a :: st) σ = ev mi (pc + 1) L (qL (q_land a b) :: st) σ := ev_step (by rw [q_one_of d rfl]; rfl)
theorem e_lrem {a b : Int} (d : decode (mB mi) pc = .ok (.lrem, 1)) (h : ¬ b = 0) : ev mi pc L (qL b :: qL a :: st) σ = ev mi (pc + 1) L (qL (q_lrem a b) :: st) σ := ev_step (by
  rw [q_one_of d rfl]
  simp only [q_act, q_binl]
  rw [if_neg h]
  rfl)
theorem e_i2l {a : Int} (d : decode (mB mi) pc = .ok (.i2l, 1)) : ev mi pc L (qI a :: st) σ = ev mi (pc + 1) L (qL a :: st) σ := ev_step (by rw [q_one_of d rfl]; rfl)
theorem e_l2i {a : Int} (d : decode (mB mi) pc = .ok (.l2i, 1)) : ev mi pc L (qL a :: st) σ = ev mi (pc + 1) L (qI (q_l2i a) :: st) σ := ev_step (by rw [q_one_of d rfl]; rfl)
theorem e_lcmp {a b : Int} (d : decode (mB mi) pc = .ok (.lcmp, 1)) : ev mi pc L (qL b :: qL a :: st) σ = ev mi (pc + 1) L (qI (q_lcmp a b) :: st) σ := ev_step (by rw [q_one_of d rfl]; rfl)
theorem e_dup {v : AV} (d : decode (mB mi) pc = .ok (.dup, 1)) (h : q_isL v = false) : ev mi pc L (v :: st) σ = ev mi (pc + 1) L (v :: v :: st) σ := ev_step (by rw [q_one_of d rfl]; simp only [q_act]; rw [if_pos h]; rfl)
theorem e_dup2 {v w : AV} (d : decode (mB mi) pc = .ok (.dup2, 1)) (h : q_isL v = false) (h2 : q_isL w = false) : ev mi pc L (v :: w :: st) σ = ev mi (pc + 1) L (v :: w :: v :: w :: st) σ := ev_step (by rw [q_one_of d rfl]; simp only [q_act]; rw [if_pos ⟨h, h2⟩]; rfl)
theorem q_jmp_eq {off : Int} {tgt : Nat} (ht : (pc : Int) + off = (tgt : Int)) : q_jmp pc off L st σ = some (.inl (tgt, L, st, σ)) := by
  unfold q_jmp q_nx
  rw [ht, Int.toNat_natCast]
  simp
theorem e_goto {off : Int} {tgt : Nat} (d : decode (mB mi) pc = .ok (.goto off, 3)) (ht : (pc : Int) + off = (tgt : Int)) : ev mi pc L st σ = ev mi tgt L st σ := ev_step (by rw [q_one_of d rfl]; exact q_jmp_eq ht)
theorem q_if_eq {off : Int} {tgt : Nat} {b : Bool} (ht : (pc : Int) + off = (tgt : Int)) : q_if pc off b L st σ = some (.inl (if b = true then tgt else pc + 3, L, st, σ)) := by
  unfold q_if q_nx
  rw [ht, Int.toNat_natCast]
  simp
theorem e_ifB {a b : Int} {c : ClassFile.Cond} {off : Int} {tgt : Nat} (d : decode (mB mi) pc = .ok (.if_icmp c off, 3)) (ht : (pc : Int) + off = (tgt : Int)) : ev mi pc L (qI b :: qI a :: st) σ = ev mi (if q_cond c a b = true then tgt else pc + 3) L st σ := ev_step (by rw [q_one_of d rfl]; exact q_if_eq ht)
theorem e_if0 {a : Int} {c : ClassFile.Cond} {off : Int} {tgt : Nat} (d : decode (mB mi) pc = .ok (.ifCond c off, 3)) (ht : (pc : Int) + off = (tgt : Int)) : ev mi pc L (qI a :: st) σ = ev mi (if q_cond c a 0 = true then tgt else pc + 3) L st σ := ev_step (by rw [q_one_of d rfl]; exact q_if_eq ht)
theorem ev_pc {P : Prop} [Decidable P] {x y : Nat} : ev mi (if P then x else y) L st σ = if P then ev mi x L st σ else ev mi y L st σ := by split <;> rfl
theorem e_icmp_eq {a b : Int} {off : Int} {tgt : Nat} (d : decode (mB mi) pc = .ok (.if_icmp .eq off, 3)) (ht : (pc : Int) + off = (tgt : Int)) : ev mi pc L (qI b :: qI a :: st) σ = if a = b then ev mi tgt L st σ else ev mi (pc + 3) L st σ := by
  rw [e_ifB d ht, ev_pc]; simp only [q_cond, decide_eq_true_eq]
theorem e_icmp_ne {a b : Int} {off : Int} {tgt : Nat} (d : decode (mB mi) pc = .ok (.if_icmp .ne off, 3)) (ht : (pc : Int) + off = (tgt : Int)) : ev mi pc L (qI b :: qI a :: st) σ = if a = b then ev mi (pc + 3) L st σ else ev mi tgt L st σ := by
  rw [e_ifB d ht, ev_pc]; simp only [q_cond, decide_eq_true_eq]; by_cases h : a = b <;> simp [h]
theorem e_icmp_lt {a b : Int} {off : Int} {tgt : Nat} (d : decode (mB mi) pc = .ok (.if_icmp .lt off, 3)) (ht : (pc : Int) + off = (tgt : Int)) : ev mi pc L (qI b :: qI a :: st) σ = if a < b then ev mi tgt L st σ else ev mi (pc + 3) L st σ := by
  rw [e_ifB d ht, ev_pc]; simp only [q_cond, decide_eq_true_eq]
theorem e_icmp_ge {a b : Int} {off : Int} {tgt : Nat} (d : decode (mB mi) pc = .ok (.if_icmp .ge off, 3)) (ht : (pc : Int) + off = (tgt : Int)) : ev mi pc L (qI b :: qI a :: st) σ = if a < b then ev mi (pc + 3) L st σ else ev mi tgt L st σ := by
  rw [e_ifB d ht, ev_pc]; simp only [q_cond, decide_eq_true_eq]
  by_cases h : a < b
  · rw [if_pos h, if_neg (by omega)]
  · rw [if_neg h, if_pos (by omega)]
theorem e_icmp_gt {a b : Int} {off : Int} {tgt : Nat} (d : decode (mB mi) pc = .ok (.if_icmp .gt off, 3)) (ht : (pc : Int) + off = (tgt : Int)) : ev mi pc L (qI b :: qI a :: st) σ = if b < a then ev mi tgt L st σ else ev mi (pc + 3) L st σ := by
  rw [e_ifB d ht, ev_pc]; simp only [q_cond, decide_eq_true_eq]
theorem e_icmp_le {a b : Int} {off : Int} {tgt : Nat} (d : decode (mB mi) pc = .ok (.if_icmp .le off, 3)) (ht : (pc : Int) + off = (tgt : Int)) : ev mi pc L (qI b :: qI a :: st) σ = if b < a then ev mi (pc + 3) L st σ else ev mi tgt L st σ := by
  rw [e_ifB d ht, ev_pc]; simp only [q_cond, decide_eq_true_eq]
  by_cases h : b < a
  · rw [if_pos h, if_neg (by omega)]
  · rw [if_neg h, if_pos (by omega)]
theorem e_if_eq {a : Int} {off : Int} {tgt : Nat} (d : decode (mB mi) pc = .ok (.ifCond .eq off, 3)) (ht : (pc : Int) + off = (tgt : Int)) : ev mi pc L (qI a :: st) σ = if a = 0 then ev mi tgt L st σ else ev mi (pc + 3) L st σ := by
  rw [e_if0 d ht, ev_pc]; simp only [q_cond, decide_eq_true_eq]
theorem e_if_ne {a : Int} {off : Int} {tgt : Nat} (d : decode (mB mi) pc = .ok (.ifCond .ne off, 3)) (ht : (pc : Int) + off = (tgt : Int)) : ev mi pc L (qI a :: st) σ = if a = 0 then ev mi (pc + 3) L st σ else ev mi tgt L st σ := by
  rw [e_if0 d ht, ev_pc]; simp only [q_cond, decide_eq_true_eq]; by_cases h : a = 0 <;> simp [h]
theorem e_if_lt {a : Int} {off : Int} {tgt : Nat} (d : decode (mB mi) pc = .ok (.ifCond .lt off, 3)) (ht : (pc : Int) + off = (tgt : Int)) : ev mi pc L (qI a :: st) σ = if a < 0 then ev mi tgt L st σ else ev mi (pc + 3) L st σ := by
  rw [e_if0 d ht, ev_pc]; simp only [q_cond, decide_eq_true_eq]
theorem e_if_ge {a : Int} {off : Int} {tgt : Nat} (d : decode (mB mi) pc = .ok (.ifCond .ge off, 3)) (ht : (pc : Int) + off = (tgt : Int)) : ev mi pc L (qI a :: st) σ = if a < 0 then ev mi (pc + 3) L st σ else ev mi tgt L st σ := by
  rw [e_if0 d ht, ev_pc]; simp only [q_cond, decide_eq_true_eq]
  by_cases h : a < 0
  · rw [if_pos h, if_neg (by omega)]
  · rw [if_neg h, if_pos (by omega)]
theorem e_if_gt {a : Int} {off : Int} {tgt : Nat} (d : decode (mB mi) pc = .ok (.ifCond .gt off, 3)) (ht : (pc : Int) + off = (tgt : Int)) : ev mi pc L (qI a :: st) σ = if 0 < a then ev mi tgt L st σ else ev mi (pc + 3) L st σ := by
  rw [e_if0 d ht, ev_pc]; simp only [q_cond, decide_eq_true_eq]
theorem e_if_le {a : Int} {off : Int} {tgt : Nat} (d : decode (mB mi) pc = .ok (.ifCond .le off, 3)) (ht : (pc : Int) + off = (tgt : Int)) : ev mi pc L (qI a :: st) σ = if 0 < a then ev mi (pc + 3) L st σ else ev mi tgt L st σ := by
  rw [e_if0 d ht, ev_pc]; simp only [q_cond, decide_eq_true_eq]
  by_cases h : 0 < a
  · rw [if_pos h, if_neg (by omega)]
  · rw [if_neg h, if_pos (by omega)]
theorem e_tswO {a dflt lo hi : Int} {offs : Array Int} {len tgt : Nat} (d : decode (mB mi) pc = .ok (.tableswitch dflt lo hi offs, len)) (h : a < lo ∨ hi < a) (ht : (pc : Int) + dflt = (tgt : Int)) : ev mi pc L (qI a :: st) σ = ev mi tgt L st σ := ev_step (by
  rw [q_one_of d rfl]
  simp only [q_act]
  rw [if_pos h]
  exact q_jmp_eq ht)
theorem e_tswI {a dflt lo hi off : Int} {offs : Array Int} {len tgt k : Nat} (d : decode (mB mi) pc = .ok (.tableswitch dflt lo hi offs, len)) (h : a = lo + (k : Int)) (hh : lo + (k : Int) ≤ hi) (ho : offs[k]? = some off) (ht : (pc : Int) + off = (tgt : Int)) : ev mi pc L (qI a :: st) σ = ev mi tgt L st σ := ev_step (by
  rw [q_one_of d rfl]
  simp only [q_act]
  rw [if_neg (by omega), show (a - lo).toNat = k by omega, ho]
  exact q_jmp_eq ht)
theorem e_getI {idx ci j k : Nat} {fs : List (Option Nat)} (d : decode (mB mi) pc = .ok (.getfield idx, 3)) (hf : flk (mO mi) idx = some (ci, j)) (hs : qsh k = some (2, ci, fs)) (hj : fs[j]? = some none) : ev mi pc L (qR k :: st) σ = ev mi (pc + 3) L (qI (σ k j) :: st) σ := ev_step (by
  rw [q_one_of d rfl]
  simp only [q_act, q_get, hf, hs, hj, if_true, q_nx])
theorem e_getR {idx ci j k k2 : Nat} {fs : List (Option Nat)} (d : decode (mB mi) pc = .ok (.getfield idx, 3)) (hf : flk (mO mi) idx = some (ci, j)) (hs : qsh k = some (2, ci, fs)) (hj : fs[j]? = some (some k2)) : ev mi pc L (qR k :: st) σ = ev mi (pc + 3) L (qR k2 :: st) σ := ev_step (by
  rw [q_one_of d rfl]
  simp only [q_act, q_get, hf, hs, hj, if_true, q_nx])
theorem e_put {idx ci j k : Nat} {fs : List (Option Nat)} {v : Int} (d : decode (mB mi) pc = .ok (.putfield idx, 3)) (hf : flk (mO mi) idx = some (ci, j)) (hs : qsh k = some (2, ci, fs)) (hj : fs[j]? = some none) (hfin : q_fin ci j = false) (hok : q_okf (q_cty ci j) v = true) : ev mi pc L (qI v :: qR k :: st) σ = ev mi (pc + 3) L st (q_put σ k j v) := ev_step (by
  rw [q_one_of d rfl]
  simp only [q_act, q_putf, hf, hs, hj, hfin, hok, and_self, if_true, q_nx])
theorem q_okZ {t : FieldType} {v : Int} (ht : t = .boolean) (h : v = 0 ∨ v = 1) : q_okf t v = true := by
  subst ht
  exact decide_eq_true h
theorem e_iald {i : Int} {k n : Nat} {x : List (Option Nat)} (d : decode (mB mi) pc = .ok (.iaload, 1)) (hs : qsh k = some (0, n, x)) (h : 0 ≤ i ∧ i < (n : Int)) : ev mi pc L (qI i :: qR k :: st) σ = ev mi (pc + 1) L (qI (σ k i.toNat) :: st) σ := ev_step (by
  rw [q_one_of d rfl]
  simp only [q_act, q_ald, hs]
  rw [if_pos ⟨trivial, h⟩]
  rfl)
theorem e_bald {i : Int} {k n : Nat} {x : List (Option Nat)} (d : decode (mB mi) pc = .ok (.baload, 1)) (hs : qsh k = some (1, n, x)) (h : 0 ≤ i ∧ i < (n : Int)) : ev mi pc L (qI i :: qR k :: st) σ = ev mi (pc + 1) L (qI (σ k i.toNat) :: st) σ := ev_step (by
  rw [q_one_of d rfl]
  simp only [q_act, q_ald, hs]
  rw [if_pos ⟨trivial, h⟩]
  rfl)
theorem e_iast {i v : Int} {k n : Nat} {x : List (Option Nat)} (d : decode (mB mi) pc = .ok (.iastore, 1)) (hs : qsh k = some (0, n, x)) (h : 0 ≤ i ∧ i < (n : Int)) : ev mi pc L (qI v :: qI i :: qR k :: st) σ = ev mi (pc + 1) L st (q_put σ k i.toNat v) := ev_step (by
  rw [q_one_of d rfl]
  simp only [q_act, q_ast, hs]
  rw [if_pos ⟨trivial, h.1, h.2, Or.inl trivial⟩]
  rfl)
theorem e_bast {i v : Int} {k n : Nat} {x : List (Option Nat)} (d : decode (mB mi) pc = .ok (.bastore, 1)) (hs : qsh k = some (1, n, x)) (h : 0 ≤ i ∧ i < (n : Int)) (hv : v = 0 ∨ v = 1) : ev mi pc L (qI v :: qI i :: qR k :: st) σ = ev mi (pc + 1) L st (q_put σ k i.toNat v) := ev_step (by
  rw [q_one_of d rfl]
  simp only [q_act, q_ast, hs]
  rw [if_pos ⟨trivial, h.1, h.2, Or.inr hv⟩]
  rfl)
theorem e_aald {i : Int} {k n k2 : Nat} {j : Nat} {x : List (Option Nat)} (d : decode (mB mi) pc = .ok (.aaload, 1)) (hs : qsh k = some (3, n, x)) (hi : i = (j : Int)) (hj : j < n) (hx : x[j]? = some (some k2)) : ev mi pc L (qI i :: qR k :: st) σ = ev mi (pc + 1) L (qR k2 :: st) σ := ev_step (by
  rw [q_one_of d rfl]
  simp only [q_act, q_aald, hs]
  rw [if_pos ⟨by omega, by omega⟩, hi, Int.toNat_natCast, hx]
  rfl)
theorem e_copy {idx k0 k1 n0 n1 y : Nat} {n dp sp : Int} {x0 x1 : List (Option Nat)} (d : decode (mB mi) pc = .ok (.invokestatic idx, 3)) (hm : mlk (mO mi) idx = some (3, y)) (hR : 1 ≤ mF mi ∧ 30 ≤ mW mi) (hs0 : qsh k0 = some (0, n0, x0)) (hs1 : qsh k1 = some (0, n1, x1)) (h : 0 ≤ sp ∧ 0 ≤ dp ∧ 0 ≤ n ∧ sp + n ≤ (n0 : Int) ∧ dp + n ≤ (n1 : Int)) (hw : (st.map q_w).sum ≤ 8) : ev mi pc L (qI n :: qI dp :: qR k1 :: qI sp :: qR k0 :: st) σ = ev mi (pc + 3) L st (q_cpy σ k1 (σ k0) sp.toNat dp.toNat n.toNat) := ev_step (by
  rw [q_one_of d rfl]
  simp only [q_act, hm]
  rw [if_pos hR]
  simp only [q_copy, hs0, hs1]
  rw [if_pos ⟨h.1, h.2.1, h.2.2.1, h.2.2.2.1, h.2.2.2.2, hw⟩]
  rfl)
theorem e_callV {idx mj n k : Nat} {fs : List (Option Nat)} {r L2 vs : List AV} (d : decode (mB mi) pc = .ok (.invokevirtual idx, 3)) (hm : mlk (mO mi) idx = some (0, mj)) (hf : q_fit mi mj = true) (hn : q_par mj = some n) (hd : st.drop n = qR k :: r) (ht : qR k :: (st.take n).reverse = vs) (hs : qsh k = some (2, mO mj, fs)) (hl : n ≤ st.length) (hw : (r.map q_w).sum ≤ 8) (he : (q_sl vs).length ≤ mL mj) (hnl : q_nl mj vs = true) (h10 : ¬ mO mj = 10) (hL : q_ent mj vs = L2) : ev mi pc L st σ = (ev mj 0 L2 [] σ).bind (fun x => ev mi (pc + 3) L (q_push x.1 r) x.2) := by
  subst ht
  rw [← hL]
  refine ev_call ?_ h10
  rw [q_one_of d rfl]
  simp only [q_act, hm]
  rw [if_pos hf]
  simp only [q_callV, hn, hd, hs]
  rw [if_pos ⟨hl, trivial, hw, he, hnl⟩]
theorem e_callS {idx mj n kind : Nat} {r L2 vs : List AV} (d : decode (mB mi) pc = .ok (.invokestatic idx, 3)) (hk : kind = 1 ∨ kind = 2) (hm : mlk (mO mi) idx = some (kind, mj)) (hf : q_fit mi mj = true) (hn : q_par mj = some n) (hd : st.drop n = r) (ht : (st.take n).reverse = vs) (hl : n ≤ st.length) (hw : (r.map q_w).sum ≤ 8) (he : (q_sl vs).length ≤ mL mj) (hnl : q_nl mj vs = true) (h10 : ¬ mO mj = 10) (hL : q_ent mj vs = L2) : ev mi pc L st σ = (ev mj 0 L2 [] σ).bind (fun x => ev mi (pc + 3) L (q_push x.1 r) x.2) := by
  subst ht
  subst hd
  rw [← hL]
  refine ev_call ?_ h10
  rw [q_one_of d rfl]
  rcases hk with rfl | rfl
  · simp only [q_act, hm]
    rw [if_pos hf]
    simp only [q_callS, hn]
    rw [if_pos ⟨hl, hw, he, hnl⟩]
  · simp only [q_act, hm]
    rw [if_pos hf]
    simp only [q_callS, hn]
    rw [if_pos ⟨hl, hw, he, hnl⟩]
theorem qsh_none {k : Nat} (h : 100 ≤ k) : qsh k = none := by
  unfold qsh
  exact List.getElem?_eq_none_iff.mpr (by rw [shT_len]; omega)
theorem e_slen {idx k : Nat} (d : decode (mB mi) pc = .ok (.invokevirtual idx, 3)) (hm : mlk (mO mi) idx = some (0, 1000)) (hf : q_fit mi 1000 = true) (hn : q_par 1000 = some 0) (hk : 100 ≤ k ∧ k < 107) (hw : (st.map q_w).sum ≤ 8) : ev mi pc L (qR k :: st) σ = ev mi (pc + 3) L (qI ((q_strs.getD (k - 100) []).length : Int) :: st) σ := by
  refine ev_str (mj := 1000) (vs := [qR k]) ?_ (by decide) ?_
  · rw [q_one_of d rfl]
    simp only [q_act, hm]
    rw [if_pos hf]
    simp only [q_callV, hn, List.drop_zero, qsh_none hk.1]
    rw [if_pos ⟨Nat.zero_le _, by decide, hk.1, hk.2, hw⟩]
    rfl
  · simp only [q_str]
    rw [if_pos hk]
theorem e_schr {idx k : Nat} {i : Int} (d : decode (mB mi) pc = .ok (.invokevirtual idx, 3)) (hm : mlk (mO mi) idx = some (0, 1001)) (hf : q_fit mi 1001 = true) (hn : q_par 1001 = some 1) (hk : 100 ≤ k ∧ k < 107 ∧ 0 ≤ i ∧ i < ((q_strs.getD (k - 100) []).length : Int)) (hw : (st.map q_w).sum ≤ 8) : ev mi pc L (qI i :: qR k :: st) σ = ev mi (pc + 3) L (qI ((q_strs.getD (k - 100) []).getD i.toNat 0) :: st) σ := by
  refine ev_str (mj := 1001) (vs := [qR k, qI i]) ?_ (by decide) ?_
  · rw [q_one_of d rfl]
    simp only [q_act, hm]
    rw [if_pos hf]
    simp only [q_callV, hn, List.drop_succ_cons, List.drop_zero, qsh_none hk.1]
    rw [if_pos ⟨by simp, by decide, hk.1, hk.2.1, hw⟩]
    rfl
  · simp only [q_str]
    rw [if_pos hk]
theorem e_iret {v : Int} (d : decode (mB mi) pc = .ok (.ireturn, 1)) (h : q_okr mi v = true) : ev mi pc L [qI v] σ = some (some (qI v), σ) := ev_ret (by rw [q_one_of d rfl]; simp only [q_act]; rw [if_pos h])
theorem q_okrZ {v : Int} (hm : mR mi = some .boolean) (h : v = 0 ∨ v = 1) : q_okr mi v = true := by
  unfold q_okr
  rw [hm]
  exact decide_eq_true h
theorem q_okrI {v : Int} (hm : mR mi = some .int) : q_okr mi v = true := by
  unfold q_okr
  rw [hm]
theorem e_vret (d : decode (mB mi) pc = .ok (.return_, 1)) (h : mR mi = none) : ev mi pc L [] σ = some (none, σ) := ev_ret (by rw [q_one_of d rfl]; simp only [q_act]; rw [if_pos h])
end EV
theorem q_push_some {v : AV} {st : List AV} : q_push (some v) st = v :: st := rfl
theorem q_push_none {st : List AV} : q_push none st = st := rfl
