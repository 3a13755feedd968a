/-! ===== drift ===== -/
theorem i64_id {z : Int} (h : -9223372036854775808 ≤ z ∧ z ≤ 9223372036854775807) : (i64 z).toInt = z := by
  unfold i64
  exact Int64.toInt_ofInt_of_le (by omega) (by omega)
theorem q_ladd_id {a b : Int} (h : -9223372036854775808 ≤ a + b ∧ a + b ≤ 9223372036854775807) : q_ladd a b = a + b := by
  unfold q_ladd i64
  rw [← Int64.ofInt_add]
  exact i64_id h
theorem q_lmul_id {a b : Int} (h : -9223372036854775808 ≤ a * b ∧ a * b ≤ 9223372036854775807) : q_lmul a b = a * b := by
  unfold q_lmul i64
  rw [← Int64.ofInt_mul]
  exact i64_id h
theorem q_land_id {X : Int} (h : 0 ≤ X ∧ X ≤ 9223372036854775807) : q_land X 2147483647 = X % 2147483648 := by
  obtain ⟨n, rfl⟩ : ∃ n : Nat, X = n := ⟨X.toNat, by omega⟩
  have e : i64 (n : Int) &&& i64 2147483647 = i64 ((n % 2147483648 : Nat) : Int) := by
    apply Int64.toBitVec_inj.mp
    rw [Int64.toBitVec_and]
    apply BitVec.eq_of_toNat_eq
    rw [BitVec.toNat_and]
    have t : ∀ m : Nat, m < 9223372036854775808 → (i64 (m : Int)).toBitVec.toNat = m := by
      intro m hm
      show (BitVec.ofNat 64 m).toNat = m
      rw [BitVec.toNat_ofNat, Nat.mod_eq_of_lt (by omega)]
    rw [t n (by omega), show (2147483647 : Int) = ((2147483647 : Nat) : Int) from rfl, t 2147483647 (by omega), t (n % 2147483648) (by omega)]
    exact Nat.and_two_pow_sub_one_eq_mod n 31
  unfold q_land
  rw [e, i64_id (by omega)]
  omega
theorem q_lrem_id {X : Int} (h : 0 ≤ X ∧ X ≤ 9223372036854775807) : q_lrem X 2147483648 = X % 2147483648 := by
  have e : i64 X / i64 2147483648 = i64 (X / 2147483648) := by
    unfold i64
    have e1 : Int64.minValue.toInt = -9223372036854775808 := by decide
    have e2 : Int64.maxValue.toInt = 9223372036854775807 := by decide
    rw [← Int.tdiv_eq_ediv_of_nonneg h.1, Int64.ofInt_tdiv (by omega) (by omega) (by omega) (by omega)]
  unfold q_lrem
  rw [e]
  unfold i64
  rw [← Int64.ofInt_mul, ← Int64.ofInt_sub]
  rw [show X - X / 2147483648 * 2147483648 = X % 2147483648 by omega]
  exact i64_id (by omega)
theorem q_l2i_id {a : Int} (h : 0 ≤ a ∧ a ≤ 2147483647) : q_l2i a = a := by
  unfold q_l2i i64
  rw [Int64.toInt32_ofInt]
  exact i32_id (by omega)
def lcg (s : Int) : Int := (s * 1103515245 + 12345) % 2147483648
theorem lcg_c {s : Int} (h : 0 ≤ s ∧ s ≤ 2147483647) : q_l2i (q_land (q_ladd (q_lmul s 1103515245) 12345) 2147483647) = lcg s := by
  rw [q_lmul_id (by omega), q_ladd_id (by omega), q_land_id (by omega), q_l2i_id (by omega)]
  rfl
theorem lcg_m {s : Int} (h : 0 ≤ s ∧ s ≤ 2147483647) : q_l2i (q_lrem (q_ladd (q_lmul s 1103515245) 12345) 2147483648) = lcg s := by
  rw [q_lmul_id (by omega), q_ladd_id (by omega), q_lrem_id (by omega), q_l2i_id (by omega)]
  rfl
theorem lcg_rng (s : Int) : 0 ≤ lcg s ∧ lcg s ≤ 2147483647 := by
  unfold lcg
  omega
def drw (s n : Int) : Int := lcg s / 65536 % n
theorem drw_rng {s n : Int} (hn : 0 < n) : 0 ≤ drw s n ∧ drw s n < n := ⟨Int.emod_nonneg _ (by omega), Int.emod_lt_of_pos _ hn⟩
theorem c_draw {σ : SS} {n : Int} (h : 0 ≤ σ 21 8 ∧ σ 21 8 ≤ 2147483647) (hn : 0 < n ∧ n ≤ 2147483647) : ev 302 0 [qR 21, qI n] [] σ = some (some (qI (drw (σ 21 8) n)), q_put σ 21 8 (lcg (σ 21 8))) := by
  have r := lcg_rng (σ 21 8)
  rw [b302_0, if_neg (by omega), lcg_c h, b302_31 (by rw [rw_eq]; omega), rw_eq, b302_40]
  rfl
theorem m_draw {σ : SS} {n : Int} (h : 0 ≤ σ 51 23 ∧ σ 51 23 ≤ 2147483647) (hn : 0 < n ∧ n ≤ 2147483647) : ev 941 0 [qR 50, qI n] [] σ = some (some (qI (drw (σ 51 23) n)), q_put σ 51 23 (lcg (σ 51 23))) := by
  have r := lcg_rng (σ 51 23)
  rw [b941_0, lcg_m h, b941_28 (by rw [rw_eq]; omega), rw_eq]
  rfl
/-- the d-th member of the set, from x on -/
def memb (w : Nat) : Nat → Int → Int → Int → Int
  | 0, _, _, v => v
  | k + 1, d, x, v => if w.testBit x.toNat then (if d = 0 then x else memb w k (d - 1) (x + 1) v) else memb w k d (x + 1) v
theorem memb_none {w : Nat} : ∀ {k : Nat} {d x v : Int}, 0 ≤ x → (∀ i : Nat, x ≤ i → w.testBit i = false) → memb w k d x v = v
  | 0, _, _, _, _, _ => rfl
  | k + 1, d, x, v, h0, h => by
    unfold memb
    rw [h x.toNat (by omega), if_neg (by simp)]
    exact memb_none (by omega) (fun i hi => h i (by omega))
theorem memb_more {w : Nat} : ∀ {k j : Nat} {d x v : Int}, 0 ≤ x → (∀ i : Nat, x + k ≤ i → w.testBit i = false) → memb w (k + j) d x v = memb w k d x v
  | 0, j, d, x, v, h0, h => by
    rw [memb_none h0 (fun i hi => h i (by omega))]
    rfl
  | k + 1, j, d, x, v, h0, h => by
    rw [show k + 1 + j = (k + j) + 1 by omega]
    unfold memb
    split
    · split
      · rfl
      · exact memb_more (by omega) (fun i hi => h i (by omega))
    · exact memb_more (by omega) (fun i hi => h i (by omega))
section O10
variable {σ : SS} {N : Int}
theorem c_membL {w : Nat} {a v : Int} (hw : w < 64) : ∀ (k : Nat) (d x : Int), 0 ≤ x → x + k = 6 → 0 ≤ d ∧ d ≤ 100 → ev 819 5 [qI (w : Int), qI a, qI v, qI d, qI x] [] σ = some (some (qI (memb w k d x v)), σ)
  | 0, d, x, h0, hk, hd => by
    rw [b819_5, if_neg (by omega), b819_37]; rfl
  | k + 1, d, x, h0, hk, hd => by
    rw [b819_5, if_pos (by omega), b819_12, c_has (by omega), decide_eq_true h0, Bool.true_and, Int.toNat_natCast, memb]
    cases c1 : w.testBit x.toNat
    · simp (disch := first | omega | exact b01_or _) only [Option.bind_some, q_push_some, q_push_none, b819_18, b819_31, b01_eq0, b01_eq1, decide_eq_false_iff_not, decide_eq_true_eq, ite_not, b01_t, b01_f, one_ne0, zero_eq0, Bool.true_eq_false, Bool.false_eq_true, ite_true, ite_false, and_self, and_true, true_and, not_true_eq_false, not_false_eq_true]
      exact c_membL hw k d (x + 1) (by omega) (by omega) hd
    · by_cases hz : d = 0
      · simp (disch := first | omega | exact b01_or _) only [Option.bind_some, q_push_some, q_push_none, b819_18, b819_21, b819_25, hz, b01_eq0, b01_eq1, decide_eq_false_iff_not, decide_eq_true_eq, ite_not, b01_t, b01_f, one_ne0, zero_eq0, Bool.true_eq_false, Bool.false_eq_true, ite_true, ite_false, and_self, and_true, true_and, not_true_eq_false, not_false_eq_true]
      · simp (disch := first | omega | exact b01_or _) only [Option.bind_some, q_push_some, q_push_none, b819_18, b819_21, b819_28, b819_31, hz, b01_eq0, b01_eq1, decide_eq_false_iff_not, decide_eq_true_eq, ite_not, b01_t, b01_f, one_ne0, zero_eq0, Bool.true_eq_false, Bool.false_eq_true, ite_true, ite_false, and_self, and_true, true_and, not_true_eq_false, not_false_eq_true]
        exact c_membL hw k (d - 1) (x + 1) (by omega) (by omega) (by omega)
/-- the model's walk over the houses -/
def mmem (w : Nat) : Nat → Int → Int → Int → Int
  | 0, _, _, v => v
  | k + 1, d, x, v => if w.testBit x.toNat then mmem w k (d - 1) (x + 1) (if d = 0 then x else v) else mmem w k d (x + 1) v
theorem mmem_neg {w : Nat} : ∀ {k : Nat} {d x v : Int}, d < 0 → mmem w k d x v = v
  | 0, _, _, _, _ => rfl
  | k + 1, d, x, v, h => by
    unfold mmem
    split
    · rw [if_neg (by omega)]
      exact mmem_neg (by omega)
    · exact mmem_neg h
theorem mmem_eq {w : Nat} : ∀ {k : Nat} {d x v : Int}, 0 ≤ d → mmem w k d x v = memb w k d x v
  | 0, _, _, _, _ => rfl
  | k + 1, d, x, v, h => by
    unfold mmem memb
    split
    · by_cases hd : d = 0
      · rw [if_pos hd, if_pos hd, mmem_neg (by omega)]
      · rw [if_neg hd, if_neg hd]
        exact mmem_eq (by omega)
    · exact mmem_eq h
theorem m_membL {w : Nat} (hw : w < 64) (h50 : 0 ≤ σ 50 16 ∧ σ 50 16 < 6) (h13 : 0 ≤ σ 50 13 ∧ σ 50 13 ≤ 6) : ∀ (k : Nat) (d x v : Int), 0 ≤ x → x + k = σ 50 13 → -100 ≤ d - k ∧ d ≤ 100 → ev 942 28 [qR 50, qI (w : Int), qI d, qI x] [] (q_put σ 51 (σ 50 16).toNat v) = some (none, q_put σ 51 (σ 50 16).toNat (mmem w k d x v))
  | 0, d, x, v, h0, hk, hd => by
    rw [b942_28, put_ne (by decide), if_neg (by omega), b942_79]; rfl
  | k + 1, d, x, v, h0, hk, hd => by
    have hpp : ∀ t t' : Int, q_put (q_put σ 51 (σ 50 16).toNat t) 51 (σ 50 16).toNat t' = q_put σ 51 (σ 50 16).toNat t' := by
      intro t t'
      funext k j
      unfold q_put
      split <;> simp [*]
    rw [b942_28, put_ne (by decide), if_pos (by omega), b942_36, m_has (by omega), Int.toNat_natCast, mmem]
    cases c1 : w.testBit x.toNat
    · simp (disch := first | omega | exact b01_or _) only [Option.bind_some, q_push_some, q_push_none, b942_41, b942_73, b01_eq0, b01_eq1, decide_eq_false_iff_not, decide_eq_true_eq, ite_not, b01_t, b01_f, one_ne0, zero_eq0, Bool.true_eq_false, Bool.false_eq_true, ite_true, ite_false, and_self, and_true, true_and, not_true_eq_false, not_false_eq_true]
      exact m_membL hw h50 h13 k d (x + 1) v (by omega) (by omega) (by omega)
    · rw [Option.bind_some, q_push_some]
      dsimp only
      rw [if_pos rfl]
      rw [b942_41, if_neg (by decide), b942_44, put_ne (show (50 : Nat) ≠ 51 by decide)]
      by_cases hz : d = 0
      · rw [if_pos hz, b942_56, b942_69 (by omega), hpp, b942_73 (by omega), if_pos hz]
        exact m_membL hw h50 h13 k (d - 1) (x + 1) x (by omega) (by omega) (by omega)
      · rw [if_neg hz, b942_60 (by rw [put_ne (by decide)]; omega), put_ne (show (50 : Nat) ≠ 51 by decide), rw_eq, b942_69 (by omega), hpp, b942_73 (by omega), if_neg hz]
        exact m_membL hw h50 h13 k (d - 1) (x + 1) v (by omega) (by omega) (by omega)
/-- a drift's hour, on both sides -/
def dC (σ : SS) (hr sd : Int) (hm sk : Nat → Int) : SS := fun k j => if k = 21 then (if j = 3 then hr else if j = 8 then sd else σ 21 j) else if k = 22 then hm j else if k = 24 then sk j else σ k j
def dM (σ : SS) (hr sd : Int) (hm sk : Nat → Int) : SS := fun k j => if k = 51 then (if j = 21 then hr else if j = 23 then sd else if j < 6 then hm j else if 12 ≤ j ∧ j < 18 then sk (j - 12) else σ 51 j) else σ k j
def updn (f : Nat → Int) (i : Nat) (v : Int) : Nat → Int := fun j => if j = i then v else f j
theorem dC_id : dC σ (σ 21 3) (σ 21 8) (σ 22) (σ 24) = σ := by
  funext k j
  unfold dC
  split
  · subst k
    split
    · subst j; rfl
    · split
      · subst j; rfl
      · rfl
  · split
    · subst k; rfl
    · split
      · subst k; rfl
      · rfl
theorem dM_id : dM σ (σ 51 21) (σ 51 23) (σ 51) (fun j => σ 51 (12 + j)) = σ := by
  funext k j
  unfold dM
  split
  · subst k
    split
    · subst j; rfl
    · split
      · subst j; rfl
      · split
        · rfl
        · split
          · show σ 51 (12 + (j - 12)) = σ 51 j
            rw [show 12 + (j - 12) = j by omega]
          · rfl
  · rfl
variable {hr sd : Int} {hm sk : Nat → Int}
theorem dC_3 {v : Int} : q_put (dC σ hr sd hm sk) 21 3 v = dC σ v sd hm sk := by
  funext k j
  unfold q_put dC
  by_cases h : k = 21
  · subst h
    by_cases hj : j = 3
    · simp [hj]
    · simp [hj]
  · simp [h]
theorem dC_8 {v : Int} : q_put (dC σ hr sd hm sk) 21 8 v = dC σ hr v hm sk := by
  funext k j
  unfold q_put dC
  by_cases h : k = 21
  · subst h
    by_cases hj : j = 8
    · simp [hj]
    · simp [hj]
  · simp [h]
theorem dC_22 {i : Nat} {v : Int} : q_put (dC σ hr sd hm sk) 22 i v = dC σ hr sd (updn hm i v) sk := by
  funext k j
  unfold q_put dC updn
  by_cases h : k = 22
  · subst h
    by_cases hj : j = i
    · simp [hj]
    · simp [hj]
  · simp [h]
theorem dC_24 {i : Nat} {v : Int} : q_put (dC σ hr sd hm sk) 24 i v = dC σ hr sd hm (updn sk i v) := by
  funext k j
  unfold q_put dC updn
  by_cases h : k = 24
  · subst h
    by_cases hj : j = i
    · simp [hj]
    · simp [hj]
  · simp [h]
theorem dM_21 {v : Int} : q_put (dM σ hr sd hm sk) 51 21 v = dM σ v sd hm sk := by
  funext k j
  unfold q_put dM
  by_cases h : k = 51
  · subst h
    by_cases hj : j = 21
    · simp [hj]
    · simp [hj]
  · simp [h]
theorem dM_23 {v : Int} : q_put (dM σ hr sd hm sk) 51 23 v = dM σ hr v hm sk := by
  funext k j
  unfold q_put dM
  by_cases h : k = 51
  · subst h
    by_cases hj : j = 23
    · simp [hj]
    · simp [hj]
  · simp [h]
theorem dM_hm {i : Nat} {v : Int} (hi : i < 6) : q_put (dM σ hr sd hm sk) 51 i v = dM σ hr sd (updn hm i v) sk := by
  funext k j
  unfold q_put dM updn
  by_cases h : k = 51
  · subst h
    by_cases hj : j = i
    · subst hj
      have h1 : ¬ j = 21 := by omega
      have h2 : ¬ j = 23 := by omega
      simp [h1, h2, hi]
    · simp [hj]
  · simp [h]
theorem dM_sk {i : Nat} {v : Int} (hi : i < 6) : q_put (dM σ hr sd hm sk) 51 (12 + i) v = dM σ hr sd hm (updn sk i v) := by
  funext k j
  unfold q_put dM updn
  by_cases h : k = 51
  · subst h
    by_cases hj : j = 12 + i
    · subst hj
      have h1 : ¬ 12 + i = 21 := by omega
      have h2 : ¬ 12 + i = 23 := by omega
      have h3 : ¬ 12 + i < 6 := by omega
      have h4 : 12 + i < 18 := by omega
      have h5 : 12 + i - 12 = i := by omega
      simp [h1, h2, h3, h4, h5]
    · have h6 : 12 ≤ j → ¬ j - 12 = i := by omega
      simp only [hj, and_false, if_false]
      split
      · split
        · rfl
        · split
          · rfl
          · split
            · rfl
            · split
              · rename_i hh
                rw [if_neg (h6 hh.1)]
              · rfl
      · rfl
  · simp [h]
theorem RR.dr (h : RR σ N) {hm' sk' : Nat → Int} (hN : N ≤ 100000) (hh : 0 ≤ hr ∧ hr ≤ N) (hge : σ 51 21 ≤ hr) (hs : 0 ≤ sd ∧ sd ≤ 2147483647) (hg : ∀ g : Nat, (g : Int) < σ 50 14 → hm g = hm' g ∧ 0 ≤ hm' g ∧ hm' g < σ 50 13 ∧ ((sk g = sk' g ∧ 0 ≤ sk' g ∧ sk' g ≤ hr) ∨ (sk g = -1000 ∧ sk' g = -100))) : RR (mix (dC σ hr sd hm sk) (dM σ hr sd hm' sk')) N := by
  have hn := h.n
  have ht := h.t
  refine h.night (by omega) hN ?_ ?_ ?_ ?_
  · intro k hk
    funext j
    unfold dC
    rw [if_neg (by rintro rfl; revert hk; decide), if_neg (by rintro rfl; revert hk; decide), if_neg (by rintro rfl; revert hk; decide)]
  · intro k hk
    funext j
    unfold dM
    rw [if_neg (by rintro rfl; revert hk; decide)]
  · intro j hj
    unfold dM
    rw [if_pos rfl, if_neg (by omega), if_neg (by omega), if_neg (by omega), if_neg (by omega)]
  · refine RN_mk ?_ (fun g hgg => ?_)
    · simp (disch := decide) only [mix_c, mix_m]
      have c3 : dC σ hr sd hm sk 21 3 = hr := rfl
      have c4 : dC σ hr sd hm sk 21 4 = σ 21 4 := rfl
      have c5 : dC σ hr sd hm sk 21 5 = σ 21 5 := rfl
      have c6 : dC σ hr sd hm sk 21 6 = σ 21 6 := rfl
      have c7 : dC σ hr sd hm sk 21 7 = σ 21 7 := rfl
      have c8 : dC σ hr sd hm sk 21 8 = sd := rfl
      have d1 : dM σ hr sd hm' sk' 51 21 = hr := rfl
      have d2 : dM σ hr sd hm' sk' 51 22 = σ 51 22 := rfl
      have d3 : dM σ hr sd hm' sk' 51 18 = σ 51 18 := rfl
      have d4 : dM σ hr sd hm' sk' 51 19 = σ 51 19 := rfl
      have d5 : dM σ hr sd hm' sk' 51 20 = σ 51 20 := rfl
      have d6 : dM σ hr sd hm' sk' 51 23 = sd := rfl
      have d7 : dM σ hr sd hm' sk' 50 13 = σ 50 13 := rfl
      rw [c3, c4, c5, c6, c7, c8, d1, d2, d3, d4, d5, d6, d7]
      omega
    · revert hgg
      simp (disch := decide) only [mix_c, mix_m]
      have d7 : dM σ hr sd hm' sk' 50 13 = σ 50 13 := rfl
      have d8 : dM σ hr sd hm' sk' 50 14 = σ 50 14 := rfl
      have d1 : dM σ hr sd hm' sk' 51 21 = hr := rfl
      have c1 : dC σ hr sd hm sk 22 g = hm g := rfl
      have c2 : dC σ hr sd hm sk 23 g = σ 23 g := rfl
      have c3 : dC σ hr sd hm sk 24 g = sk g := rfl
      rw [d7, d8, d1, c1, c2, c3]
      intro hgg
      have h1 := h.ng hgg
      have h2 := hg g hgg
      have e1 : dM σ hr sd hm' sk' 51 g = hm' g := by unfold dM; rw [if_pos rfl, if_neg (by omega), if_neg (by omega), if_pos (by omega)]
      have e2 : dM σ hr sd hm' sk' 51 (6 + g) = σ 51 (6 + g) := by unfold dM; rw [if_pos rfl, if_neg (by omega), if_neg (by omega), if_neg (by omega), if_neg (by omega)]
      have e3 : dM σ hr sd hm' sk' 51 (12 + g) = sk' g := by unfold dM; rw [if_pos rfl, if_neg (by omega), if_neg (by omega), if_neg (by omega), if_pos (by omega), show 12 + g - 12 = g by omega]
      rw [e1, e2, e3]
      omega
end O10
