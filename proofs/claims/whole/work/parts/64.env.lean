/-! ===== THE START: classes, arrays, surroundings ===== -/
theorem gw_hts {args : Array Value} {s : State} (hts : ∀ w ∈ lw_tbl, w.before args s = true) : ∀ w ∈ gw, w.before args s = true := fun w hw => hts w (gw_in hw)
theorem w_cls {args : Array Value} {s : State} (hts : ∀ w ∈ lw_tbl, w.before args s = true) : ∃ D : va_G, ∀ (k : Nat) (q : vw_C), vwCl[k]? = some q → u_Kn s q.1 q.2.1 q.2.2 (D.1 k) (D.2 k) := by
  have h : ∀ k : Nat, ∃ f : ClassId × (Nat → Nat), ∀ q : vw_C, vwCl[k]? = some q → u_Kn s q.1 q.2.1 q.2.2 f.1 f.2 := by
    intro k
    match k with
    | 0 =>
      obtain ⟨c, f, hf⟩ := u_known (C := RX0) (T := TX0) (N := 3) (n := 3) (gw_hts hts) gwX0 (hts _ (gw_in (gw_of 377 (by decide +kernel) rfl)))
      exact ⟨(c, f), fun q hq => by cases hq; exact hf⟩
    | 1 =>
      obtain ⟨c, f, hf⟩ := u_known (C := RX1) (T := TX1) (N := 3) (n := 3) (gw_hts hts) gwX1 (hts _ (gw_in (gw_of 361 (by decide +kernel) rfl)))
      exact ⟨(c, f), fun q hq => by cases hq; exact hf⟩
    | 2 =>
      obtain ⟨c, f, hf⟩ := u_known (C := RX2) (T := TX2) (N := 2) (n := 2) (gw_hts hts) gwX2 (hts _ (gw_in (gw_of 288 (by decide +kernel) rfl)))
      exact ⟨(c, f), fun q hq => by cases hq; exact hf⟩
    | 3 =>
      obtain ⟨c, f, hf⟩ := u_known (C := RX3) (T := TX3) (N := 9) (n := 9) (gw_hts hts) gwX3 (hts _ (gw_in (gw_of 236 (by decide +kernel) rfl)))
      exact ⟨(c, f), fun q hq => by cases hq; exact hf⟩
    | 4 =>
      obtain ⟨c, f, hf⟩ := u_known (C := RX4) (T := TX4) (N := 9) (n := 9) (gw_hts hts) gwX4 (hts _ (gw_in (gw_of 304 (by decide +kernel) rfl)))
      exact ⟨(c, f), fun q hq => by cases hq; exact hf⟩
    | 5 =>
      obtain ⟨c, f, hf⟩ := u_known (C := RX5) (T := TX5) (N := 8) (n := 8) (gw_hts hts) gwX5 (hts _ (gw_in (gw_of 110 (by decide +kernel) rfl)))
      exact ⟨(c, f), fun q hq => by cases hq; exact hf⟩
    | 6 =>
      obtain ⟨c, f, hf⟩ := u_known (C := RX6) (T := TX6) (N := 16) (n := 16) (gw_hts hts) gwX6 (hts _ (gw_in (gw_of 146 (by decide +kernel) rfl)))
      exact ⟨(c, f), fun q hq => by cases hq; exact hf⟩
    | 7 =>
      obtain ⟨c, f, hf⟩ := u_known (C := RX7) (T := TX7) (N := 2) (n := 2) (gw_hts hts) gwX7 (hts _ (gw_in (gw_of 348 (by decide +kernel) rfl)))
      exact ⟨(c, f), fun q hq => by cases hq; exact hf⟩
    | 8 =>
      obtain ⟨c, f, hf⟩ := u_known (C := RX8) (T := TX8) (N := 11) (n := 11) (gw_hts hts) gwX8 (hts _ (gw_in (gw_of 102 (by decide +kernel) rfl)))
      exact ⟨(c, f), fun q hq => by cases hq; exact hf⟩
    | 9 =>
      obtain ⟨c, f, hf⟩ := u_known (C := RX9) (T := TX9) (N := 42) (n := 42) (gw_hts hts) gwX9 (hts _ (gw_in (gw_of 1009 (by decide +kernel) rfl)))
      exact ⟨(c, f), fun q hq => by cases hq; exact hf⟩
    | k + 10 => exact ⟨(0, fun _ => 0), fun q hq => by simp [vwCl] at hq⟩
  obtain ⟨f, hf⟩ := Classical.axiomOfChoice h
  exact ⟨(fun k => (f k).1, fun k => (f k).2), fun k q hq => hf k q hq⟩
theorem w_AO : Cond.arrayOver (.object "SlipperFits$Night") ∈ lw_tbl := List.mem_of_getElem? (i := 286) (by decide +kernel)
theorem w_K {args : Array Value} {s : State} (hts : ∀ w ∈ lw_tbl, w.before args s = true) : ∃ (D : va_G) (cI cZ cK : ClassId), va_K D vwCl (q_tys cI cZ cK) s := by
  obtain ⟨D, hD⟩ := w_cls hts
  obtain ⟨cI, kI, pI, i1, i2, i3⟩ := Cond.arrayClass_spec (hts _ (gw_in k_ai))
  obtain ⟨cZ, kZ, pZ, z1, z2, z3⟩ := Cond.arrayClass_spec (hts _ (gw_in k_az))
  obtain ⟨comp, cK, kK, k1, k2, k3, k4, k5⟩ := Cond.arrayOver_spec (hts _ w_AO)
  refine ⟨D, cI, cZ, cK, hD, fun k q hq => ?_⟩
  match k, hq with
  | 0, hq =>
    cases hq
    exact ⟨fun n z => ⟨(fun k h => by cases h), kI, i2, pI, i3⟩, i1⟩
  | 1, hq =>
    cases hq
    exact ⟨fun n z => ⟨(fun k h => by cases h), kZ, z2, pZ, z3⟩, z1⟩
  | 2, hq =>
    cases hq
    exact ⟨fun n z => ⟨(fun k h => by cases h), kK, k3, comp, k4⟩, kK, comp, k3, k4, k1, k5⟩
  | k + 3, hq => simp at hq
def w_tm (i : Nat) : Term := Term.string "SlipperFits$Reader" (q_sidx.getD i (0, "")).1
section WE
variable {args : Array Value} {s : State}
theorem lt7 {P : Nat → Prop} (h0 : P 0) (h1 : P 1) (h2 : P 2) (h3 : P 3) (h4 : P 4) (h5 : P 5) (h6 : P 6) : ∀ i, i < 7 → P i := by
  intro i hi
  match i, hi with
  | 0, _ => exact h0
  | 1, _ => exact h1
  | 2, _ => exact h2
  | 3, _ => exact h3
  | 4, _ => exact h4
  | 5, _ => exact h5
  | 6, _ => exact h6
  | k + 7, h => omega
theorem lt5 {P : Nat → Prop} (h0 : P 0) (h1 : P 1) (h2 : P 2) (h3 : P 3) (h4 : P 4) : ∀ i, i < 5 → P i := by
  intro i hi
  match i, hi with
  | 0, _ => exact h0
  | 1, _ => exact h1
  | 2, _ => exact h2
  | 3, _ => exact h3
  | 4, _ => exact h4
  | k + 5, h => omega
theorem w_str {A : Nat → Prop} (hg : (Jvm.Cond.and given_1 narrow_1).before args s = true) (hA : ∀ a : Nat, a < s.heap.size → ¬ A a) : ∃ adK adV : Nat → Nat, vk_S 7 q_lens q_byts adK adV A s s.heap ∧ ∀ i : Nat, i < 7 → (w_tm i).eval args s none [] s = some (.ref (adK i)) := by
  have hs := flat_of_before _ hg
  refine vk_Sof (tm := w_tm) (len := q_lens) (byt := q_byts) ?_ ?_ ?_ ?_ ?_ ?_ ?_ hA
  · exact lt7 (by decide) (by decide) (by decide) (by decide) (by decide) (by decide) (by decide)
  · exact lt7 (hs _ (by decide +kernel)) (hs _ (by decide +kernel)) (hs _ (by decide +kernel)) (hs _ (by decide +kernel)) (hs _ (by decide +kernel)) (hs _ (by decide +kernel)) (hs _ (by decide +kernel))
  · exact lt7 (hs _ (by decide +kernel)) (hs _ (by decide +kernel)) (hs _ (by decide +kernel)) (hs _ (by decide +kernel)) (hs _ (by decide +kernel)) (hs _ (by decide +kernel)) (hs _ (by decide +kernel))
  · exact lt7 (hs _ (by decide +kernel)) (hs _ (by decide +kernel)) (hs _ (by decide +kernel)) (hs _ (by decide +kernel)) (hs _ (by decide +kernel)) (hs _ (by decide +kernel)) (hs _ (by decide +kernel))
  · exact lt7 (hs _ (by decide +kernel)) (hs _ (by decide +kernel)) (hs _ (by decide +kernel)) (hs _ (by decide +kernel)) (hs _ (by decide +kernel)) (hs _ (by decide +kernel)) (hs _ (by decide +kernel))
  · refine lt7 ?_ ?_ ?_ ?_ ?_ ?_ ?_
    · intro j hj
      match j, hj with
      | 0, _ => exact hs _ (by decide +kernel)
      | 1, _ => exact hs _ (by decide +kernel)
      | 2, _ => exact hs _ (by decide +kernel)
      | 3, _ => exact hs _ (by decide +kernel)
      | k + 4, h =>
        exact absurd h (by show ¬ k + 4 < 4; omega)
    · intro j hj
      match j, hj with
      | 0, _ => exact hs _ (by decide +kernel)
      | 1, _ => exact hs _ (by decide +kernel)
      | 2, _ => exact hs _ (by decide +kernel)
      | 3, _ => exact hs _ (by decide +kernel)
      | k + 4, h =>
        exact absurd h (by show ¬ k + 4 < 4; omega)
    · intro j hj
      match j, hj with
      | 0, _ => exact hs _ (by decide +kernel)
      | 1, _ => exact hs _ (by decide +kernel)
      | 2, _ => exact hs _ (by decide +kernel)
      | 3, _ => exact hs _ (by decide +kernel)
      | 4, _ => exact hs _ (by decide +kernel)
      | k + 5, h =>
        exact absurd h (by show ¬ k + 5 < 5; omega)
    · intro j hj
      match j, hj with
      | 0, _ => exact hs _ (by decide +kernel)
      | 1, _ => exact hs _ (by decide +kernel)
      | 2, _ => exact hs _ (by decide +kernel)
      | k + 3, h =>
        exact absurd h (by show ¬ k + 3 < 3; omega)
    · intro j hj
      match j, hj with
      | 0, _ => exact hs _ (by decide +kernel)
      | 1, _ => exact hs _ (by decide +kernel)
      | 2, _ => exact hs _ (by decide +kernel)
      | 3, _ => exact hs _ (by decide +kernel)
      | k + 4, h =>
        exact absurd h (by show ¬ k + 4 < 4; omega)
    · intro j hj
      match j, hj with
      | 0, _ => exact hs _ (by decide +kernel)
      | 1, _ => exact hs _ (by decide +kernel)
      | 2, _ => exact hs _ (by decide +kernel)
      | 3, _ => exact hs _ (by decide +kernel)
      | k + 4, h =>
        exact absurd h (by show ¬ k + 4 < 4; omega)
    · intro j hj
      match j, hj with
      | 0, _ => exact hs _ (by decide +kernel)
      | 1, _ => exact hs _ (by decide +kernel)
      | 2, _ => exact hs _ (by decide +kernel)
      | k + 3, h =>
        exact absurd h (by show ¬ k + 3 < 3; omega)
  · intro i j hi hj hij
    have h2 : i < j ∨ j < i := by omega
    have key : ∀ i j : Nat, i < 7 → j < 7 → i < j → (Cond.not (Cond.eq (w_tm i) (w_tm j))).before args s = true := by
      intro i j hi hj hij
      match i, j, hi, hj, hij with
      | 0, 1, _, _, _ => exact hs _ (by decide +kernel)
      | 0, 2, _, _, _ => exact hs _ (by decide +kernel)
      | 0, 3, _, _, _ => exact hs _ (by decide +kernel)
      | 0, 4, _, _, _ => exact hs _ (by decide +kernel)
      | 0, 5, _, _, _ => exact hs _ (by decide +kernel)
      | 0, 6, _, _, _ => exact hs _ (by decide +kernel)
      | 1, 2, _, _, _ => exact hs _ (by decide +kernel)
      | 1, 3, _, _, _ => exact hs _ (by decide +kernel)
      | 1, 4, _, _, _ => exact hs _ (by decide +kernel)
      | 1, 5, _, _, _ => exact hs _ (by decide +kernel)
      | 1, 6, _, _, _ => exact hs _ (by decide +kernel)
      | 2, 3, _, _, _ => exact hs _ (by decide +kernel)
      | 2, 4, _, _, _ => exact hs _ (by decide +kernel)
      | 2, 5, _, _, _ => exact hs _ (by decide +kernel)
      | 2, 6, _, _, _ => exact hs _ (by decide +kernel)
      | 3, 4, _, _, _ => exact hs _ (by decide +kernel)
      | 3, 5, _, _, _ => exact hs _ (by decide +kernel)
      | 3, 6, _, _, _ => exact hs _ (by decide +kernel)
      | 4, 5, _, _, _ => exact hs _ (by decide +kernel)
      | 4, 6, _, _, _ => exact hs _ (by decide +kernel)
      | 5, 6, _, _, _ => exact hs _ (by decide +kernel)
      | i + 7, _, h, _, _ => omega
      | _, j + 7, _, h, _ => omega
      | 1, 0, _, _, h => omega
      | 2, 0, _, _, h => omega
      | 2, 1, _, _, h => omega
      | 3, 0, _, _, h => omega
      | 3, 1, _, _, h => omega
      | 3, 2, _, _, h => omega
      | 4, 0, _, _, h => omega
      | 4, 1, _, _, h => omega
      | 4, 2, _, _, h => omega
      | 4, 3, _, _, h => omega
      | 5, 0, _, _, h => omega
      | 5, 1, _, _, h => omega
      | 5, 2, _, _, h => omega
      | 5, 3, _, _, h => omega
      | 5, 4, _, _, h => omega
      | 6, 0, _, _, h => omega
      | 6, 1, _, _, h => omega
      | 6, 2, _, _, h => omega
      | 6, 3, _, _, h => omega
      | 6, 4, _, _, h => omega
      | 6, 5, _, _, h => omega
      | 0, 0, _, _, h => omega
      | 1, 1, _, _, h => omega
      | 2, 2, _, _, h => omega
      | 3, 3, _, _, h => omega
      | 4, 4, _, _, h => omega
      | 5, 5, _, _, h => omega
      | 6, 6, _, _, h => omega
    rcases h2 with h2 | h2
    · exact Or.inl (key i j hi hj h2)
    · exact Or.inr (key j i hj hi h2)
/-- the surroundings that the machine needs -/
theorem w_env {ad adK adV : Nat → Nat} (hts : ∀ w ∈ lw_tbl, w.before args s = true) (hg : (Jvm.Cond.and given_1 narrow_1).before args s = true) (hA : ∀ a : Nat, a < s.heap.size → ¬ q_A ad a) (h1 : vk_S 7 q_lens q_byts adK adV (q_A ad) s s.heap) (h2 : ∀ i : Nat, i < 7 → (w_tm i).eval args s none [] s = some (.ref (adK i))) (had : ∀ i, i < 7 → ad (100 + i) = adK i) : q_Env ad adV s s.heap := by
  have hs := flat_of_before _ hg
  refine ⟨?_, ?_, ?_, ?_, ?_⟩
  · intro q hq
    simp only [q_nests, List.mem_cons, List.not_mem_nil, or_false] at hq
    rcases hq with rfl | rfl | rfl | rfl
    · exact va_Nw.of rfl (hts _ (List.mem_of_getElem? (i := 564) (by decide +kernel)))
    · exact va_Nw.of rfl (hts _ (List.mem_of_getElem? (i := 801) (by decide +kernel)))
    · exact va_Nw.of rfl (hts _ (List.mem_of_getElem? (i := 849) (by decide +kernel)))
    · exact va_Nw.of rfl (hts _ (List.mem_of_getElem? (i := 919) (by decide +kernel)))
  · refine lt7 ?_ ?_ ?_ ?_ ?_ ?_ ?_
    · exact vk_R.of (hts _ (List.mem_of_getElem? (i := 461) (by decide +kernel))) (by rw [had 0 (by decide)]; exact h2 0 (by decide))
    · exact vk_R.of (hts _ (List.mem_of_getElem? (i := 533) (by decide +kernel))) (by rw [had 1 (by decide)]; exact h2 1 (by decide))
    · exact vk_R.of (hts _ (List.mem_of_getElem? (i := 538) (by decide +kernel))) (by rw [had 2 (by decide)]; exact h2 2 (by decide))
    · exact vk_R.of (hts _ (List.mem_of_getElem? (i := 551) (by decide +kernel))) (by rw [had 3 (by decide)]; exact h2 3 (by decide))
    · exact vk_R.of (hts _ (List.mem_of_getElem? (i := 571) (by decide +kernel))) (by rw [had 4 (by decide)]; exact h2 4 (by decide))
    · exact vk_R.of (hts _ (List.mem_of_getElem? (i := 580) (by decide +kernel))) (by rw [had 5 (by decide)]; exact h2 5 (by decide))
    · exact vk_R.of (hts _ (List.mem_of_getElem? (i := 601) (by decide +kernel))) (by rw [had 6 (by decide)]; exact h2 6 (by decide))
  · refine ⟨fun i hi => ?_, fun i j hi hj e => ?_⟩
    · have := h1.1 i hi
      rw [← had i hi] at this
      exact this
    · have e : ad (100 + i) = ad (100 + j) := e
      rw [had i hi, had j hj] at e
      exact h1.2 i j hi hj e
  · exact va_Zof (hts _ (List.mem_of_getElem? (i := 475) (by decide +kernel))) (hts _ (List.mem_of_getElem? (i := 94) (by decide +kernel))) (va_eqt (hs _ (by decide +kernel))) hA
  · exact va_Zqof (hts _ (List.mem_of_getElem? (i := 491) (by decide +kernel))) (hts _ (List.mem_of_getElem? (i := 96) (by decide +kernel))) (hs _ (by decide +kernel)) hA
end WE
