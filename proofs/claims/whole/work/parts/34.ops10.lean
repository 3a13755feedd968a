/-! ===== drift, put together ===== -/
theorem mix_self {σ : SS} : mix σ σ = σ := by
  funext k
  unfold mix
  split <;> rfl
theorem RR.up {σ : SS} {N N' : Int} (h : RR σ N) (hN : N ≤ N') (hN' : N' ≤ 100000) : RR σ N' := by
  have := h.cg2 (σ1 := σ) (σ2 := σ) hN hN' (fun _ _ => rfl) (fun _ _ => rfl)
  rw [mix_self] at this
  exact this
/-- both go on from the memory that each one sees -/
theorem sim_glue {mi pc mj pd : Nat} {L S M T : List AV} {σa σb τ1 τ2 : SS} {r s : Option AV} (hL : ∀ v ∈ L, okR P_c v) (hS : ∀ v ∈ S, okR P_c v) (hM : ∀ v ∈ M, okR P_m v) (hT : ∀ v ∈ T, okR P_m v) (h1 : ev mi pc L S (mix σa σb) = some (r, τ1)) (h2 : ev mj pd M T (mix σa σb) = some (s, τ2)) : ∃ σ1 σ2, ev mi pc L S σa = some (r, σ1) ∧ ev mj pd M T σb = some (s, σ2) ∧ mix σ1 σ2 = mix τ1 τ2 := by
  obtain ⟨-, a2⟩ := ev_locS clo_c hL hS h1
  obtain ⟨b1, b2⟩ := ev_locS clo_m hM hT h2
  obtain ⟨σ1, c1, c2, c3⟩ := a2 σa (fun k hk => (mix_c (mp_c.mp hk)).symm)
  obtain ⟨σ2, d1, d2, d3⟩ := b2 σb (fun k hk => (mix_m (mp_m.mp hk).1).symm)
  refine ⟨σ1, σ2, c1, d1, ?_⟩
  funext k
  by_cases h : k < 50
  · rw [mix_c h, mix_c h, c2 k (mp_c.mpr h)]
  · rw [mix_m (by omega), mix_m (by omega)]
    by_cases h2 : k < 100
    · exact d2 k (mp_m.mpr ⟨by omega, h2⟩)
    · have hn : ¬ Mp P_m k := fun z => h2 (mp_m.mp z).2
      rw [d3 k hn, b1 k hn, mix_m (by omega)]
section O11
variable {σ : SS} {N : Int}
theorem c_hasGirlX {x : Int} (h : 0 ≤ σ 12 10 ∧ σ 12 10 ≤ 6) : ev 603 0 [qR 12, qI x] [] σ = some (some (qI (b01 (decide (0 ≤ x ∧ x < σ 12 10)))), σ) := by
  simp (disch := first | omega | exact b01_or _) only [b603x0_0, b603x0_4, b603x0_12, b603x0_18, b603x0_22, b603x0_23]
  split
  · rw [← dec_b00 (P := 0 ≤ x ∧ x < σ 12 10) (by omega)]
  · split
    · split
      · rw [← dec_b01 (P := 0 ≤ x ∧ x < σ 12 10) (by omega)]
      · omega
    · rw [← dec_b00 (P := 0 ≤ x ∧ x < σ 12 10) (by omega)]
/-- where she goes -/
def d_u (σ : SS) : Nat := (σ 50 16).toNat
def d_w (σ : SS) : Nat := (σ 55 (σ 51 (d_u σ)).toNat).toNat
def d_n (σ : SS) : Int := (bcnt (fun i => (d_w σ).testBit i) 6 : Nat) + 1
def d_h (σ : SS) : Int := memb (d_w σ) 6 (drw (σ 51 23) (d_n σ)) 0 (σ 51 (d_u σ))
theorem d_facts (h : RR σ N) (hg : 0 < σ 50 14) : (σ 50 16 = (d_u σ : Int)) ∧ d_u σ < 6 ∧ (d_u σ : Int) < σ 50 14 ∧ d_w σ < 64 ∧ σ 55 (σ 51 (d_u σ)).toNat = (d_w σ : Int) ∧ 1 ≤ d_n σ ∧ d_n σ ≤ 7 ∧ 0 ≤ σ 51 (d_u σ) ∧ σ 51 (d_u σ) < σ 50 13 ∧ (∀ i : Nat, (d_w σ).testBit i = true → (i : Int) < σ 50 13) := by
  have ht := h.t
  have e : σ 50 16 = (d_u σ : Int) := by unfold d_u; omega
  have hN := h.ng (g := d_u σ) (by omega)
  have hH := h.h (x := σ 51 (d_u σ)) hN.2.1 hN.2.2.1
  have hb := bcnt_le (fun i => (d_w σ).testBit i) 6
  have e2 : σ 55 (σ 51 (d_u σ)).toNat = (d_w σ : Int) := by unfold d_w; omega
  refine ⟨e, by omega, by omega, by omega, e2, by unfold d_n; omega, by unfold d_n; omega, hN.2.1, hN.2.2.1, ?_⟩
  intro i hi
  exact (h.1.2.2.2.1 (σ 51 (d_u σ)).toNat i (by omega) hi).1
theorem memb_in {w : Nat} {n : Int} (hw : ∀ i : Nat, w.testBit i = true → (i : Int) < n) : ∀ {k : Nat} {d x v : Int}, 0 ≤ x → 0 ≤ v ∧ v < n → 0 ≤ memb w k d x v ∧ memb w k d x v < n
  | 0, _, _, _, _, hv => hv
  | k + 1, d, x, v, h0, hv => by
    unfold memb
    split
    · rename_i hb
      split
      · have := hw _ hb
        omega
      · exact memb_in hw (by omega) hv
    · exact memb_in hw (by omega) hv
theorem c_wander (h : RR σ N) (hg : 0 < σ 50 14) : ev 818 0 [qR 0, qU, qU, qU] [] σ = some (none, dC σ (σ 21 3) (lcg (σ 51 23)) (updn (σ 22) (d_u σ) (d_h σ)) (σ 24)) := by
  have ht := h.t
  have hn := h.n
  obtain ⟨u1, u2, u3, w1, w2, n1, n2, r1, r2, -⟩ := d_facts h hg
  have hN := h.ng (g := d_u σ) u3
  have e15 : σ 12 15 = (d_u σ : Int) := by omega
  have e22 : σ 22 (d_u σ) = σ 51 (d_u σ) := by omega
  have e8 : σ 21 8 = σ 51 23 := by omega
  have rd := drw_rng (s := σ 51 23) (n := d_n σ) (by omega)
  rw [b818_0 (by omega), e15, Int.toNat_natCast, e22, c_waysFrom h ⟨r1, r2⟩, w2]
  rw [Option.bind_some, q_push_some]
  dsimp only
  rw [b818_24, j_bc w1, Option.bind_some, q_push_some]
  dsimp only
  have hdn : ((bcnt (fun i => (d_w σ).testBit i) 6 : Nat) : Int) + 1 = d_n σ := rfl
  rw [b818_33 (by rw [hdn]; omega), hdn, c_draw (by omega) (by omega), Option.bind_some, q_push_some]
  dsimp only
  have hm := c_membL (σ := q_put σ 21 8 (lcg (σ 21 8))) (a := drw (σ 21 8) (d_n σ)) (v := σ 51 (d_u σ)) w1 6 (drw (σ 21 8) (d_n σ)) 0 (by omega) (by omega) (by rw [e8]; omega)
  rw [b818_38, b819_0, hm, Option.bind_some, q_push_some]
  dsimp only
  rw [put_ne (show (12 : Nat) ≠ 21 by decide), e15, b818_59 (by omega), Int.toNat_natCast, e8]
  have e1 := dC_8 (σ := σ) (hr := σ 21 3) (sd := σ 21 8) (hm := σ 22) (sk := σ 24) (v := lcg (σ 51 23))
  rw [dC_id] at e1
  rw [e1, dC_22]
  rfl
theorem m_wander (h : RR σ N) (hg : 0 < σ 50 14) : ev 942 0 [qR 50, qU, qU, qU] [] σ = some (none, dM σ (σ 51 21) (lcg (σ 51 23)) (updn (σ 51) (d_u σ) (d_h σ)) (fun j => σ 51 (12 + j))) := by
  have ht := h.t
  have hn := h.n
  obtain ⟨u1, u2, u3, w1, w2, n1, n2, r1, r2, r3⟩ := d_facts h hg
  have rd := drw_rng (s := σ 51 23) (n := d_n σ) (by omega)
  rw [b942_0 (by rw [u1, Int.toNat_natCast]; omega), u1, Int.toNat_natCast, w2, m_ones w1, Option.bind_some, q_push_some]
  dsimp only
  have hdn : ((bcnt (fun i => (d_w σ).testBit i) 6 : Nat) : Int) + 1 = d_n σ := rfl
  rw [b942_20 (by rw [hdn]; omega), hdn, m_draw (by omega) (by omega), Option.bind_some, q_push_some]
  dsimp only
  rw [b942_25]
  have e50 : q_put σ 51 23 (lcg (σ 51 23)) 50 = σ 50 := put_ne (by decide)
  have hm := m_membL (σ := q_put σ 51 23 (lcg (σ 51 23))) w1 (by rw [e50]; omega) (by rw [e50]; omega) (σ 50 13).toNat (drw (σ 51 23) (d_n σ)) 0 (σ 51 (d_u σ)) (by omega) (by rw [e50]; omega) (by omega)
  rw [e50, u1, Int.toNat_natCast] at hm
  have e0 : q_put (q_put σ 51 23 (lcg (σ 51 23))) 51 (d_u σ) (σ 51 (d_u σ)) = q_put σ 51 23 (lcg (σ 51 23)) := by
    funext k j
    unfold q_put
    by_cases hk : k = 51 ∧ j = d_u σ
    · rw [if_pos hk, if_neg (by omega), hk.1, hk.2]
    · rw [if_neg hk]
  rw [e0] at hm
  rw [hm, mmem_eq rd.1]
  have e1 := dM_23 (σ := σ) (hr := σ 51 21) (sd := σ 51 23) (hm := σ 51) (sk := fun j => σ 51 (12 + j)) (v := lcg (σ 51 23))
  rw [dM_id] at e1
  rw [e1, dM_hm u2]
  have e2 : memb (d_w σ) (σ 50 13).toNat (drw (σ 51 23) (d_n σ)) 0 (σ 51 (d_u σ)) = d_h σ := by
    unfold d_h
    have := memb_more (w := d_w σ) (k := (σ 50 13).toNat) (j := 6 - (σ 50 13).toNat) (d := drw (σ 51 23) (d_n σ)) (x := 0) (v := σ 51 (d_u σ)) (by omega) (fun i hi => by
      cases hb : (d_w σ).testBit i
      · rfl
      · have := r3 i hb
        omega)
    rw [show (σ 50 13).toNat + (6 - (σ 50 13).toNat) = 6 by omega] at this
    exact this.symm
  rw [e2]
/-- one hour on both sides -/
def d_s2 (σ : SS) : Int := lcg (lcg (σ 51 23))
def d_wet (σ : SS) : Bool := decide (drw (lcg (σ 51 23)) 6 = 0)
def d_g (σ : SS) : Nat := (drw (d_s2 σ) (σ 50 14)).toNat
def d_sd (σ : SS) : Int := if d_wet σ then lcg (d_s2 σ) else d_s2 σ
def d_skc (σ : SS) : Nat → Int := if d_wet σ then updn (σ 24) (d_g σ) (σ 51 21 + 1) else σ 24
def d_skm (σ : SS) : Nat → Int := if d_wet σ then updn (fun j => σ 51 (12 + j)) (d_g σ) (σ 51 21 + 1) else fun j => σ 51 (12 + j)
theorem c_hour {n x : Int} (h : RR σ N) (hg : 0 < σ 50 14) (hx : 0 ≤ x ∧ x ≤ 100) : ev 817 41 [qR 0, qI n, qI x] [] σ = ev 817 36 [qR 0, qI n, qI (x + 1)] [] (dC σ (σ 51 21 + 1) (d_sd σ) (updn (σ 22) (d_u σ) (d_h σ)) (d_skc σ)) := by
  have ht := h.t
  have hn := h.n
  have l1 := lcg_rng (σ 51 23)
  have l2 := lcg_rng (lcg (σ 51 23))
  have rg := drw_rng (s := d_s2 σ) (n := σ 50 14) hg
  rw [b817_41, c_wander h hg, Option.bind_some, q_push_none]
  dsimp only
  have e3 : dC σ (σ 21 3) (lcg (σ 51 23)) (updn (σ 22) (d_u σ) (d_h σ)) (σ 24) 21 3 = σ 51 21 := by show σ 21 3 = _; omega
  rw [b817_45 (by rw [e3]; omega), e3, dC_3, b820_0, c_draw (by show 0 ≤ lcg (σ 51 23) ∧ lcg (σ 51 23) ≤ _; omega) (by omega), dC_8, Option.bind_some, q_push_some]
  have e8 : dC σ (σ 51 21 + 1) (lcg (σ 51 23)) (updn (σ 22) (d_u σ) (d_h σ)) (σ 24) 21 8 = lcg (σ 51 23) := rfl
  dsimp only
  rw [e8]
  by_cases hw : drw (lcg (σ 51 23)) 6 = 0
  · have hwt : d_wet σ = true := by unfold d_wet; rw [decide_eq_true hw]
    rw [b820_9, if_pos hw, b820_12]
    have e10 : dC σ (σ 51 21 + 1) (lcg (lcg (σ 51 23))) (updn (σ 22) (d_u σ) (d_h σ)) (σ 24) 12 10 = σ 50 14 := by show σ 12 10 = _; omega
    have e8' : dC σ (σ 51 21 + 1) (lcg (lcg (σ 51 23))) (updn (σ 22) (d_u σ) (d_h σ)) (σ 24) 21 8 = d_s2 σ := rfl
    rw [e10, c_draw (by rw [e8']; unfold d_s2; omega) (by omega), e8', dC_8, Option.bind_some, q_push_some]
    dsimp only
    have e10' : dC σ (σ 51 21 + 1) (lcg (d_s2 σ)) (updn (σ 22) (d_u σ) (d_h σ)) (σ 24) 12 10 = σ 50 14 := by show σ 12 10 = _; omega
    rw [b820_26, c_hasGirlX (by rw [e10']; omega), e10', decide_eq_true rg, Option.bind_some, q_push_some]
    dsimp only
    rw [b820_35, if_neg (by decide), b820_38 (by omega)]
    have e3' : dC σ (σ 51 21 + 1) (lcg (d_s2 σ)) (updn (σ 22) (d_u σ) (d_h σ)) (σ 24) 21 3 = σ 51 21 + 1 := rfl
    rw [e3', dC_24, b820_54, Option.bind_some, q_push_none]
    dsimp only
    rw [b817_62 (by omega)]
    unfold d_sd d_skc
    rw [hwt]
    rfl
  · have hwt : d_wet σ = false := by unfold d_wet; rw [decide_eq_false hw]
    rw [b820_9, if_neg hw, b820_54, Option.bind_some, q_push_none]
    dsimp only
    rw [b817_62 (by omega)]
    unfold d_sd d_skc
    rw [hwt]
    rfl
theorem m_hour {n x : Int} {v : AV} (h : RR σ N) (hg : 0 < σ 50 14) (hx : 0 ≤ x ∧ x ≤ 100) : ∃ w, ev 943 32 [qR 50, qI n, qI x, v] [] σ = ev 943 27 [qR 50, qI n, qI (x + 1), w] [] (dM σ (σ 51 21 + 1) (d_sd σ) (updn (σ 51) (d_u σ) (d_h σ)) (d_skm σ)) ∧ okR P_m w ∨ v = w ∧ ev 943 32 [qR 50, qI n, qI x, v] [] σ = ev 943 27 [qR 50, qI n, qI (x + 1), w] [] (dM σ (σ 51 21 + 1) (d_sd σ) (updn (σ 51) (d_u σ) (d_h σ)) (d_skm σ)) := by
  have ht := h.t
  have hn := h.n
  have l1 := lcg_rng (σ 51 23)
  have l2 := lcg_rng (lcg (σ 51 23))
  have rg := drw_rng (s := d_s2 σ) (n := σ 50 14) hg
  rw [b943_32, m_wander h hg, Option.bind_some, q_push_none]
  dsimp only
  have e3 : dM σ (σ 51 21) (lcg (σ 51 23)) (updn (σ 51) (d_u σ) (d_h σ)) (fun j => σ 51 (12 + j)) 51 21 = σ 51 21 := rfl
  rw [b943_36 (by rw [e3]; omega), e3, dM_21, m_draw (by show 0 ≤ lcg (σ 51 23) ∧ lcg (σ 51 23) ≤ _; omega) (by omega), dM_23, Option.bind_some, q_push_some]
  have e8 : dM σ (σ 51 21 + 1) (lcg (σ 51 23)) (updn (σ 51) (d_u σ) (d_h σ)) (fun j => σ 51 (12 + j)) 51 23 = lcg (σ 51 23) := rfl
  dsimp only
  rw [e8]
  by_cases hw : drw (lcg (σ 51 23)) 6 = 0
  · have hwt : d_wet σ = true := by unfold d_wet; rw [decide_eq_true hw]
    refine ⟨qI (drw (d_s2 σ) (σ 50 14)), Or.inl ⟨?_, trivial⟩⟩
    rw [b943_53, if_pos hw, b943_56]
    have e10 : dM σ (σ 51 21 + 1) (lcg (lcg (σ 51 23))) (updn (σ 51) (d_u σ) (d_h σ)) (fun j => σ 51 (12 + j)) 50 14 = σ 50 14 := rfl
    have e8' : dM σ (σ 51 21 + 1) (lcg (lcg (σ 51 23))) (updn (σ 51) (d_u σ) (d_h σ)) (fun j => σ 51 (12 + j)) 51 23 = d_s2 σ := rfl
    rw [e10, m_draw (by rw [e8']; unfold d_s2; omega) (by omega), e8', dM_23, Option.bind_some, q_push_some]
    dsimp only
    have e3' : dM σ (σ 51 21 + 1) (lcg (d_s2 σ)) (updn (σ 51) (d_u σ) (d_h σ)) (fun j => σ 51 (12 + j)) 51 21 = σ 51 21 + 1 := rfl
    rw [b943_64 (by omega), e3', show (12 + drw (d_s2 σ) (σ 50 14)).toNat = 12 + d_g σ by unfold d_g; omega, dM_sk (by unfold d_g; omega), b943_81 (by omega)]
    unfold d_sd d_skm
    rw [hwt]
    rfl
  · have hwt : d_wet σ = false := by unfold d_wet; rw [decide_eq_false hw]
    refine ⟨v, Or.inr ⟨rfl, ?_⟩⟩
    rw [b943_53, if_neg hw, b943_81 (by omega)]
    unfold d_sd d_skm
    rw [hwt]
    rfl
theorem RR.hour (h : RR σ N) (hg : 0 < σ 50 14) (hN : N + 1 ≤ 100000) : RR (mix (dC σ (σ 51 21 + 1) (d_sd σ) (updn (σ 22) (d_u σ) (d_h σ)) (d_skc σ)) (dM σ (σ 51 21 + 1) (d_sd σ) (updn (σ 51) (d_u σ) (d_h σ)) (d_skm σ))) (N + 1) := by
  have hn := h.n
  have ht := h.t
  obtain ⟨u1, u2, u3, w1, w2, n1, n2, r1, r2, r3⟩ := d_facts h hg
  have l2 := lcg_rng (lcg (σ 51 23))
  have l3 := lcg_rng (d_s2 σ)
  refine (h.up (N' := N + 1) (by omega) hN).dr hN (by omega) (by omega) ?_ (fun g hgg => ?_)
  · unfold d_sd
    split
    · exact l3
    · exact l2
  · have h1 := h.ng hgg
    have hm : 0 ≤ d_h σ ∧ d_h σ < σ 50 13 := memb_in r3 (by omega) ⟨r1, r2⟩
    have q1 : updn (σ 22) (d_u σ) (d_h σ) g = updn (σ 51) (d_u σ) (d_h σ) g ∧ 0 ≤ updn (σ 51) (d_u σ) (d_h σ) g ∧ updn (σ 51) (d_u σ) (d_h σ) g < σ 50 13 := by
      unfold updn
      by_cases hgu : g = d_u σ
      · rw [if_pos hgu, if_pos hgu]
        exact ⟨rfl, hm⟩
      · rw [if_neg hgu, if_neg hgu]
        omega
    refine ⟨q1.1, q1.2.1, q1.2.2, ?_⟩
    unfold d_skc d_skm
    split
    · unfold updn
      by_cases hgu : g = d_g σ
      · rw [if_pos hgu, if_pos hgu]
        left
        omega
      · rw [if_neg hgu, if_neg hgu]
        dsimp only
        omega
    · dsimp only
      omega
theorem op_driftL {n : Int} (hn : n ≤ 99) : ∀ (k : Nat) (x : Int) (σ : SS) (N : Int) (v : AV), RR σ N → N + k ≤ 100000 → 0 < σ 50 14 → 0 ≤ x → x + k = n → okR P_m v → ∃ a σ1 σ2, ev 817 36 [qR 0, qI n, qI x] [] σ = some (some (qI a), σ1) ∧ ev 943 27 [qR 50, qI n, qI x, v] [] σ = some (some (qI a), σ2) ∧ RR (mix σ1 σ2) (N + k)
  | 0, x, σ, N, v, h, hN, hg, h0, hk, hv => by
    have ht := h.t
    have hG := h.ng (g := (σ 50 16).toNat) (by omega)
    refine ⟨σ 51 (σ 50 16).toNat, σ, σ, ?_, ?_, ?_⟩
    · rw [b817_36, if_neg (by omega), b817_68 (by omega)]
      apply rI
      rw [show σ 12 15 = σ 50 16 by omega]
      exact hG.1
    · rw [b943_27, if_neg (by omega), b943_87 (by omega)]
    · rw [mix_self]
      exact h.up (by omega) hN
  | k + 1, x, σ, N, v, h, hN, hg, h0, hk, hv => by
    have hR := h.hour hg (by omega)
    have c := c_hour (n := n) (x := x) h hg (by omega)
    have hm : ∃ w, okR P_m w ∧ ev 943 32 [qR 50, qI n, qI x, v] [] σ = ev 943 27 [qR 50, qI n, qI (x + 1), w] [] (dM σ (σ 51 21 + 1) (d_sd σ) (updn (σ 51) (d_u σ) (d_h σ)) (d_skm σ)) := by
      obtain ⟨w, hw⟩ := m_hour (n := n) (x := x) (v := v) h hg (by omega)
      rcases hw with hw | hw
      · exact ⟨w, hw.2, hw.1⟩
      · exact ⟨w, hw.1 ▸ hv, hw.2⟩
    obtain ⟨w, hw, m⟩ := hm
    obtain ⟨a, τ1, τ2, i1, i2, i3⟩ := op_driftL hn k (x + 1) _ (N + 1) w hR (by omega) (by rw [mix_m (by decide)]; exact hg) (by omega) (by omega) hw
    obtain ⟨σ1, σ2, g1, g2, g3⟩ := sim_glue (by simp [okR, P_c]) (by simp) (by simp [okR, P_m]; exact hw) (by simp) i1 i2
    refine ⟨a, σ1, σ2, ?_, ?_, ?_⟩
    · rw [b817_36, if_pos (by omega), c]
      exact g1
    · rw [b943_27, if_pos (by omega), m]
      exact g2
    · rw [g3]
      rw [show N + ((k + 1 : Nat) : Int) = N + 1 + k by omega]
      exact i3
theorem op_drift {n : Int} (h : RR σ N) (hN : N + 999 ≤ 100000) : Op 817 943 [qR 0, qI n, qU] [qR 50, qI n, qU, qU] σ N := by
  have ht := h.t
  by_cases hc : 1 ≤ n ∧ n ≤ 99
  · have c1 : ¬ n < 1 := by omega
    have c2 : ¬ 99 < n := by omega
    have e15 : σ 12 15 = σ 50 16 := by omega
    by_cases hg : σ 50 14 = 0
    · have e : ¬ (0 ≤ σ 50 16 ∧ σ 50 16 < σ 50 14) := by omega
      refine Op.ro h hN (a := -1000000003) ?_ ?_
      · simp (disch := first | omega | exact b01_or _) only [b817_0, b817_5, b817_14, b817_28, b817_31, c1, c2, e15, c_hasGirl h, e, Option.bind_some, q_push_some, q_push_none, b01_eq0, b01_eq1, decide_eq_false_iff_not, decide_eq_true_eq, ite_not, b01_t, b01_f, one_ne0, zero_eq0, Bool.true_eq_false, Bool.false_eq_true, ite_true, ite_false, and_self, and_true, true_and, not_true_eq_false, not_false_eq_true]
      · simp (disch := first | omega | exact b01_or _) only [b943_0, b943_9, b943_15, b943_22, m_in, hc.1, hc.2, hg, Option.bind_some, q_push_some, q_push_none, b01_eq0, b01_eq1, decide_eq_false_iff_not, decide_eq_true_eq, ite_not, b01_t, b01_f, one_ne0, zero_eq0, Bool.true_eq_false, Bool.false_eq_true, ite_true, ite_false, and_self, and_true, true_and, not_true_eq_false, not_false_eq_true]
    · have e1 : 0 ≤ σ 50 16 := by omega
      have e2 : σ 50 16 < σ 50 14 := by omega
      obtain ⟨a, σ1, σ2, i1, i2, i3⟩ := op_driftL (n := n) hc.2 n.toNat 0 σ N qU h (by omega) (by omega) (by omega) (by omega) trivial
      refine ⟨a, σ1, σ2, ?_, ?_, i3.up (by omega) hN⟩
      · simp (disch := first | omega | exact b01_or _) only [b817_0, b817_5, b817_14, b817_28, b817_34, c1, c2, e15, c_hasGirl h, e1, e2, Option.bind_some, q_push_some, q_push_none, b01_eq0, b01_eq1, decide_eq_false_iff_not, decide_eq_true_eq, ite_not, b01_t, b01_f, one_ne0, zero_eq0, Bool.true_eq_false, Bool.false_eq_true, ite_true, ite_false, and_self, and_true, true_and, not_true_eq_false, not_false_eq_true]
        exact i1
      · simp (disch := first | omega | exact b01_or _) only [b943_0, b943_9, b943_15, b943_25, m_in, hc.1, hc.2, hg, Option.bind_some, q_push_some, q_push_none, b01_eq0, b01_eq1, decide_eq_false_iff_not, decide_eq_true_eq, ite_not, b01_t, b01_f, one_ne0, zero_eq0, Bool.true_eq_false, Bool.false_eq_true, ite_true, ite_false, and_self, and_true, true_and, not_true_eq_false, not_false_eq_true]
        exact i2
  · refine Op.ro h hN (a := -1000000002) ?_ ?_
    · by_cases c1 : n < 1
      · simp (disch := first | omega | exact b01_or _) only [b817_0, b817_11, c1, if_true]
      · have c2 : 99 < n := by omega
        simp (disch := first | omega | exact b01_or _) only [b817_0, b817_5, b817_11, c1, c2, if_true, if_false]
    · simp (disch := first | omega | exact b01_or _) only [b943_0, b943_9, b943_12, m_in, hc, Option.bind_some, q_push_some, q_push_none, b01_eq0, b01_eq1, decide_eq_false_iff_not, decide_eq_true_eq, ite_not, b01_t, b01_f, one_ne0, zero_eq0, Bool.true_eq_false, Bool.false_eq_true, ite_true, ite_false, and_self, and_true, true_and, not_true_eq_false, not_false_eq_true]
end O11
