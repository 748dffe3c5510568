/-! exchange and mount -/
def exS (f p g q : Nat) (bl : Nat → Int32) (j : Nat) : Nat → Int32 := upd (upd bl (24 * f + (p + j)) (bl (24 * g + (q + j)))) (24 * g + (q + j)) (bl (24 * f + (p + j)))
theorem exS_BV {f p g q n : Nat} (hf : f < 4) (hg : g < 4) (hp : p + n ≤ 24) (hq : q + n ≤ 24) (bl : Nat → Int32) (j : Nat) (hj : j < n) (h : BV bl) : BV (exS f p g q bl j) := BV_upd (BV_upd h (h _ (by omega)) _) (h _ (by omega)) _
theorem X0_doSteps_L {f p g q e : Nat} (hf : f < 4) (hg : g < 4) (hp : p + e ≤ 24) (hq : q + e ≤ 24) : ∀ (k j n' : Nat) (σ : SX), j + k = e → k < n' → BV (σ.1 2) → CO (σ.1 1) (σ.1 2) → σ.2 10 = nI f → σ.2 11 = nI p → σ.2 12 = nI g → σ.2 13 = nI q → ∃ σ', fX0_doSteps_L2 n' (nI e) (nI j) σ = some (nI 0, σ') ∧ σ'.1 2 = itU (exS f p g q) k j (σ.1 2) ∧ CO (σ'.1 1) (σ'.1 2) ∧ FrX σ σ' := by
  intro k
  induction k with
  | zero =>
    intro j n' σ hj hn' hV hC i1 i2 i3 i4
    obtain ⟨n', rfl⟩ : ∃ m, n' = m + 1 := ⟨n' - 1, by omega⟩
    refine ⟨σ, ?_, rfl, hC, FrX.rf σ⟩
    rw [fX0_doSteps_L2, if_pos ((nI_leI (by omega) (by omega)).mpr (by omega))]
  | succ k ih =>
    intro j n' σ hj hn' hV hC i1 i2 i3 i4
    obtain ⟨n', rfl⟩ : ∃ m, n' = m + 1 := ⟨n' - 1, by omega⟩
    have hv1 : Vb (σ.1 2 (24 * f + (p + j))) := hV _ (by omega)
    have hv2 : Vb (σ.1 2 (24 * g + (q + j))) := hV _ (by omega)
    obtain ⟨s1, e1, b1, f1, g1, -⟩ := X0_putBlock hV hf (by omega : p + j < 24) hv2
    have hC1 : CO (s1.1 1) (s1.1 2) := CG_0.mp (g1 _ (fun _ => by omega) (CG_0.mpr hC))
    have hV1 : BV (s1.1 2) := by rw [b1]; exact BV_upd hV hv2 _
    obtain ⟨s2, e2, b2, f2, g2, -⟩ := X0_putBlock hV1 hg (by omega : q + j < 24) hv1
    have hC2 : CO (s2.1 1) (s2.1 2) := CG_0.mp (g2 _ (fun _ => by omega) (CG_0.mpr hC1))
    have hV2 : BV (s2.1 2) := by rw [b2]; exact BV_upd hV1 hv1 _
    have fr := f1.tr f2
    obtain ⟨σ', e3, b3, c3, f3⟩ := ih (j + 1) n' s2 (by omega) (by omega) hV2 hC2 (by rw [fr.2.2.2.2]; exact i1) (by rw [fr.2.2.2.2]; exact i2) (by rw [fr.2.2.2.2]; exact i3) (by rw [fr.2.2.2.2]; exact i4)
    refine ⟨σ', ?_, ?_, c3, fr.tr f3⟩
    · rw [fX0_doSteps_L2, if_neg (fun q => absurd ((nI_leI (by omega) (by omega)).mp q) (by omega)), i1, i2, nI_add, X0_blockAt_y hf (by omega), bd_e, i3, i4, nI_add, X0_blockAt_y hg (by omega), bd_e, i1, i2, nI_add, e1, bd_e, f1.2.2.2.2, i3, i4, nI_add, e2, bd_e, nI_add]
      exact e3
    · rw [b3, b2, b1]; rfl
theorem X1_steps_y {f p g q j : Nat} (hf : f < 4) (hg : g < 4) (hp : p + j < 24) (hq : q + j < 24) {τ : SX} (i1 : τ.2 11 = nI f) (i2 : τ.2 12 = nI p) (i3 : τ.2 13 = nI g) (i4 : τ.2 14 = nI q) : ∃ τ', fX1_steps (nI j) τ = some (nI 0, τ') ∧ τ'.1 2 = exS f p g q (τ.1 2) j ∧ τ'.1 0 = τ.1 0 ∧ τ'.1 1 = τ.1 1 ∧ τ'.2 = τ.2 := by
  refine ⟨sa (sa τ 2 (24 * f + p + j) (τ.1 2 (24 * g + q + j))) 2 (24 * g + q + j) (τ.1 2 (24 * f + p + j)), ?_, ?_, rfl, rfl, rfl⟩
  · unfold fX1_steps
    rw [i1, i2, i3, i4]
    simp (disch := omega) only [nI_mul, nI_add, gD_n, nI_cl]
  · rw [sa_1e, sa_1e]
    unfold exS
    rw [Nat.add_assoc, Nat.add_assoc]
theorem X1_exchange_L {f p g q n d : Nat} (hf : f < 4) (hg : g < 4) (hp : p + n ≤ 24) (hq : q + n ≤ 24) (hd : d ≤ n) : ∀ (k j n' : Nat) (τ : SX), j + k = d → k < n' → τ.2 11 = nI f → τ.2 12 = nI p → τ.2 13 = nI g → τ.2 14 = nI q → τ.2 16 = nI d → ∃ τ', fX1_exchange_L145 n' (nI n) (nI j) τ = some (nI d, τ') ∧ τ'.1 2 = itU (exS f p g q) k j (τ.1 2) ∧ τ'.1 0 = τ.1 0 ∧ τ'.1 1 = τ.1 1 ∧ τ'.2 = upd (upd τ.2 3 (if d < n then nI 1 else nI 0)) 10 nN := by
  intro k
  induction k with
  | zero =>
    intro j n' τ hj hn' i1 i2 i3 i4 i5
    obtain ⟨n', rfl⟩ : ∃ m, n' = m + 1 := ⟨n' - 1, by omega⟩
    rw [fX1_exchange_L145, i5, if_pos ((nI_leI (by omega) (by omega)).mpr (by omega))]
    simp (disch := omega) only [nI_leI]
    by_cases h : d < n
    · rw [if_neg (by omega), if_pos h]
      exact ⟨sf (sf τ 3 (nI 1)) 10 nN, by rw [show (sf (sf τ 3 (nI 1)) 10 nN).2 16 = τ.2 16 from rfl, i5], rfl, rfl, rfl, rfl⟩
    · rw [if_pos (by omega), if_neg h]
      exact ⟨sf (sf τ 3 (nI 0)) 10 nN, by rw [show (sf (sf τ 3 (nI 0)) 10 nN).2 16 = τ.2 16 from rfl, i5], rfl, rfl, rfl, rfl⟩
  | succ k ih =>
    intro j n' τ hj hn' i1 i2 i3 i4 i5
    obtain ⟨n', rfl⟩ : ∃ m, n' = m + 1 := ⟨n' - 1, by omega⟩
    obtain ⟨t1, e1, b1, c1, s1, j1⟩ := X1_steps_y (j := j) hf hg (by omega) (by omega) i1 i2 i3 i4
    obtain ⟨τ', e2, b2, c2, s2, j2⟩ := ih (j + 1) n' t1 (by omega) (by omega) (by rw [j1]; exact i1) (by rw [j1]; exact i2) (by rw [j1]; exact i3) (by rw [j1]; exact i4) (by rw [j1]; exact i5)
    refine ⟨τ', ?_, ?_, c2.trans c1, s2.trans s1, by rw [j2, j1]⟩
    · rw [fX1_exchange_L145, i5, if_neg (fun q => absurd ((nI_leI (by omega) (by omega)).mp q) (by omega)), e1, bd_e, nI_add]
      exact e2
    · rw [b2, b1]; rfl
theorem X1_mount_L {f p g q e a : Nat} (hf : f < 4) (hg : g < 4) (hp : p + e ≤ 24) (hq : q + e ≤ 24) (ha : a ≤ e) : ∀ (k j n' : Nat) (τ : SX), j + k = e → k < n' → τ.2 11 = nI f → τ.2 12 = nI p → τ.2 13 = nI g → τ.2 14 = nI q → ∃ τ', fX1_mount_L42 n' (nI a) (nI e) (nI j) τ = some (nI (e - a), τ') ∧ τ'.1 2 = itU (exS f p g q) k j (τ.1 2) ∧ τ'.1 0 = τ.1 0 ∧ τ'.1 1 = τ.1 1 ∧ τ'.2 = upd τ.2 3 (nI 0) := by
  intro k
  induction k with
  | zero =>
    intro j n' τ hj hn' i1 i2 i3 i4
    obtain ⟨n', rfl⟩ : ∃ m, n' = m + 1 := ⟨n' - 1, by omega⟩
    rw [fX1_mount_L42, if_pos ((nI_leI (by omega) (by omega)).mpr (by omega)), nI_sub ha]
    exact ⟨_, rfl, rfl, rfl, rfl, rfl⟩
  | succ k ih =>
    intro j n' τ hj hn' i1 i2 i3 i4
    obtain ⟨n', rfl⟩ : ∃ m, n' = m + 1 := ⟨n' - 1, by omega⟩
    obtain ⟨t1, e1, b1, c1, s1, j1⟩ := X1_steps_y (j := j) hf hg (by omega) (by omega) i1 i2 i3 i4
    obtain ⟨τ', e2, b2, c2, s2, j2⟩ := ih (j + 1) n' t1 (by omega) (by omega) (by rw [j1]; exact i1) (by rw [j1]; exact i2) (by rw [j1]; exact i3) (by rw [j1]; exact i4)
    refine ⟨τ', ?_, ?_, c2.trans c1, s2.trans s1, by rw [j2, j1]⟩
    · rw [fX1_mount_L42, if_neg (fun q => absurd ((nI_leI (by omega) (by omega)).mp q) (by omega)), e1, bd_e, nI_add]
      exact e2
    · rw [b2, b1]; rfl
theorem T_mount {σ τ : SX} (h : IV σ τ) (d : Bool) : ∃ r σ' τ', fX0_mount (bI d) σ = some (r, σ') ∧ fX1_mount (bI d) τ = some (r, τ') ∧ IV σ' τ' := by
  have h0 := h
  obtain ⟨ce, bl, si, i, hx, hm, hV, hS, hfa, hdn⟩ := h
  have e9 : σ.2 9 = i 9 := hx.2.2.2.2 9 (by omega)
  have m9 : τ.2 3 = i 9 := hm.2.2.2.2.1
  rcases hdn with hdn | ⟨hdn, f, p, g, q, n, dd, hf, hg, hp, hq, hdd, l1, l2, l3, l4, l5, l6⟩
  · rw [fX0_mount, fX1_mount, e9, m9, if_pos hdn, if_pos hdn]
    exact ⟨_, _, _, rfl, rfl, h0⟩
  · have key : ∀ a e : Nat, a ≤ e → e ≤ n → ∃ σ' τ', fX0_doSteps (nI a) (nI e) σ = some (nI 0, σ') ∧ fX1_mount_L42 FU (nI a) (nI e) (nI a) τ = some (nI (e - a), τ') ∧ IV (sf σ' 9 (nI 0)) τ' := by
      intro a e hae hen
      obtain ⟨σ', u1, u2, u3, u4⟩ := X0_doSteps_L (e := e) hf hg (by omega) (by omega) (e - a) a FU σ (by omega) (by rw [FU_v]; omega) (by rw [hx.2.1]; exact hV) (by rw [hx.2.1]; exact hx.2.2.2.1) ((hx.2.2.2.2 10 (by omega)).trans l1) ((hx.2.2.2.2 11 (by omega)).trans l2) ((hx.2.2.2.2 12 (by omega)).trans l3) ((hx.2.2.2.2 13 (by omega)).trans l4)
      obtain ⟨τ', v1, v2, v3, v4, v5⟩ := X1_mount_L (e := e) hf hg (by omega) (by omega) hae (e - a) a FU τ (by omega) (by rw [FU_v]; omega) (hm.2.2.2.2.2.1.trans l1) (hm.2.2.2.2.2.2.1.trans l2) (hm.2.2.2.2.2.2.2.1.trans l3) (hm.2.2.2.2.2.2.2.2.1.trans l4)
      refine ⟨σ', τ', u1, v1, ce, itU (exS f p g q) (e - a) a bl, si, upd i 9 (nI 0), ?_, ?_, ?_, hS, hfa, Or.inl (upd_e _ _ _)⟩
      · refine RX.keep ⟨u4.1.trans hx.1, u2.trans (by rw [hx.2.1]), u4.2.1.trans hx.2.2.1, ?_, fun k hk => by rw [u4.2.2.2.2]; exact hx.2.2.2.2 k hk⟩ 9 (nI 0) (by omega)
        rw [u2, hx.2.1] at u3
        exact u3
      · refine ⟨v3.trans hm.1, v2.trans (by rw [hm.2.1]), v4.trans hm.2.2.1, ?_, ?_, ?_, ?_, ?_, ?_, ?_, ?_⟩
        · rw [v5]; exact hm.2.2.2.1
        · rw [v5]; rfl
        · rw [v5]; exact hm.2.2.2.2.2.1
        · rw [v5]; exact hm.2.2.2.2.2.2.1
        · rw [v5]; exact hm.2.2.2.2.2.2.2.1
        · rw [v5]; exact hm.2.2.2.2.2.2.2.2.1
        · rw [v5]; exact hm.2.2.2.2.2.2.2.2.2.1
        · rw [v5]; exact hm.2.2.2.2.2.2.2.2.2.2
      · exact itU_BV2 (e := n) (fun bl j hj h => exS_BV hf hg hp hq bl j hj h) _ _ _ (by omega) hV
    have x14 : σ.2 14 = nI n := (hx.2.2.2.2 14 (by omega)).trans l5
    have x15 : σ.2 15 = nI dd := (hx.2.2.2.2 15 (by omega)).trans l6
    have y14 : τ.2 15 = nI n := hm.2.2.2.2.2.2.2.2.2.1.trans l5
    have y15 : τ.2 16 = nI dd := hm.2.2.2.2.2.2.2.2.2.2.trans l6
    rw [fX0_mount, fX1_mount, e9, m9, hdn, i10, i10, x14, x15, y14, y15]
    cases d with
    | false =>
      rw [bI_f, i00, i00, i00, i00]
      obtain ⟨σ', τ', u1, v1, hI⟩ := key 0 dd (by omega) (by omega)
      rw [u1, bd_e]
      refine ⟨_, _, _, rfl, ?_, hI⟩
      rw [v1, nI_sub (by omega)]
    | true =>
      rw [bI_t, i10, i10, i10, i10]
      obtain ⟨σ', τ', u1, v1, hI⟩ := key dd n (by omega) (by omega)
      rw [u1, bd_e]
      refine ⟨_, _, _, rfl, ?_, hI⟩
      rw [v1, nI_sub (by omega)]
theorem T_exchange {σ τ : SX} (h : IV σ τ) (a b c d e : Int32) : ∃ r σ' τ', fX0_exchange a b c d e σ = some (r, σ') ∧ fX1_exchange a b c d e τ = some (r, τ') ∧ IV σ' τ' := by
  have h0 := h
  obtain ⟨ce, bl, si, i, hx, hm, hV, hS, hfa, hdn⟩ := h
  have e9 : σ.2 9 = i 9 := hx.2.2.2.2 9 (by omega)
  have m9 : τ.2 3 = i 9 := hm.2.2.2.2.1
  unfold fX0_exchange fX1_exchange
  rw [e9, m9]
  rcases nI_or a 4 (by omega) with ⟨f, hf, rfl⟩ | ha
  · rw [X0_isFile_y hf, X1_isFile_y hf, bs_e, bs_e, i10, i10]
    rcases nI_or c 4 (by omega) with ⟨g, hg, rfl⟩ | hc
    · rw [X0_isFile_y hg, X1_isFile_y hg, bs_e, bs_e, i10, i10]
      rcases rng2_or b d e with ⟨p, q, n, h1, h2, h3, rfl, rfl, rfl⟩ | ⟨q1, q2⟩
      · rw [X0_isPlaceRange_y h1 h2, X0_isPlaceRange_y h1 h3, X1_areRanges_y h1 h2 h3, bs_e, bs_e, bs_e, i10, i10, i10]
        by_cases hd : i 9 = nI 0
        · obtain ⟨z, hz, ez⟩ := hS f hf
          obtain ⟨zg, hzg, ezg⟩ := hS g hg
          rw [if_pos hd, if_pos hd, X0_isBelowSize_y hf h2 hz (by rw [hx.2.2.1]; exact ez), bd_e, X0_isBelowSize_y hg h3 hzg (by rw [hx.2.2.1]; exact ezg), gD_n hf (by omega), gD_n hg (by omega), nI_cl (by omega), nI_cl (by omega), hm.2.2.1, ez, ezg]
          simp (disch := omega) only [nI_add, nI_mul, nI_ltI, bd_e]
          by_cases hl : z < (p + n) * 4
          · rw [if_pos hl, i00, if_pos (by omega : z < 4 * (p + n))]
            exact ⟨_, _, _, rfl, rfl, h0⟩
          rw [if_neg hl, i10, if_neg (by omega : ¬ z < 4 * (p + n))]
          by_cases hl2 : zg < (q + n) * 4
          · rw [if_pos hl2, i00, if_pos (by omega : zg < 4 * (q + n))]
            exact ⟨_, _, _, rfl, rfl, h0⟩
          rw [if_neg hl2, i10, if_neg (by omega : ¬ zg < 4 * (q + n)), (meet_b _ _ _ _ _).1]
          rcases (meet_b (nI f) (nI p) (nI g) (nI q) (nI n)).2 with hme | hme
          · rw [hme, bs_e, bs_e, i00, i00]
            have key : ∀ (s8 : SX) (t8 : SX) (dd : Nat) (v : Int32), dd ≤ n → RX s8 ce bl si (upd (upd (upd (upd (upd (upd (upd i 10 (nI f)) 11 (nI p)) 12 (nI g)) 13 (nI q)) 14 (nI n)) 9 v) 15 (nI dd)) → v = (if dd < n then nI 1 else nI 0) → t8.1 0 = ce → t8.1 2 = bl → t8.1 1 = si → t8.2 11 = nI f → t8.2 12 = nI p → t8.2 13 = nI g → t8.2 14 = nI q → t8.2 15 = nI n → t8.2 16 = nI dd → ∃ σ' τ', fX0_doSteps (nI 0) (nI dd) s8 = some (nI 0, σ') ∧ (sf σ' 8 nN).2 15 = nI dd ∧ fX1_exchange_L145 FU (nI n) (nI 0) t8 = some (nI dd, τ') ∧ IV (sf σ' 8 nN) τ' := by
              intro s8 t8 dd v hdd hr hv t0 t2 t1 w1 w2 w3 w4 w5 w6
              obtain ⟨σ', u1, u2, u3, u4⟩ := X0_doSteps_L (f := f) (p := p) (g := g) (q := q) (e := dd) hf hg (by omega) (by omega) dd 0 FU s8 (by omega) (by rw [FU_v]; omega) (by rw [hr.2.1]; exact hV) (by rw [hr.2.1]; exact hr.2.2.2.1) (hr.2.2.2.2 10 (by omega)) (hr.2.2.2.2 11 (by omega)) (hr.2.2.2.2 12 (by omega)) (hr.2.2.2.2 13 (by omega))
              obtain ⟨τ', v1, v2, v3, v4, v5⟩ := X1_exchange_L hf hg h2 h3 hdd dd 0 FU t8 (by omega) (by rw [FU_v]; omega) w1 w2 w3 w4 w6
              have hr2 : RX σ' ce (itU (exS f p g q) dd 0 bl) si (upd (upd (upd (upd (upd (upd (upd i 10 (nI f)) 11 (nI p)) 12 (nI g)) 13 (nI q)) 14 (nI n)) 9 v) 15 (nI dd)) := by
                refine ⟨u4.1.trans hr.1, u2.trans (by rw [hr.2.1]), u4.2.1.trans hr.2.2.1, ?_, fun k hk => by rw [u4.2.2.2.2]; exact hr.2.2.2.2 k hk⟩
                rw [u2, hr.2.1] at u3
                exact u3
              refine ⟨σ', τ', u1, hr2.2.2.2.2 15 (by omega), v1, ce, itU (exS f p g q) dd 0 bl, si, _, hr2.keep 8 nN (by omega), ?_, ?_, hS, Or.inl rfl, ?_⟩
              · refine ⟨v3.trans t0, v2.trans (by rw [t2]), v4.trans t1, ?_, ?_, ?_, ?_, ?_, ?_, ?_, ?_⟩
                · rw [v5]; rfl
                · rw [v5]; exact hv.symm
                · rw [v5]; exact w1
                · rw [v5]; exact w2
                · rw [v5]; exact w3
                · rw [v5]; exact w4
                · rw [v5]; exact w5
                · rw [v5]; exact w6
              · exact itU_BV2 (e := n) (fun bl j hj h => exS_BV hf hg h2 h3 bl j hj h) _ _ _ (by omega) hV
              · by_cases hlt : dd < n
                · rw [if_pos hlt] at hv
                  exact Or.inr ⟨hv, f, p, g, q, n, dd, hf, hg, h2, h3, hlt, rfl, rfl, rfl, rfl, rfl, rfl⟩
                · rw [if_neg hlt] at hv
                  exact Or.inl hv
            have x8 : σ.2 8 = i 8 := hx.2.2.2.2 8 (by omega)
            have y8 : τ.2 10 = i 8 := hm.2.2.2.1
            have hlog := ((((hx.keep 10 (nI f) (by omega)).keep 11 (nI p) (by omega)).keep 12 (nI g) (by omega)).keep 13 (nI q) (by omega)).keep 14 (nI n) (by omega)
            rw [fX0_openLog, bd_e]
            rw [show (sf (sf (sf (sf (sf σ 10 (nI f)) 11 (nI p)) 12 (nI g)) 13 (nI q)) 14 (nI n)).2 8 = i 8 from x8, show (sf (sf (sf (sf (sf τ 11 (nI f)) 12 (nI p)) 13 (nI g)) 14 (nI q)) 15 (nI n)).2 10 = i 8 from y8]
            generalize hs8 : sf (sf (sf (sf (sf σ 10 (nI f)) 11 (nI p)) 12 (nI g)) 13 (nI q)) 14 (nI n) = s8 at hlog ⊢
            have z8 : s8.2 8 = i 8 := by rw [← hs8]; exact x8
            rw [show (sf s8 9 (nI 0)).2 9 = nI 0 from rfl, show (sf s8 9 (nI 1)).2 9 = nI 1 from rfl, i00, i10, show (sf (sf s8 9 (nI 0)) 15 (nI n)).2 15 = nI n from rfl, show (sf (sf s8 9 (nI 1)) 15 ((sf s8 9 (nI 1)).2 8)).2 15 = s8.2 8 from rfl, show (sf s8 9 (nI 1)).2 8 = s8.2 8 from rfl, z8]
            by_cases hN : i 8 = nN
            · rw [if_pos hN, if_pos hN]
              obtain ⟨σ', τ', u1, u2, v1, hI⟩ := key _ (sf (sf (sf (sf (sf (sf τ 11 (nI f)) 12 (nI p)) 13 (nI g)) 14 (nI q)) 15 (nI n)) 16 (nI n)) n (nI 0) (Nat.le_refl n) ((hlog.keep 9 (nI 0) (by omega)).keep 15 (nI n) (by omega)) (by rw [if_neg (by omega)]) hm.1 hm.2.1 hm.2.2.1 rfl rfl rfl rfl rfl rfl
              rw [u1, bd_e]
              exact ⟨_, _, _, rfl, by rw [v1, u2], hI⟩
            · rw [if_neg hN, if_neg hN]
              obtain ⟨k, hk, ek⟩ := hfa.resolve_left hN
              rw [ek]
              simp (disch := omega) only [nI_leI]
              by_cases hkn : n ≤ k
              · rw [if_pos hkn, if_pos hkn]
                obtain ⟨σ', τ', u1, u2, v1, hI⟩ := key _ (sf (sf (sf (sf (sf (sf τ 11 (nI f)) 12 (nI p)) 13 (nI g)) 14 (nI q)) 15 (nI n)) 16 (nI n)) n (nI 0) (Nat.le_refl n) ((hlog.keep 9 (nI 0) (by omega)).keep 15 (nI n) (by omega)) (by rw [if_neg (by omega)]) hm.1 hm.2.1 hm.2.2.1 rfl rfl rfl rfl rfl rfl
                rw [u1, bd_e]
                exact ⟨_, _, _, rfl, by rw [v1, u2], hI⟩
              · rw [if_neg hkn, if_neg hkn]
                obtain ⟨σ', τ', u1, u2, v1, hI⟩ := key _ (sf (sf (sf (sf (sf (sf τ 11 (nI f)) 12 (nI p)) 13 (nI g)) 14 (nI q)) 15 (nI n)) 16 (nI k)) k (nI 1) (by omega) ((hlog.keep 9 (nI 1) (by omega)).keep 15 (nI k) (by omega)) (by rw [if_pos (by omega)]) hm.1 hm.2.1 hm.2.2.1 rfl rfl rfl rfl rfl rfl
                rw [u1, bd_e]
                exact ⟨_, _, _, rfl, by rw [v1, u2], hI⟩
          · rw [hme, bs_e, bs_e, i10, i10]
            exact ⟨_, _, _, rfl, rfl, h0⟩
        · rw [if_neg hd, if_neg hd]
          exact ⟨_, _, _, rfl, rfl, h0⟩
      · rw [q2, bs_e, i00]
        rcases q1 with q1 | ⟨q1, q3⟩
        · rw [q1, bs_e, i00]
          exact ⟨_, _, _, rfl, rfl, h0⟩
        · rw [q1, bs_e, i10, q3, bs_e, i00]
          exact ⟨_, _, _, rfl, rfl, h0⟩
    · rw [X0_isFile_n hc, X1_isFile_n hc]
      exact ⟨_, _, _, rfl, rfl, h0⟩
  · rw [X0_isFile_n ha, X1_isFile_n ha]
    exact ⟨_, _, _, rfl, rfl, h0⟩
