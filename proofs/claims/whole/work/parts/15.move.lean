/-! ranges of places and of cells -/
theorem rng_or (b c : Int32) : (∃ p n : Nat, 1 ≤ n ∧ p + n ≤ 24 ∧ b = nI p ∧ c = nI n) ∨ (fX0_isPlaceRange b c = some (nI 0) ∧ (fX1_isPlace b = some (nI 0) ∨ (fX1_isPlace b = some (nI 1) ∧ fX1_within c (nI 1) (nI 24 - b) = some (nI 0)))) := by
  rcases nI_or b 24 (by omega) with ⟨p, hp, rfl⟩ | hb
  · unfold fX0_isPlaceRange
    rw [X0_isPlace_y hp, bs_e, i10, X1_isPlace_y hp, nI_sub (by omega : p ≤ 24)]
    rcases nI_or c (24 - p + 1) (by omega) with ⟨n, hn, rfl⟩ | hc
    · by_cases h0 : n = 0
      · subst h0
        refine Or.inr ⟨?_, Or.inr ⟨rfl, X1_within_n (by omega) (by omega) (by omega) (by omega)⟩⟩
        rw [if_pos ((nI_ltI (by omega) (by omega)).mpr (by omega))]
      · exact Or.inl ⟨p, n, by omega, by omega, rfl, rfl⟩
    · refine Or.inr ⟨?_, Or.inr ⟨rfl, X1_within_o rfl hc (by omega) (by omega)⟩⟩
      by_cases h1 : c < nI 1
      · rw [if_pos h1]
      · rcases hc with hc | hc
        · exact absurd (Int32.lt_of_lt_of_le hc (by decide)) h1
        · rw [if_neg h1, if_pos (lt_of_le1 (by omega) hc)]
  · refine Or.inr ⟨?_, Or.inl (X1_isPlace_n hb)⟩
    rw [fX0_isPlaceRange, X0_isPlace_n hb]; rfl
theorem X0_isPlaceRange_y {p n : Nat} (h : 1 ≤ n) (h2 : p + n ≤ 24) : fX0_isPlaceRange (nI p) (nI n) = some (nI 1) := by
  unfold fX0_isPlaceRange
  rw [X0_isPlace_y (by omega), bs_e, i10, nI_sub (by omega : p ≤ 24), if_neg (fun q => absurd ((nI_ltI (by omega) (by omega)).mp q) (by omega)), if_neg (fun q => absurd ((nI_ltI (by omega) (by omega)).mp q) (by omega))]
theorem X1_areRanges_y {p q n : Nat} (h : 1 ≤ n) (h2 : p + n ≤ 24) (h3 : q + n ≤ 24) : fX1_areRanges (nI p) (nI q) (nI n) = some (nI 1) := by
  unfold fX1_areRanges
  rw [X1_isPlace_y (by omega), bs_e, i10, X1_isPlace_y (by omega), bs_e, i10, nI_sub (by omega : p ≤ 24), nI_sub (by omega : q ≤ 24), X1_within_y (by omega) (by omega) (by omega), X1_within_y (by omega) (by omega) (by omega)]
  simp only [bs_e, i10]
  by_cases h4 : nI p ≤ nI q
  · rw [if_pos h4]
  · rw [if_neg h4]
theorem rng2_or (b d c : Int32) : (∃ p q n : Nat, 1 ≤ n ∧ p + n ≤ 24 ∧ q + n ≤ 24 ∧ b = nI p ∧ d = nI q ∧ c = nI n) ∨ ((fX0_isPlaceRange b c = some (nI 0) ∨ (fX0_isPlaceRange b c = some (nI 1) ∧ fX0_isPlaceRange d c = some (nI 0))) ∧ fX1_areRanges b d c = some (nI 0)) := by
  rcases nI_or b 24 (by omega) with ⟨p, hp, rfl⟩ | hb
  · rcases nI_or d 24 (by omega) with ⟨q, hq, rfl⟩ | hd
    · have hle : nI p ≤ nI q ↔ p ≤ q := nI_leI (by omega) (by omega)
      have key : ∀ m : Nat, m ≤ 24 → (fX1_within c (nI 1) (nI 24 - nI m) = some (nI 0)) ∨ (∃ n, 1 ≤ n ∧ m + n ≤ 24 ∧ c = nI n) := by
        intro m hm
        rw [nI_sub hm]
        rcases nI_or c (24 - m + 1) (by omega) with ⟨n, hn, rfl⟩ | hc
        · by_cases h0 : n = 0
          · subst h0; exact Or.inl (X1_within_n (by omega) (by omega) (by omega) (by omega))
          · exact Or.inr ⟨n, by omega, by omega, rfl⟩
        · exact Or.inl (X1_within_o rfl hc (by omega) (by omega))
      have e : fX1_areRanges (nI p) (nI q) c = (if nI p ≤ nI q then (bs (fX1_within c (nI 1) (nI 24 - nI q)) fun r3 => (if r3 = nI 0 then some (nI 0) else some (nI 1))) else bs (fX1_within c (nI 1) (nI 24 - nI p)) fun r4 => (if r4 = nI 0 then some (nI 0) else some (nI 1))) := by
        unfold fX1_areRanges
        rw [X1_isPlace_y hp, bs_e, i10, X1_isPlace_y hq, bs_e, i10]
      rcases rng_or (nI p) c with ⟨p', n, h1, h2, e1, rfl⟩ | ⟨hx, hm⟩
      · obtain rfl := nI_inj (by omega) (by omega) e1
        rcases rng_or (nI q) (nI n) with ⟨q', n', g1, g2, e2, e3⟩ | ⟨hx, hm⟩
        · obtain rfl := nI_inj (by omega) (by omega) e2
          obtain rfl := nI_inj (by omega) (by omega) e3
          exact Or.inl ⟨p, q, n, h1, h2, g2, rfl, rfl, rfl⟩
        · refine Or.inr ⟨Or.inr ⟨X0_isPlaceRange_y h1 h2, hx⟩, ?_⟩
          rw [X1_isPlace_y hq] at hm
          have hw := (hm.resolve_left (fun z => absurd z (by decide))).2
          rw [nI_sub (by omega : q ≤ 24)] at hw
          have hqn : 24 - q < n := by
            apply Nat.lt_of_not_le
            intro hh
            rw [X1_within_y (by omega) hh (by omega)] at hw
            exact absurd hw (by decide)
          rw [e, if_pos (hle.mpr (by omega)), nI_sub (by omega : q ≤ 24), X1_within_n (by omega) (by omega) (by omega) (by omega)]; rfl
      · refine Or.inr ⟨Or.inl hx, ?_⟩
        rw [X1_isPlace_y hp] at hm
        have hw := (hm.resolve_left (fun z => absurd z (by decide))).2
        rw [e]
        by_cases hpq : p ≤ q
        · rw [if_pos (hle.mpr hpq)]
          rcases key q (by omega) with g | ⟨n, n1, n2, rfl⟩
          · rw [g]; rfl
          · rw [nI_sub (by omega : p ≤ 24), X1_within_y (by omega) (by omega) (by omega)] at hw
            exact absurd hw (by decide)
        · rw [if_neg (fun z => hpq (hle.mp z)), hw]; rfl
    · rcases rng_or (nI p) c with ⟨p', n, h1, h2, e1, rfl⟩ | ⟨hx, hm⟩
      · obtain rfl := nI_inj (by omega) (by omega) e1
        refine Or.inr ⟨Or.inr ⟨X0_isPlaceRange_y h1 h2, ?_⟩, ?_⟩
        · rw [fX0_isPlaceRange, X0_isPlace_n hd]; rfl
        · rw [fX1_areRanges, X1_isPlace_y hp, bs_e, i10, X1_isPlace_n hd]; rfl
      · refine Or.inr ⟨Or.inl hx, ?_⟩
        rw [fX1_areRanges, X1_isPlace_y hp, bs_e, i10, X1_isPlace_n hd]; rfl
  · refine Or.inr ⟨Or.inl ?_, ?_⟩
    · rw [fX0_isPlaceRange, X0_isPlace_n hb]; rfl
    · rw [fX1_areRanges, X1_isPlace_n hb]; rfl
/-! failure -/
theorem RX.keep {σ : SX} {ce bl si i : Nat → Int32} (h : RX σ ce bl si i) (k : Nat) (v : Int32) (hk : 8 ≤ k) : RX (sf σ k v) ce bl si (upd i k v) := by
  refine ⟨h.1, h.2.1, h.2.2.1, h.2.2.2.1, fun j hj => ?_⟩
  by_cases e : j = k
  · subst e; rw [sf_2e, upd_e]
  · rw [sf_2n _ _ _ e, upd_n _ _ _ e]; exact h.2.2.2.2 j hj
theorem T_failure {σ τ : SX} (h : IV σ τ) (a : Int32) : ∃ r σ' τ', fX0_failure a σ = some (r, σ') ∧ fX1_failure a τ = some (r, τ') ∧ IV σ' τ' := by
  have h0 := h
  obtain ⟨ce, bl, si, i, hx, hm, hV, hS, hfa, hdn⟩ := h
  have e8 : σ.2 8 = i 8 := hx.2.2.2.2 8 (by omega)
  have e9 : σ.2 9 = i 9 := hx.2.2.2.2 9 (by omega)
  have m8 : τ.2 10 = i 8 := hm.2.2.2.1
  have m9 : τ.2 3 = i 9 := hm.2.2.2.2.1
  have good : ∀ v : Int32, (v = nN ∨ ∃ k, k < 24 ∧ v = nI k) → IV (sf σ 8 v) (sf τ 10 v) := by
    intro v hv
    refine ⟨ce, bl, si, upd i 8 v, hx.keep 8 v (by omega), ⟨hm.1, hm.2.1, hm.2.2.1, ?_, ?_, ?_, ?_, ?_, ?_, ?_, ?_⟩, hV, hS, ?_, ?_⟩
    · rw [sf_2e, upd_e]
    · exact hm.2.2.2.2.1
    · exact hm.2.2.2.2.2.1
    · exact hm.2.2.2.2.2.2.1
    · exact hm.2.2.2.2.2.2.2.1
    · exact hm.2.2.2.2.2.2.2.2.1
    · exact hm.2.2.2.2.2.2.2.2.2.1
    · exact hm.2.2.2.2.2.2.2.2.2.2
    · rw [upd_e]; exact hv
    · exact hdn
  unfold fX0_failure fX1_failure
  rw [e8, e9, m8, m9]
  by_cases ha : a = nN
  · rw [if_pos ha, if_pos ha]
    by_cases hd : i 9 = nI 0
    · rw [if_pos hd, if_pos hd]
      exact ⟨_, _, _, rfl, rfl, good a (Or.inl ha)⟩
    · rw [if_neg hd, if_neg hd]
      exact ⟨_, _, _, rfl, rfl, h0⟩
  · rw [if_neg ha, if_neg ha]
    rcases nI_or a 24 (by omega) with ⟨p, hp, rfl⟩ | hb
    · rw [X0_isPlace_y hp, X1_isPlace_y hp, bs_e, bs_e, i10, i10]
      by_cases hd : i 9 = nI 0
      · rw [if_pos hd, if_pos hd]
        exact ⟨_, _, _, rfl, rfl, good _ (Or.inr ⟨p, hp, rfl⟩)⟩
      · rw [if_neg hd, if_neg hd]
        exact ⟨_, _, _, rfl, rfl, h0⟩
    · rw [X0_isPlace_n hb, X1_isPlace_n hb, bs_e, bs_e, i00, i00]
      exact ⟨_, _, _, rfl, rfl, h0⟩
/-! collapse -/
def colS (f n : Nat) (bl : Nat → Int32) (j : Nat) : Nat → Int32 := upd bl (24 * f + j) (if j + n < 24 then bl (24 * f + (j + n)) else nN)
theorem X0_collapse_L {f n z : Nat} (hf : f < 4) (hn : n ≤ 24) (hz : z ≤ 96) (hnz : n * 4 ≤ z) : ∀ (k j n' : Nat) (σ : SX), j + k = 24 → k < n' → BV (σ.1 2) → CO (σ.1 1) (σ.1 2) → σ.1 3 f = nI z → ∃ σ', fX0_collapse_L46 n' (nI f) (nI n) (nI j) σ = some (nI (z - n * 4), σ') ∧ RX σ' (σ.1 0) (itU (colS f n) k j (σ.1 2)) (upd (σ.1 3) f (nI (z - n * 4))) σ.2 := by
  intro k
  induction k with
  | zero =>
    intro j n' σ hj hn' hV hC hs
    obtain ⟨n', rfl⟩ : ∃ m, n' = m + 1 := ⟨n' - 1, by omega⟩
    obtain rfl : j = 24 := by omega
    refine ⟨sa σ 3 f (nI (z - n * 4)), ?_, rfl, rfl, rfl, hC, fun _ _ => rfl⟩
    rw [fX0_collapse_L46, if_pos ((nI_leI (by omega) (by omega)).mpr (by omega)), X0_sizeOf_y hf, bd_e, hs, nI_mul, nI_sub hnz, X0_setSize_y hf, bd_e, X0_sizeOf_y hf, bd_e, sa_1e, upd_e]
  | succ k ih =>
    intro j n' σ hj hn' hV hC hs
    obtain ⟨n', rfl⟩ : ∃ m, n' = m + 1 := ⟨n' - 1, by omega⟩
    have hb : fX0_blockAt (nI f) (nI (j + n)) σ = some ((if j + n < 24 then σ.1 2 (24 * f + (j + n)) else nN), σ) := by
      by_cases h : j + n < 24
      · rw [if_pos h, X0_blockAt_y hf h]
      · rw [if_neg h, X0_blockAt_o hf (by omega) (by omega)]
    have hv : Vb (if j + n < 24 then σ.1 2 (24 * f + (j + n)) else nN) := by
      by_cases h : j + n < 24
      · rw [if_pos h]; exact hV _ (by omega)
      · rw [if_neg h]; exact Or.inl rfl
    obtain ⟨s1, e1, b1, f1, g1, -⟩ := X0_putBlock hV hf (by omega : j < 24) hv
    have hC1 : CO (s1.1 1) (s1.1 2) := CG_0.mp (g1 _ (fun _ => by omega) (CG_0.mpr hC))
    obtain ⟨σ', e2, r2⟩ := ih (j + 1) n' s1 (by omega) (by omega) (by rw [b1]; exact BV_upd hV hv _) hC1 (by rw [f1.2.1]; exact hs)
    refine ⟨σ', ?_, ?_⟩
    · rw [fX0_collapse_L46, if_neg (fun q => absurd ((nI_leI (by omega) (by omega)).mp q) (by omega)), nI_add, hb, bd_e, e1, bd_e, nI_add]
      exact e2
    · rw [f1.1, f1.2.1, f1.2.2.2.2, b1] at r2
      exact r2
theorem X1_collapse_L {f n z : Nat} (hf : f < 4) (hn : n ≤ 24) (hz : z ≤ 96) (hnz : n * 4 ≤ z) : ∀ (k j n' : Nat) (τ : SX), j + k = 24 → k < n' → τ.1 1 f = nI z → ∃ τ', fX1_collapse_L58 n' (nI f) (nI n) (nI j) τ = some (nI (z - n * 4), τ') ∧ τ'.1 0 = τ.1 0 ∧ τ'.1 2 = itU (colS f n) k j (τ.1 2) ∧ τ'.1 1 = upd (τ.1 1) f (nI (z - n * 4)) ∧ τ'.2 = τ.2 := by
  intro k
  induction k with
  | zero =>
    intro j n' τ hj hn' hs
    obtain ⟨n', rfl⟩ : ∃ m, n' = m + 1 := ⟨n' - 1, by omega⟩
    obtain rfl : j = 24 := by omega
    refine ⟨sa τ 1 f (nI (z - n * 4)), ?_, rfl, rfl, rfl, rfl⟩
    rw [fX1_collapse_L58, if_pos ((nI_leI (by omega) (by omega)).mpr (by omega)), gD_n hf (by omega), gD_n hf (by omega), gD_n hf (by omega), nI_cl (by omega), hs, nI_mul, Nat.mul_comm 4 n, nI_sub hnz, sa_1e, upd_e]
  | succ k ih =>
    intro j n' τ hj hn' hs
    obtain ⟨n', rfl⟩ : ∃ m, n' = m + 1 := ⟨n' - 1, by omega⟩
    rw [fX1_collapse_L58, if_neg (fun q => absurd ((nI_leI (by omega) (by omega)).mp q) (by omega))]
    simp (disch := omega) only [nI_mul, nI_add, nI_leI, gD_n, nI_cl]
    by_cases h : 24 ≤ j + n
    · rw [if_pos h]
      obtain ⟨τ', e2, c2, b2, s2, i2⟩ := ih (j + 1) n' (sa τ 2 (24 * f + j) nN) (by omega) (by omega) hs
      refine ⟨τ', e2, c2, ?_, s2, i2⟩
      rw [b2, sa_1e]
      show _ = itU (colS f n) k (j + 1) (colS f n (τ.1 2) j)
      unfold colS
      rw [if_neg (by omega)]
    · rw [if_neg h]
      obtain ⟨τ', e2, c2, b2, s2, i2⟩ := ih (j + 1) n' (sa τ 2 (24 * f + j) (τ.1 2 (24 * f + j + n))) (by omega) (by omega) hs
      refine ⟨τ', e2, c2, ?_, s2, i2⟩
      rw [b2, sa_1e]
      show _ = itU (colS f n) k (j + 1) (colS f n (τ.1 2) j)
      unfold colS
      rw [if_pos (by omega), Nat.add_assoc]
theorem RM.of {τ τ' : SX} {ce bl si i ce' bl' si' : Nat → Int32} (h : RM τ ce bl si i) (h0 : τ'.1 0 = ce') (h2 : τ'.1 2 = bl') (h1 : τ'.1 1 = si') (hi : ∀ k, k = 3 ∨ 10 ≤ k → τ'.2 k = τ.2 k) : RM τ' ce' bl' si' i :=
  ⟨h0, h2, h1, (hi 10 (by omega)).trans h.2.2.2.1, (hi 3 (by omega)).trans h.2.2.2.2.1, (hi 11 (by omega)).trans h.2.2.2.2.2.1, (hi 12 (by omega)).trans h.2.2.2.2.2.2.1, (hi 13 (by omega)).trans h.2.2.2.2.2.2.2.1, (hi 14 (by omega)).trans h.2.2.2.2.2.2.2.2.1, (hi 15 (by omega)).trans h.2.2.2.2.2.2.2.2.2.1, (hi 16 (by omega)).trans h.2.2.2.2.2.2.2.2.2.2⟩
theorem RX.of {σ σ' : SX} {ce bl si i ce' bl' si' : Nat → Int32} (h : RX σ ce bl si i) (h' : RX σ' ce' bl' si' σ.2) : RX σ' ce' bl' si' i :=
  ⟨h'.1, h'.2.1, h'.2.2.1, h'.2.2.2.1, fun k hk => (h'.2.2.2.2 k hk).trans (h.2.2.2.2 k hk)⟩
theorem SV_upd {si : Nat → Int32} (h : SV si) {z : Nat} (hz : z ≤ 96) (f : Nat) : SV (upd si f (nI z)) := by
  intro g hg
  by_cases e : g = f
  · subst e; exact ⟨z, hz, upd_e _ _ _⟩
  · rw [upd_n _ _ _ e]; exact h g hg
theorem colS_BV {f n : Nat} (hf : f < 4) (bl : Nat → Int32) (j : Nat) (h : BV bl) : BV (colS f n bl j) := by
  unfold colS
  by_cases h1 : j + n < 24
  · rw [if_pos h1]; exact BV_upd h (h _ (by omega)) _
  · rw [if_neg h1]; exact BV_upd h (Or.inl rfl) _
theorem T_collapse {σ τ : SX} (h : IV σ τ) (a b c : Int32) : ∃ r σ' τ', fX0_collapse a b c σ = some (r, σ') ∧ fX1_collapse a b c τ = some (r, τ') ∧ IV σ' τ' := by
  have h0 := h
  obtain ⟨ce, bl, si, i, hx, hm, hV, hS, hfa, hdn⟩ := h
  have e9 : σ.2 9 = i 9 := hx.2.2.2.2 9 (by omega)
  have m9 : τ.2 3 = i 9 := hm.2.2.2.2.1
  unfold fX0_collapse fX1_collapse
  rw [e9, m9]
  rcases nI_or a 4 (by omega) with ⟨f, hf, rfl⟩ | ha
  · rw [X0_isFile_y hf, X1_isFile_y hf, bs_e, bs_e, i10, i10]
    rcases rng_or b c with ⟨p, n, h1, h2, rfl, rfl⟩ | ⟨q1, q2⟩
    · rw [X0_isPlaceRange_y h1 h2, X1_isPlace_y (by omega), bs_e, bs_e, i10, i10, nI_sub (by omega : p ≤ 24), X1_within_y (by omega) (by omega) (by omega), bs_e, i10]
      by_cases hd : i 9 = nI 0
      · obtain ⟨z, hz, ez⟩ := hS f hf
        rw [if_pos hd, if_pos hd, X0_sizeOf_y hf, bd_e, hx.2.2.1, ez, gD_n hf (by omega), nI_cl (by omega), hm.2.2.1, ez]
        simp (disch := omega) only [nI_add, nI_mul, nI_ltI]
        by_cases hl : (p + n) * 4 < z
        · rw [if_pos hl, if_pos (by omega)]
          obtain ⟨σ', u1, u2⟩ := X0_collapse_L hf (by omega : n ≤ 24) hz (by omega) (24 - p) p FU σ (by omega) (by rw [FU_v]; omega) (by rw [hx.2.1]; exact hV) (by rw [hx.2.1]; exact hx.2.2.2.1) (by rw [hx.2.2.1]; exact ez)
          obtain ⟨τ', v1, v2, v3, v4, v5⟩ := X1_collapse_L hf (by omega : n ≤ 24) hz (by omega) (24 - p) p FU τ (by omega) (by rw [FU_v]; omega) (by rw [hm.2.2.1]; exact ez)
          refine ⟨_, σ', τ', u1, v1, ce, itU (colS f n) (24 - p) p bl, upd si f (nI (z - n * 4)), i, ?_, ?_, ?_, ?_, hfa, hdn⟩
          · rw [hx.1, hx.2.1, hx.2.2.1] at u2
            exact hx.of u2
          · exact hm.of (v2.trans hm.1) (v3.trans (by rw [hm.2.1])) (v4.trans (by rw [hm.2.2.1])) (fun k _ => by rw [v5])
          · exact itU_BV (fun bl j h => colS_BV hf bl j h) _ _ _ hV
          · exact SV_upd hS (by omega) f
        · rw [if_neg hl, if_neg (by omega)]
          exact ⟨_, _, _, rfl, rfl, h0⟩
      · rw [if_neg hd, if_neg hd]
        exact ⟨_, _, _, rfl, rfl, h0⟩
    · rw [q1, bs_e, i00]
      rcases q2 with q2 | ⟨q2, q3⟩
      · rw [q2, bs_e, i00]
        exact ⟨_, _, _, rfl, rfl, h0⟩
      · rw [q2, bs_e, i10, q3, bs_e, i00]
        exact ⟨_, _, _, rfl, rfl, h0⟩
  · rw [X0_isFile_n ha, X1_isFile_n ha]
    exact ⟨_, _, _, rfl, rfl, h0⟩
