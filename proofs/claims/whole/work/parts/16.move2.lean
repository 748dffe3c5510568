/-! insert -/
theorem nI_subI {a n : Nat} (ha : a < 2 ^ 30) (hn : n < 2 ^ 30) : (nI a - nI n).toInt = (a : Int) - (n : Int) := by
  rw [Int32.toInt_sub, nI_toInt (by omega), nI_toInt (by omega)]
  apply Int.bmod_eq_of_le <;> omega
theorem lt_sub {a n p : Nat} (ha : a < 2 ^ 30) (hn : n < 2 ^ 30) (hp : p < 2 ^ 30) : (nI a - nI n < nI p) ↔ a < p + n := by
  rw [Int32.lt_iff_toInt_lt, nI_subI ha hn, nI_toInt (by omega)]
  omega
def itD (st : (Nat → Int32) → Nat → (Nat → Int32)) (p : Nat) : Nat → (Nat → Int32) → (Nat → Int32)
  | 0, bl => bl
  | k + 1, bl => itD st p k (st bl (p + k))
theorem itD_BV {st : (Nat → Int32) → Nat → (Nat → Int32)} {p : Nat} (hs : ∀ bl j, j < 24 → BV bl → BV (st bl j)) : ∀ k bl, p + k ≤ 24 → BV bl → BV (itD st p k bl)
  | 0, _, _, h => h
  | k + 1, bl, hk, h => itD_BV hs k (st bl (p + k)) (by omega) (hs bl (p + k) (by omega) h)
def insS (f p n : Nat) (bl : Nat → Int32) (j : Nat) : Nat → Int32 := upd bl (24 * f + j) (if p + n ≤ j then bl (24 * f + (j - n)) else nN)
theorem insS_BV {f p n : Nat} (hf : f < 4) (bl : Nat → Int32) (j : Nat) (hj : j < 24) (h : BV bl) : BV (insS f p n bl j) := by
  unfold insS
  by_cases h1 : p + n ≤ j
  · rw [if_pos h1]; exact BV_upd h (h _ (by omega)) _
  · rw [if_neg h1]; exact BV_upd h (Or.inl rfl) _
theorem X0_insert_L {f p n z : Nat} (hf : f < 4) (hn : n ≤ 24) (hz : z + n * 4 ≤ 96) : ∀ (k n' : Nat) (σ : SX), p + k ≤ 24 → k < n' → BV (σ.1 2) → CO (σ.1 1) (σ.1 2) → σ.1 3 f = nI z → ∃ σ', fX0_insert_L72 n' (nI f) (nI p) (nI n) (nI (p + k) - nI 1) σ = some (nI (z + n * 4), σ') ∧ RX σ' (σ.1 0) (itD (insS f p n) p k (σ.1 2)) (upd (σ.1 3) f (nI (z + n * 4))) σ.2 := by
  intro k
  induction k with
  | zero =>
    intro n' σ hj hn' hV hC hs
    obtain ⟨n', rfl⟩ : ∃ m, n' = m + 1 := ⟨n' - 1, by omega⟩
    refine ⟨sa σ 3 f (nI (z + n * 4)), ?_, rfl, rfl, rfl, hC, fun _ _ => rfl⟩
    rw [fX0_insert_L72, if_pos ((lt_sub (by omega) (by omega) (by omega)).mpr (by omega)), X0_sizeOf_y hf, bd_e, hs, nI_mul, nI_add, X0_setSize_y hf, bd_e, X0_sizeOf_y hf, bd_e, sa_1e, upd_e]
  | succ k ih =>
    intro n' σ hj hn' hV hC hs
    obtain ⟨n', rfl⟩ : ∃ m, n' = m + 1 := ⟨n' - 1, by omega⟩
    have ex : nI (p + (k + 1)) - nI 1 = nI (p + k) := nI_sub (by omega)
    have hv : Vb (if p + n ≤ p + k then σ.1 2 (24 * f + (p + k - n)) else nN) := by
      by_cases h : p + n ≤ p + k
      · rw [if_pos h]; exact hV _ (by omega)
      · rw [if_neg h]; exact Or.inl rfl
    obtain ⟨s1, e1, b1, f1, g1, -⟩ := X0_putBlock hV hf (by omega : p + k < 24) hv
    have hC1 : CO (s1.1 1) (s1.1 2) := CG_0.mp (g1 _ (fun _ => by omega) (CG_0.mpr hC))
    obtain ⟨σ', e2, r2⟩ := ih n' s1 (by omega) (by omega) (by rw [b1]; exact BV_upd hV hv _) hC1 (by rw [f1.2.1]; exact hs)
    refine ⟨σ', ?_, ?_⟩
    · rw [ex, fX0_insert_L72, if_neg (fun q => absurd ((nI_ltI (by omega) (by omega)).mp q) (by omega))]
      by_cases h : p + n ≤ p + k
      · rw [if_neg (fun q => absurd ((lt_sub (by omega) (by omega) (by omega)).mp q) (by omega)), nI_sub (by omega : n ≤ p + k), X0_blockAt_y hf (by omega), bd_e]
        rw [if_pos h] at e1
        rw [e1, bd_e]
        exact e2
      · rw [if_pos ((lt_sub (by omega) (by omega) (by omega)).mpr (by omega))]
        rw [if_neg h] at e1
        rw [e1, bd_e]
        exact e2
    · rw [f1.1, f1.2.1, f1.2.2.2.2, b1] at r2
      exact r2
theorem X1_insert_L {f p n z : Nat} (hf : f < 4) (hn : n ≤ 24) (hz : z + n * 4 ≤ 96) : ∀ (k n' : Nat) (τ : SX), p + k ≤ 24 → k < n' → τ.1 1 f = nI z → ∃ τ', fX1_insert_L73 n' (nI f) (nI p) (nI n) (nI (p + k) - nI 1) τ = some (nI (z + n * 4), τ') ∧ τ'.1 0 = τ.1 0 ∧ τ'.1 2 = itD (insS f p n) p k (τ.1 2) ∧ τ'.1 1 = upd (τ.1 1) f (nI (z + n * 4)) ∧ τ'.2 = τ.2 := by
  intro k
  induction k with
  | zero =>
    intro n' τ hj hn' hs
    obtain ⟨n', rfl⟩ : ∃ m, n' = m + 1 := ⟨n' - 1, by omega⟩
    refine ⟨sa τ 1 f (nI (z + n * 4)), ?_, rfl, rfl, rfl, rfl⟩
    rw [fX1_insert_L73, if_pos ((lt_sub (by omega) (by omega) (by omega)).mpr (by omega)), gD_n hf (by omega), gD_n hf (by omega), gD_n hf (by omega), nI_cl (by omega), hs, nI_mul, Nat.mul_comm 4 n, nI_add, sa_1e, upd_e]
  | succ k ih =>
    intro n' τ hj hn' hs
    obtain ⟨n', rfl⟩ : ∃ m, n' = m + 1 := ⟨n' - 1, by omega⟩
    have ex : nI (p + (k + 1)) - nI 1 = nI (p + k) := nI_sub (by omega)
    rw [ex, fX1_insert_L73, if_neg (fun q => absurd ((nI_ltI (by omega) (by omega)).mp q) (by omega))]
    by_cases h : p + n ≤ p + k
    · rw [if_neg (fun q => absurd ((lt_sub (by omega) (by omega) (by omega)).mp q) (by omega))]
      simp (disch := omega) only [nI_mul, nI_add, nI_sub (show n ≤ 24 * f + (p + k) by omega), gD_n, nI_cl]
      obtain ⟨τ', e2, c2, b2, s2, i2⟩ := ih n' (sa τ 2 (24 * f + (p + k)) (τ.1 2 (24 * f + (p + k) - n))) (by omega) (by omega) hs
      refine ⟨τ', e2, c2, ?_, s2, i2⟩
      rw [b2, sa_1e]
      show _ = itD (insS f p n) p k (insS f p n (τ.1 2) (p + k))
      unfold insS
      rw [if_pos h, show 24 * f + (p + k) - n = 24 * f + (p + k - n) by omega]
    · rw [if_pos ((lt_sub (by omega) (by omega) (by omega)).mpr (by omega))]
      simp (disch := omega) only [nI_mul, nI_add, gD_n, nI_cl]
      obtain ⟨τ', e2, c2, b2, s2, i2⟩ := ih n' (sa τ 2 (24 * f + (p + k)) nN) (by omega) (by omega) hs
      refine ⟨τ', e2, c2, ?_, s2, i2⟩
      rw [b2, sa_1e]
      show _ = itD (insS f p n) p k (insS f p n (τ.1 2) (p + k))
      unfold insS
      rw [if_neg h]
theorem T_insert {σ τ : SX} (h : IV σ τ) (a b c : Int32) : ∃ r σ' τ', fX0_insert a b c σ = some (r, σ') ∧ fX1_insert a b c τ = some (r, τ') ∧ IV σ' τ' := by
  have h0 := h
  obtain ⟨ce, bl, si, i, hx, hm, hV, hS, hfa, hdn⟩ := h
  have e9 : σ.2 9 = i 9 := hx.2.2.2.2 9 (by omega)
  have m9 : τ.2 3 = i 9 := hm.2.2.2.2.1
  unfold fX0_insert fX1_insert
  rw [e9, m9]
  rcases nI_or a 4 (by omega) with ⟨f, hf, rfl⟩ | ha
  · rw [X0_isFile_y hf, X1_isFile_y hf, bs_e, bs_e, i10, i10]
    rcases nI_or b 24 (by omega) with ⟨p, hp, rfl⟩ | hb
    · rw [X0_isPlace_y hp, X1_isPlace_y hp, bs_e, bs_e, i10, i10]
      rcases nI_or c 25 (by omega) with ⟨n, hn, rfl⟩ | hc
      · by_cases hn0 : n = 0
        · subst hn0
          rw [if_pos ((nI_ltI (by omega) (by omega)).mpr (by omega)), X1_within_n (by omega) (by omega) (by omega) (by omega), bs_e, i00]
          exact ⟨_, _, _, rfl, rfl, h0⟩
        · rw [if_neg (fun q => absurd ((nI_ltI (by omega) (by omega)).mp q) (by omega)), if_pos ((nI_leI (by omega) (by omega)).mpr (by omega)), X1_within_y (by omega) (by omega) (by omega), bs_e, i10]
          by_cases hd : i 9 = nI 0
          · obtain ⟨z, hz, ez⟩ := hS f hf
            rw [if_pos hd, if_pos hd, X0_sizeOf_y hf, bd_e, hx.2.2.1, ez, gD_n hf (by omega), nI_cl (by omega), hm.2.2.1, ez, X0_sizeOf_y hf, bd_e, hx.2.2.1, ez, gD_n hf (by omega)]
            simp (disch := omega) only [nI_add, nI_mul, nI_ltI, nI_leI]
            by_cases hl : p * 4 < z
            · rw [if_pos hl, if_pos (by omega : 4 * p < z)]
              by_cases hz2 : z + n * 4 ≤ 96
              · rw [if_pos hz2, if_pos (by omega : z + 4 * n ≤ 96)]
                have e23 : nI 23 = nI (p + (24 - p)) - nI 1 := by
                  rw [nI_sub (by omega)]; exact congrArg nI (by omega)
                obtain ⟨σ', u1, u2⟩ := X0_insert_L (p := p) hf (by omega : n ≤ 24) hz2 (24 - p) FU σ (by omega) (by rw [FU_v]; omega) (by rw [hx.2.1]; exact hV) (by rw [hx.2.1]; exact hx.2.2.2.1) (by rw [hx.2.2.1]; exact ez)
                obtain ⟨τ', v1, v2, v3, v4, v5⟩ := X1_insert_L (p := p) hf (by omega : n ≤ 24) hz2 (24 - p) FU τ (by omega) (by rw [FU_v]; omega) (by rw [hm.2.2.1]; exact ez)
                rw [← e23] at u1 v1
                refine ⟨_, σ', τ', u1, v1, ce, itD (insS f p n) p (24 - p) bl, upd si f (nI (z + n * 4)), i, ?_, ?_, ?_, ?_, hfa, hdn⟩
                · rw [hx.1, hx.2.1, hx.2.2.1] at u2
                  exact hx.of u2
                · exact hm.of (v2.trans hm.1) (v3.trans (by rw [hm.2.1])) (v4.trans (by rw [hm.2.2.1])) (fun k _ => by rw [v5])
                · exact itD_BV (fun bl j hj h => insS_BV hf bl j hj h) _ _ (by omega) hV
                · exact SV_upd hS (by omega) f
              · rw [if_neg hz2, if_neg (by omega : ¬ z + 4 * n ≤ 96)]
                exact ⟨_, _, _, rfl, rfl, h0⟩
            · rw [if_neg hl, if_neg (by omega : ¬ 4 * p < z)]
              exact ⟨_, _, _, rfl, rfl, h0⟩
          · rw [if_neg hd, if_neg hd]
            exact ⟨_, _, _, rfl, rfl, h0⟩
      · rw [X1_within_o rfl hc (by omega) (by omega), bs_e, i00]
        by_cases h1 : c < nI 1
        · rw [if_pos h1]; exact ⟨_, _, _, rfl, rfl, h0⟩
        · rcases hc with hc | hc
          · exact absurd (Int32.lt_of_lt_of_le hc (by decide)) h1
          · rw [if_neg h1, if_neg (Int32.not_le.mpr (lt_of_le1 (by omega) hc))]
            exact ⟨_, _, _, rfl, rfl, h0⟩
    · rw [X0_isPlace_n hb, X1_isPlace_n hb, bs_e, bs_e, i00, i00]
      exact ⟨_, _, _, rfl, rfl, h0⟩
  · rw [X0_isFile_n ha, X1_isFile_n ha]
    exact ⟨_, _, _, rfl, rfl, h0⟩
/-! share -/
def shrS (f p g q : Nat) (bl : Nat → Int32) (j : Nat) : Nat → Int32 := upd bl (24 * g + (q + j)) (bl (24 * f + (p + j)))
theorem itU_BV2 {st : (Nat → Int32) → Nat → (Nat → Int32)} {e : Nat} (hs : ∀ bl j, j < e → BV bl → BV (st bl j)) : ∀ k j bl, j + k ≤ e → BV bl → BV (itU st k j bl)
  | 0, _, _, _, h => h
  | k + 1, j, bl, hk, h => itU_BV2 hs k (j + 1) (st bl j) (by omega) (hs bl j (by omega) h)
theorem X0_growTo_y {σ : SX} {f z v : Nat} (hf : f < 4) (hz : z ≤ 96) (hv : v ≤ 2000) (hs : σ.1 3 f = nI z) : fX0_growTo (nI f) (nI v) σ = some (nI 0, sa σ 3 f (nI (max z v))) := by
  rw [fX0_growTo, X0_sizeOf_y hf, bd_e, hs, mx_n (by omega) (by omega), X0_setSize_y hf, bd_e]
theorem X0_share_L {f p g q n z : Nat} (hf : f < 4) (hg : g < 4) (hp : p + n ≤ 24) (hq : q + n ≤ 24) (hz : z ≤ 96) : ∀ (k j n' : Nat) (σ : SX), j + k = n → k < n' → BV (σ.1 2) → CO (σ.1 1) (σ.1 2) → σ.1 3 g = nI z → ∃ σ', fX0_share_L75 n' (nI f) (nI p) (nI g) (nI q) (nI n) (nI j) σ = some (nI (max z ((q + n) * 4)), σ') ∧ RX σ' (σ.1 0) (itU (shrS f p g q) k j (σ.1 2)) (upd (σ.1 3) g (nI (max z ((q + n) * 4)))) σ.2 := by
  intro k
  induction k with
  | zero =>
    intro j n' σ hj hn' hV hC hs
    obtain ⟨n', rfl⟩ : ∃ m, n' = m + 1 := ⟨n' - 1, by omega⟩
    obtain rfl : j = n := by omega
    refine ⟨sa σ 3 g (nI (max z ((q + j) * 4))), ?_, rfl, rfl, rfl, hC, fun _ _ => rfl⟩
    rw [fX0_share_L75, if_pos ((nI_leI (by omega) (by omega)).mpr (by omega)), nI_add, nI_mul, X0_growTo_y hg hz (by omega) hs, bd_e, X0_sizeOf_y hg, bd_e, sa_1e, upd_e]
  | succ k ih =>
    intro j n' σ hj hn' hV hC hs
    obtain ⟨n', rfl⟩ : ∃ m, n' = m + 1 := ⟨n' - 1, by omega⟩
    have hv : Vb (σ.1 2 (24 * f + (p + j))) := hV _ (by omega)
    obtain ⟨s1, e1, b1, f1, g1, -⟩ := X0_putBlock hV hg (by omega : q + j < 24) hv
    have hC1 : CO (s1.1 1) (s1.1 2) := CG_0.mp (g1 _ (fun _ => by omega) (CG_0.mpr hC))
    obtain ⟨σ', e2, r2⟩ := ih (j + 1) n' s1 (by omega) (by omega) (by rw [b1]; exact BV_upd hV hv _) hC1 (by rw [f1.2.1]; exact hs)
    refine ⟨σ', ?_, ?_⟩
    · rw [fX0_share_L75, if_neg (fun q => absurd ((nI_leI (by omega) (by omega)).mp q) (by omega)), nI_add, X0_blockAt_y hf (by omega), bd_e, nI_add, e1, bd_e, nI_add]
      exact e2
    · rw [f1.1, f1.2.1, f1.2.2.2.2, b1] at r2
      exact r2
theorem X1_share_L {f p g q n z : Nat} (hf : f < 4) (hg : g < 4) (hp : p + n ≤ 24) (hq : q + n ≤ 24) (hz : z ≤ 96) : ∀ (k j n' : Nat) (τ : SX), j + k = n → k < n' → τ.1 1 g = nI z → ∃ τ', fX1_share_L71 n' (nI f) (nI p) (nI g) (nI q) (nI n) (nI j) τ = some (nI (max z ((q + n) * 4)), τ') ∧ τ'.1 0 = τ.1 0 ∧ τ'.1 2 = itU (shrS f p g q) k j (τ.1 2) ∧ τ'.1 1 = upd (τ.1 1) g (nI (max z ((q + n) * 4))) ∧ τ'.2 = τ.2 := by
  intro k
  induction k with
  | zero =>
    intro j n' τ hj hn' hs
    obtain ⟨n', rfl⟩ : ∃ m, n' = m + 1 := ⟨n' - 1, by omega⟩
    obtain rfl : j = n := by omega
    refine ⟨sa τ 1 g (nI (max z ((q + j) * 4))), ?_, rfl, rfl, rfl, rfl⟩
    rw [fX1_share_L71, if_pos ((nI_leI (by omega) (by omega)).mpr (by omega))]
    simp (disch := omega) only [gD_n, nI_cl, hs, nI_add, nI_mul, nI_leI, sa_1e, upd_e]
    by_cases h : 4 * (q + j) ≤ z
    · rw [if_pos h, show max z ((q + j) * 4) = z by omega]
    · rw [if_neg h, show max z ((q + j) * 4) = 4 * (q + j) by omega]
  | succ k ih =>
    intro j n' τ hj hn' hs
    obtain ⟨n', rfl⟩ : ∃ m, n' = m + 1 := ⟨n' - 1, by omega⟩
    rw [fX1_share_L71, if_neg (fun q => absurd ((nI_leI (by omega) (by omega)).mp q) (by omega))]
    simp (disch := omega) only [nI_mul, nI_add, gD_n, nI_cl]
    obtain ⟨τ', e2, c2, b2, s2, i2⟩ := ih (j + 1) n' (sa τ 2 (24 * g + q + j) (τ.1 2 (24 * f + p + j))) (by omega) (by omega) hs
    refine ⟨τ', e2, c2, ?_, s2, i2⟩
    rw [b2, sa_1e]
    show _ = itU (shrS f p g q) k (j + 1) (shrS f p g q (τ.1 2) j)
    unfold shrS
    rw [Nat.add_assoc, Nat.add_assoc]
theorem X0_isBelowSize_y {σ : SX} {f p n z : Nat} (hf : f < 4) (hp : p + n ≤ 24) (hz : z ≤ 96) (hs : σ.1 3 f = nI z) : fX0_isBelowSize (nI f) (nI p) (nI n) σ = some ((if z < (p + n) * 4 then nI 0 else nI 1), σ) := by
  rw [fX0_isBelowSize, X0_sizeOf_y hf, bd_e, hs, nI_add, nI_mul]
  simp (disch := omega) only [nI_ltI]
  by_cases h : z < (p + n) * 4
  · rw [if_pos h, if_pos h]
  · rw [if_neg h, if_neg h]
theorem meet_b (a b c d e : Int32) : fX1_doMeet a b c d e = fX0_meet a b c d e ∧ (fX0_meet a b c d e = some (nI 0) ∨ fX0_meet a b c d e = some (nI 1)) := by
  refine ⟨rfl, ?_⟩
  unfold fX0_meet
  by_cases h : a = c
  · rw [if_pos h]
    by_cases h1 : d + e ≤ b
    · rw [if_pos h1]; exact Or.inl rfl
    · rw [if_neg h1]
      by_cases h2 : b + e ≤ d
      · rw [if_pos h2]; exact Or.inl rfl
      · rw [if_neg h2]; exact Or.inr rfl
  · rw [if_neg h]; exact Or.inl rfl
theorem shrS_BV {f p g q n : Nat} (hf : f < 4) (hp : p + n ≤ 24) (bl : Nat → Int32) (j : Nat) (hj : j < n) (h : BV bl) : BV (shrS f p g q bl j) := BV_upd h (h _ (by omega)) _
theorem T_share {σ τ : SX} (h : IV σ τ) (a b c d e : Int32) : ∃ r σ' τ', fX0_share a b c d e σ = some (r, σ') ∧ fX1_share a b c d e τ = some (r, τ') ∧ IV σ' τ' := by
  have h0 := h
  obtain ⟨ce, bl, si, i, hx, hm, hV, hS, hfa, hdn⟩ := h
  have e9 : σ.2 9 = i 9 := hx.2.2.2.2 9 (by omega)
  have m9 : τ.2 3 = i 9 := hm.2.2.2.2.1
  unfold fX0_share fX1_share
  rw [e9, m9]
  rcases nI_or a 4 (by omega) with ⟨f, hf, rfl⟩ | ha
  · rw [X0_isFile_y hf, X1_isFile_y hf, bs_e, bs_e, i10, i10]
    rcases nI_or c 4 (by omega) with ⟨g, hg, rfl⟩ | hc
    · rw [X0_isFile_y hg, X1_isFile_y hg, bs_e, bs_e, i10, i10]
      rcases rng2_or b d e with ⟨p, q, n, h1, h2, h3, rfl, rfl, rfl⟩ | ⟨q1, q2⟩
      · rw [X0_isPlaceRange_y h1 h2, X0_isPlaceRange_y h1 h3, X1_areRanges_y h1 h2 h3, bs_e, bs_e, bs_e, i10, i10, i10]
        by_cases hd : i 9 = nI 0
        · obtain ⟨z, hz, ez⟩ := hS f hf
          obtain ⟨zg, hzg, ezg⟩ := hS g hg
          rw [if_pos hd, if_pos hd, X0_isBelowSize_y hf h2 hz (by rw [hx.2.2.1]; exact ez), bd_e, gD_n hf (by omega), nI_cl (by omega), hm.2.2.1, ez]
          simp (disch := omega) only [nI_add, nI_mul, nI_ltI]
          by_cases hl : z < (p + n) * 4
          · rw [if_pos hl, i00, if_pos (by omega : z < 4 * (p + n))]
            exact ⟨_, _, _, rfl, rfl, h0⟩
          · rw [if_neg hl, i10, if_neg (by omega : ¬ z < 4 * (p + n)), (meet_b _ _ _ _ _).1]
            rcases (meet_b (nI f) (nI p) (nI g) (nI q) (nI n)).2 with hme | hme
            · rw [hme, bs_e, bs_e, i00, i00]
              obtain ⟨σ', u1, u2⟩ := X0_share_L hf hg h2 h3 hzg n 0 FU σ (by omega) (by rw [FU_v]; omega) (by rw [hx.2.1]; exact hV) (by rw [hx.2.1]; exact hx.2.2.2.1) (by rw [hx.2.2.1]; exact ezg)
              obtain ⟨τ', v1, v2, v3, v4, v5⟩ := X1_share_L hf hg h2 h3 hzg n 0 FU τ (by omega) (by rw [FU_v]; omega) (by rw [hm.2.2.1]; exact ezg)
              refine ⟨_, σ', τ', u1, v1, ce, itU (shrS f p g q) n 0 bl, upd si g (nI (max zg ((q + n) * 4))), i, ?_, ?_, ?_, ?_, hfa, hdn⟩
              · rw [hx.1, hx.2.1, hx.2.2.1] at u2
                exact hx.of u2
              · exact hm.of (v2.trans hm.1) (v3.trans (by rw [hm.2.1])) (v4.trans (by rw [hm.2.2.1])) (fun k _ => by rw [v5])
              · exact itU_BV2 (e := n) (fun bl j hj h => shrS_BV hf h2 bl j hj h) _ _ _ (by omega) hV
              · exact SV_upd hS (by omega) g
            · rw [hme, bs_e, bs_e, i10, i10]
              exact ⟨_, _, _, rfl, rfl, h0⟩
        · rw [if_neg hd, if_neg hd]
          exact ⟨_, _, _, rfl, rfl, h0⟩
      · rw [q2, bs_e, i00]
        rcases q1 with q1 | ⟨q1, q3⟩
        · rw [q1, bs_e, i00]
          exact ⟨_, _, _, rfl, rfl, h0⟩
        · rw [q1, bs_e, i10, q3, bs_e, i00]
          exact ⟨_, _, _, rfl, rfl, h0⟩
    · rw [X0_isFile_n hc, X1_isFile_n hc]
      exact ⟨_, _, _, rfl, rfl, h0⟩
  · rw [X0_isFile_n ha, X1_isFile_n ha]
    exact ⟨_, _, _, rfl, rfl, h0⟩
