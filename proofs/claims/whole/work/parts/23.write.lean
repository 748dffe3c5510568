/-! unshare, write -/
theorem RX.frN {σ σ' : SX} {ce bl si i : Nat → Int32} (h : RX σ ce bl si i) (hf : FrN σ σ') : RX σ' ce bl si i :=
  ⟨hf.1.trans h.1, hf.2.2.1.trans h.2.1, hf.2.2.2.1.trans h.2.2.1, by rw [hf.2.1]; exact h.2.2.2.1, fun k hk => (hf.2.2.2.2.2 k (by omega)).trans (h.2.2.2.2 k hk)⟩
theorem ndl_24 {P : Nat → Bool} {k i : Nat} (h : i + k ≤ 24) : (∀ x ∈ ndl P k i, x < 24) ∧ (ndl P k i).length ≤ 24 :=
  ⟨fun x hx => by have := ndl_mem hx; omega, by have := ndl_len P k i; omega⟩
theorem X1_unshare_L {f p n : Nat} (hf : f < 4) (hp : p + n ≤ 24) : ∀ (k i n' : Nat) (τ : SX) (L : List Nat), i + k = p + n → k < n' → L.length ≤ i → BV (τ.1 2) → HW τ L → ∃ τ', fX1_unshare_L49 n' (nI f) (nI p) (nI n) (nI i) τ = (bd (fX1_owns (nI f) τ') fun r1 s1 => (if r1 = nI 0 then some ((-6), s1) else some ((s1.2 7), s1))) ∧ FrW τ τ' ∧ HW τ' (L ++ ndl (nd (τ.1 2) f false) k i) := by
  intro k
  induction k with
  | zero =>
    intro i n' τ L hi hn' hL hV hH
    obtain ⟨n', rfl⟩ : ∃ m, n' = m + 1 := ⟨n' - 1, by omega⟩
    refine ⟨τ, ?_, FrW.rf τ, ?_⟩
    · rw [fX1_unshare_L49, nI_add, if_pos ((nI_leI (by omega) (by omega)).mpr (by omega))]
    · rw [show ndl (nd (τ.1 2) f false) 0 i = [] from rfl, List.append_nil]; exact hH
  | succ k ih =>
    intro i n' τ L hi hn' hL hV hH
    obtain ⟨n', rfl⟩ : ∃ m, n' = m + 1 := ⟨n' - 1, by omega⟩
    obtain ⟨s1, e1, f1, h1⟩ := X1_wants_y hf (by omega : i < 24) false hV (by omega) hH
    rw [bI_f] at e1
    have hl1 : (if nd (τ.1 2) f false i then L ++ [i] else L).length ≤ i + 1 := by
      by_cases h : nd (τ.1 2) f false i = true
      · rw [if_pos h, List.length_append]; simp; omega
      · rw [if_neg h]; omega
    obtain ⟨τ', e2, f2, h2⟩ := ih (i + 1) n' s1 _ (by omega) (by omega) hl1 (by rw [f1.2.2.1]; exact hV) h1
    refine ⟨τ', ?_, f1.tr f2, ?_⟩
    · rw [fX1_unshare_L49, nI_add, if_neg (fun q => absurd ((nI_leI (by omega) (by omega)).mp q) (by omega)), e1, bd_e, nI_add]
      exact e2
    · rw [f1.2.2.1] at h2
      by_cases h : nd (τ.1 2) f false i = true
      · rw [if_pos h, List.append_assoc] at h2
        rw [ndl_t h]; exact h2
      · rw [if_neg h] at h2
        rw [ndl_f h]; exact h2
theorem T_unshare {σ τ : SX} (h : IV σ τ) (a b c : Int32) : ∃ r σ' τ', fX0_unshare a b c σ = some (r, σ') ∧ fX1_unshare a b c τ = some (r, τ') ∧ IV σ' τ' := by
  have h0 := h
  obtain ⟨ce, bl, si, i, hx, hm, hV, hS, hfa, hdn⟩ := h
  have e9 : σ.2 9 = i 9 := hx.2.2.2.2 9 (by omega)
  have m9 : τ.2 3 = i 9 := hm.2.2.2.2.1
  unfold fX0_unshare fX1_unshare
  rw [e9, m9]
  rcases nI_or a 4 (by omega) with ⟨f, hf, rfl⟩ | ha
  · rw [X0_isFile_y hf, X1_isFile_y hf, bs_e, bs_e, i10, i10]
    rcases rng_or b c with ⟨p, n, h1, h2, rfl, rfl⟩ | ⟨q1, q2⟩
    · rw [X0_isPlaceRange_y h1 h2, X1_isPlace_y (by omega), bs_e, bs_e, i10, i10, nI_sub (by omega : p ≤ 24), X1_within_y (by omega) (by omega) (by omega), bs_e, i10]
      by_cases hd : i 9 = nI 0
      · rw [if_pos hd, if_pos hd, nI_add, nI_sub (by omega), show nI 0 = bI false from rfl]
        have hV0 : BV (σ.1 2) := by rw [hx.2.1]; exact hV
        have hC0 : CO (σ.1 1) (σ.1 2) := by rw [hx.2.1]; exact hx.2.2.2.1
        obtain ⟨s3, e3, f3, n3⟩ := X0_chooseNeedy_y (σ := σ) (a := p) (e := p + n - 1) hf (by omega) (by omega) false hV0 hC0
        rw [hx.2.1, show p + n - 1 + 1 - p = n by omega] at n3
        have hx3 := hx.frN f3
        have hV3 : BV (s3.1 2) := by rw [hx3.2.1]; exact hV
        have hC3 : CO (s3.1 1) (s3.1 2) := by rw [hx3.2.1]; exact hx3.2.2.2.1
        obtain ⟨u1, u2⟩ := ndl_24 (P := nd bl f false) (k := n) (i := p) h2
        rw [e3, bd_e, X0_isSpent_y u2 n3 hC3, bd_e]
        rw [bI_f]
        obtain ⟨t1, v1, w1, n1⟩ := X1_unshare_L hf h2 n p FU (sf τ 7 (nI 0)) [] (by omega) (by rw [FU_v]; omega) (by simp) (by rw [sf_1, hm.2.1]; exact hV) ⟨pfx_nil _ _, rfl⟩
        rw [sf_1, hm.2.1, List.nil_append] at n1
        have wm : FrW τ t1 := (show FrW τ (sf τ 7 (nI 0)) from ⟨rfl, rfl, rfl, fun k hk => sf_2n _ _ _ hk⟩).tr w1
        have bm : t1.1 2 = bl := wm.2.2.1.trans hm.2.1
        obtain ⟨g1, g2⟩ := X1_owns_y (τ := t1) hf u1 u2 n1 (by rw [bm]; exact hV)
        rw [v1]
        rw [bm] at g1 g2
        rw [hx3.2.1]
        by_cases hs : (ndl (nd bl f false) n p).length ≤ cntP (fun b => decide (Cc bl b = 0)) 48
        · rw [if_pos hs, i00]
          obtain ⟨s5, e5, c5, b5, o5, z5, i5⟩ := X0_ownNeedy_y (σ := s3) hf u1 u2 n3 hV3 hC3 (by rw [hx3.2.1]; exact hs)
          obtain ⟨t5, d5, k5, l5, y5, j5⟩ := g1 hs
          rw [e5, bd_e, d5, bd_e, i10]
          rw [hx3.2.1, hx3.1] at c5 b5
          have hk : t1.1 0 = ce := wm.1.trans hm.1
          rw [hk] at k5 l5
          refine ⟨_, s5, t5, rfl, ?_, (gvL f (ndl (nd bl f false) n p) (gl 24 (fun b => decide (Cc bl b = 0)) (ndl (nd bl f false) n p).length) ce bl).1, (gvL f (ndl (nd bl f false) n p) (gl 24 (fun b => decide (Cc bl b = 0)) (ndl (nd bl f false) n p).length) ce bl).2, si, i, ?_, ?_, ?_, hS, hfa, hdn⟩
          · rw [i5 5 (by omega), j5 7 (by omega), n3.2, n1.2]
          · exact ⟨c5, b5, z5.trans hx3.2.2.1, by rw [b5] at o5; exact o5, fun k hk => (i5 k (by omega)).trans (hx3.2.2.2.2 k hk)⟩
          · exact hm.of k5 l5 (y5.trans (wm.2.1.trans hm.2.2.1)) (fun k hk => (j5 k (by omega)).trans (wm.2.2.2 k (by omega)))
          · exact gvL_BV _ _ _ _ (gl_ok 24 _ _ u2 hs).2 hV
        · rw [if_neg hs, i10]
          obtain ⟨t5, d5, j5⟩ := g2 hs
          rw [d5, bd_e, i00]
          exact ⟨_, s3, t5, rfl, rfl, ce, bl, si, i, hx3, hm.of (j5.1.trans (wm.1.trans hm.1)) (j5.2.2.1.trans bm) (j5.2.1.trans (wm.2.1.trans hm.2.2.1)) (fun k hk => (j5.2.2.2.2 k (by omega)).trans (wm.2.2.2 k (by omega))), hV, hS, hfa, hdn⟩
      · rw [if_neg hd, if_neg hd]
        exact ⟨_, _, _, rfl, rfl, h0⟩
    · rw [q1, bs_e, i00]
      rcases q2 with q2 | ⟨q2, q3⟩
      · rw [q2, bs_e, i00]
        exact ⟨_, _, _, rfl, rfl, h0⟩
      · rw [q2, bs_e, i10, q3, bs_e, i00]
        exact ⟨_, _, _, rfl, rfl, h0⟩
  · rw [X0_isFile_n ha, X1_isFile_n ha]
    exact ⟨_, _, _, rfl, rfl, h0⟩
/-! write -/
theorem cel_or (b c : Int32) : (∃ a n : Nat, 1 ≤ n ∧ a + n ≤ 96 ∧ b = nI a ∧ c = nI n) ∨ (fX0_isCellRange b c = some (nI 0) ∧ (fX1_within b (nI 0) (nI 95) = some (nI 0) ∨ (fX1_within b (nI 0) (nI 95) = some (nI 1) ∧ fX1_within c (nI 1) (nI 96 - b) = some (nI 0)))) := by
  unfold fX0_isCellRange
  rcases nI_or b 96 (by omega) with ⟨a, ha, rfl⟩ | hb
  · rw [if_neg (by rw [nI_nn (by omega)]; exact not_false), if_neg (fun q => absurd ((nI_leI (by omega) (by omega)).mp q) (by omega)), X1_within_y (by omega) (by omega) (by omega), nI_sub (by omega : a ≤ 96)]
    rcases nI_or c (96 - a + 1) (by omega) with ⟨n, hn, rfl⟩ | hc
    · by_cases h0 : n = 0
      · subst h0
        refine Or.inr ⟨?_, Or.inr ⟨rfl, X1_within_n (by omega) (by omega) (by omega) (by omega)⟩⟩
        rw [if_pos ((nI_ltI (by omega) (by omega)).mpr (by omega))]
      · exact Or.inl ⟨a, n, by omega, by omega, rfl, rfl⟩
    · refine Or.inr ⟨?_, Or.inr ⟨rfl, X1_within_o rfl hc (by omega) (by omega)⟩⟩
      by_cases h1 : c < nI 1
      · rw [if_pos h1]
      · rcases hc with hc | hc
        · exact absurd (Int32.lt_of_lt_of_le hc (by decide)) h1
        · rw [if_neg h1, if_pos (lt_of_le1 (by omega) hc)]
  · refine Or.inr ⟨?_, Or.inl (X1_within_o rfl hb (by omega) (by omega))⟩
    by_cases h : b < nI 0
    · rw [if_pos h]
    · rw [if_neg h, if_pos (hb.resolve_left h)]
theorem X0_isCellRange_y {a n : Nat} (h : 1 ≤ n) (h2 : a + n ≤ 96) : fX0_isCellRange (nI a) (nI n) = some (nI 1) := by
  unfold fX0_isCellRange
  rw [if_neg (by rw [nI_nn (by omega)]; exact not_false), if_neg (fun q => absurd ((nI_leI (by omega) (by omega)).mp q) (by omega)), nI_sub (by omega : a ≤ 96), if_neg (fun q => absurd ((nI_ltI (by omega) (by omega)).mp q) (by omega)), if_neg (fun q => absurd ((nI_ltI (by omega) (by omega)).mp q) (by omega))]
def stS (bl : Nat → Int32) (f : Nat) (v : Int32) (ce : Nat → Int32) (j : Nat) : Nat → Int32 := if bl (24 * f + j / 4) = nN then ce else upd ce (4 * (bl (24 * f + j / 4)).toNatClampNeg + j % 4) v
theorem X0_setCells_L {f e : Nat} (hf : f < 4) (he : e ≤ 96) (v : Int32) : ∀ (k j n' : Nat) (σ : SX), j + k = e → k < n' → BV (σ.1 2) → ∃ σ', fX0_setCells_L3 n' (nI f) (nI e) v (nI j) σ = some (nI 0, σ') ∧ σ'.1 0 = itU (stS (σ.1 2) f v) k j (σ.1 0) ∧ (∀ t, t ≠ 0 → σ'.1 t = σ.1 t) ∧ σ'.2 = σ.2 := by
  intro k
  induction k with
  | zero =>
    intro j n' σ hj hn' hV
    obtain ⟨n', rfl⟩ : ∃ m, n' = m + 1 := ⟨n' - 1, by omega⟩
    exact ⟨σ, by rw [fX0_setCells_L3, if_pos ((nI_leI (by omega) (by omega)).mpr (by omega))], rfl, fun _ _ => rfl, rfl⟩
  | succ k ih =>
    intro j n' σ hj hn' hV
    obtain ⟨n', rfl⟩ : ∃ m, n' = m + 1 := ⟨n' - 1, by omega⟩
    rw [fX0_setCells_L3, if_neg (fun q => absurd ((nI_leI (by omega) (by omega)).mp q) (by omega)), nI_m4 (by omega), nI_div (by omega) (by omega), X0_blockAt_y hf (by omega), bd_e, nI_add]
    show ∃ σ' : SX, _ ∧ σ'.1 0 = itU (stS (σ.1 2) f v) k (j + 1) (stS (σ.1 2) f v (σ.1 0) j) ∧ _
    rcases hV (24 * f + j / 4) (by omega) with h | ⟨b, hb, h⟩
    · rw [h, X0_setCell_N, bd_e]
      obtain ⟨σ', e1, c1, a1, i1⟩ := ih (j + 1) n' σ (by omega) (by omega) hV
      refine ⟨σ', e1, ?_, a1, i1⟩
      rw [c1]; unfold stS; rw [if_pos h]
    · rw [h, X0_setCell_y hb (by omega), bd_e]
      obtain ⟨σ', e1, c1, a1, i1⟩ := ih (j + 1) n' (sa σ 0 (4 * b + j % 4) v) (by omega) (by omega) hV
      refine ⟨σ', e1, ?_, fun t ht => (a1 t ht).trans (sa_1n _ _ _ _ ht), i1⟩
      rw [c1, sa_1e, sa_1n _ _ _ _ (by decide)]
      unfold stS
      rw [if_neg (by rw [h, nI_nN (by omega)]; exact not_false), h, nI_cl (by omega)]
theorem X1_write_L106 {f a n z : Nat} (hf : f < 4) (ha : a + n ≤ 96) (hz : z ≤ 96) (v : Int32) : ∀ (k j n' : Nat) (τ : SX), j + k = a + n → k < n' → BV (τ.1 2) → (∀ p, a / 4 ≤ p → p ≤ (a + n - 1) / 4 → τ.1 2 (24 * f + p) ≠ nN) → a ≤ j → τ.1 1 f = nI z → ∃ τ', fX1_write_L106 n' (nI f) (nI a) (nI n) v (nI j) τ = some (nI (max z (a + n)), τ') ∧ τ'.1 0 = itU (stS (τ.1 2) f v) k j (τ.1 0) ∧ τ'.1 2 = τ.1 2 ∧ τ'.1 1 = upd (τ.1 1) f (nI (max z (a + n))) ∧ τ'.2 = τ.2 := by
  intro k
  induction k with
  | zero =>
    intro j n' τ hj hn' hV hne haj hs
    obtain ⟨n', rfl⟩ : ∃ m, n' = m + 1 := ⟨n' - 1, by omega⟩
    refine ⟨sa τ 1 f (nI (max z (a + n))), ?_, rfl, rfl, rfl, rfl⟩
    rw [fX1_write_L106, nI_add, if_pos ((nI_leI (by omega) (by omega)).mpr (by omega))]
    simp (disch := omega) only [gD_n, nI_cl, hs, nI_leI, sa_1e, upd_e]
    by_cases h : a + n ≤ z
    · rw [if_pos h, show max z (a + n) = z by omega]
    · rw [if_neg h, show max z (a + n) = a + n by omega]
  | succ k ih =>
    intro j n' τ hj hn' hV hne haj hs
    obtain ⟨n', rfl⟩ : ∃ m, n' = m + 1 := ⟨n' - 1, by omega⟩
    rw [fX1_write_L106, nI_add, if_neg (fun q => absurd ((nI_leI (by omega) (by omega)).mp q) (by omega)), nI_m4 (by omega), nI_div (by omega) (by omega), nI_mul, nI_add, gD_n (by omega) (by omega), nI_cl (by omega)]
    rcases hV (24 * f + j / 4) (by omega) with h | ⟨b, hb, h⟩
    · exact absurd h (hne (j / 4) (by omega) (by omega))
    · rw [h, nI_mul, nI_add, gD_n (by omega) (by omega), nI_cl (by omega), nI_add]
      obtain ⟨τ', e1, c1, b1, s1, i1⟩ := ih (j + 1) n' (sa τ 0 (4 * b + j % 4) v) (by omega) (by omega) hV hne (by omega) hs
      refine ⟨τ', e1, ?_, b1, s1, i1⟩
      rw [c1, sa_1e, sa_1n _ _ _ _ (by decide)]
      show _ = itU (stS (τ.1 2) f v) k (j + 1) (stS (τ.1 2) f v (τ.1 0) j)
      unfold stS
      rw [if_neg (by rw [h, nI_nN (by omega)]; exact not_false), h, nI_cl (by omega)]
theorem X1_write_L66 {f a n : Nat} (hf : f < 4) (hn : 1 ≤ n) (ha : a + n ≤ 96) (v : Int32) : ∀ (k i n' : Nat) (τ : SX) (L : List Nat), i + k = (a + n - 1) / 4 + 1 → k < n' → L.length ≤ i → BV (τ.1 2) → HW τ L → ∃ τ', fX1_write_L66 n' (nI f) (nI a) (nI n) v (nI i) τ = (bd (fX1_owns (nI f) τ') fun r1 s1 => (if r1 = nI 0 then some ((-6), s1) else fX1_write_L106 FU (nI f) (nI a) (nI n) v (nI a) s1)) ∧ FrW τ τ' ∧ HW τ' (L ++ ndl (nd (τ.1 2) f true) k i) := by
  intro k
  induction k with
  | zero =>
    intro i n' τ L hi hn' hL hV hH
    obtain ⟨n', rfl⟩ : ∃ m, n' = m + 1 := ⟨n' - 1, by omega⟩
    refine ⟨τ, ?_, FrW.rf τ, ?_⟩
    · rw [fX1_write_L66, nI_add, nI_sub (by omega), nI_div (by omega) (by omega), if_pos ((nI_ltI (by omega) (by omega)).mpr (by omega))]
    · rw [show ndl (nd (τ.1 2) f true) 0 i = [] from rfl, List.append_nil]; exact hH
  | succ k ih =>
    intro i n' τ L hi hn' hL hV hH
    obtain ⟨n', rfl⟩ : ∃ m, n' = m + 1 := ⟨n' - 1, by omega⟩
    obtain ⟨s1, e1, f1, h1⟩ := X1_wants_y hf (by omega : i < 24) true hV (by omega) hH
    rw [bI_t] at e1
    have hl1 : (if nd (τ.1 2) f true i then L ++ [i] else L).length ≤ i + 1 := by
      by_cases h : nd (τ.1 2) f true i = true
      · rw [if_pos h, List.length_append]; simp; omega
      · rw [if_neg h]; omega
    obtain ⟨τ', e2, f2, h2⟩ := ih (i + 1) n' s1 _ (by omega) (by omega) hl1 (by rw [f1.2.2.1]; exact hV) h1
    refine ⟨τ', ?_, f1.tr f2, ?_⟩
    · rw [fX1_write_L66, nI_add, nI_sub (by omega), nI_div (by omega) (by omega), if_neg (fun q => absurd ((nI_ltI (by omega) (by omega)).mp q) (by omega)), e1, bd_e, nI_add]
      exact e2
    · rw [f1.2.2.1] at h2
      by_cases h : nd (τ.1 2) f true i = true
      · rw [if_pos h, List.append_assoc] at h2
        rw [ndl_t h]; exact h2
      · rw [if_neg h] at h2
        rw [ndl_f h]; exact h2
theorem T_write {σ τ : SX} (h : IV σ τ) (a b c d : Int32) : ∃ r σ' τ', fX0_write a b c d σ = some (r, σ') ∧ fX1_write a b c d τ = some (r, τ') ∧ IV σ' τ' := by
  have h0 := h
  obtain ⟨ce, bl, si, i, hx, hm, hV, hS, hfa, hdn⟩ := h
  have e9 : σ.2 9 = i 9 := hx.2.2.2.2 9 (by omega)
  have m9 : τ.2 3 = i 9 := hm.2.2.2.2.1
  unfold fX0_write fX1_write
  rw [e9, m9]
  rcases nI_or a 4 (by omega) with ⟨f, hf, rfl⟩ | ha
  · rw [X0_isFile_y hf, X1_isFile_y hf, bs_e, bs_e, i10, i10]
    rcases cel_or b c with ⟨at0, n, h1, h2, rfl, rfl⟩ | ⟨q1, q2⟩
    · rw [X0_isCellRange_y h1 h2, X1_within_y (by omega) (by omega) (by omega), bs_e, bs_e, i10, i10, nI_sub (by omega : at0 ≤ 96), X1_within_y (by omega) (by omega) (by omega), bs_e, i10]
      rcases nI_or d 256 (by omega) with ⟨v, hv, rfl⟩ | hb
      · rw [if_neg (by rw [nI_nn (by omega)]; exact not_false), if_pos ((nI_leI (by omega) (by omega)).mpr (by omega)), X1_within_y (by omega) (by omega) (by omega), bs_e, i10]
        by_cases hd : i 9 = nI 0
        · rw [if_pos hd, if_pos hd, nI_add, nI_sub (by omega), nI_div (by omega) (by omega), nI_div (by omega) (by omega), show nI 1 = bI true from rfl]
          obtain ⟨z, hz, ez⟩ := hS f hf
          have hV0 : BV (σ.1 2) := by rw [hx.2.1]; exact hV
          have hC0 : CO (σ.1 1) (σ.1 2) := by rw [hx.2.1]; exact hx.2.2.2.1
          obtain ⟨s3, e3, f3, n3⟩ := X0_chooseNeedy_y (σ := σ) (a := at0 / 4) (e := (at0 + n - 1) / 4) hf (by omega) (by omega) true hV0 hC0
          rw [hx.2.1] at n3
          have hx3 := hx.frN f3
          have hV3 : BV (s3.1 2) := by rw [hx3.2.1]; exact hV
          have hC3 : CO (s3.1 1) (s3.1 2) := by rw [hx3.2.1]; exact hx3.2.2.2.1
          obtain ⟨u1, u2⟩ := ndl_24 (P := nd bl f true) (k := (at0 + n - 1) / 4 + 1 - at0 / 4) (i := at0 / 4) (by omega)
          rw [e3, bd_e, X0_isSpent_y u2 n3 hC3, bd_e]
          obtain ⟨t1, v1, w1, n1⟩ := X1_write_L66 hf h1 h2 (nI v) ((at0 + n - 1) / 4 + 1 - at0 / 4) (at0 / 4) FU (sf τ 7 (nI 0)) [] (by omega) (by rw [FU_v]; omega) (by simp) (by rw [sf_1, hm.2.1]; exact hV) ⟨pfx_nil _ _, rfl⟩
          rw [sf_1, hm.2.1, List.nil_append] at n1
          have wm : FrW τ t1 := (show FrW τ (sf τ 7 (nI 0)) from ⟨rfl, rfl, rfl, fun k hk => sf_2n _ _ _ hk⟩).tr w1
          have bm : t1.1 2 = bl := wm.2.2.1.trans hm.2.1
          obtain ⟨g1, g2⟩ := X1_owns_y (τ := t1) hf u1 u2 n1 (by rw [bm]; exact hV)
          rw [v1]
          rw [bm] at g1 g2
          rw [hx3.2.1]
          generalize hNd : ndl (nd bl f true) ((at0 + n - 1) / 4 + 1 - at0 / 4) (at0 / 4) = N at *
          by_cases hs : N.length ≤ cntP (fun b => decide (Cc bl b = 0)) 48
          · rw [if_pos hs, i00]
            obtain ⟨s5, e5, c5, b5, o5, z5, i5⟩ := X0_ownNeedy_y (σ := s3) hf u1 u2 n3 hV3 hC3 (by rw [hx3.2.1]; exact hs)
            obtain ⟨t5, d5, k5, l5, y5, j5⟩ := g1 hs
            rw [e5, bd_e, d5, bd_e, i10]
            rw [hx3.2.1, hx3.1] at c5 b5
            have hk : t1.1 0 = ce := wm.1.trans hm.1
            rw [hk] at k5 l5
            obtain ⟨gk1, gk2⟩ := gl_ok 24 (fun b => decide (Cc bl b = 0)) N.length u2 hs
            have hVn : BV (gvL f N (gl 24 (fun b => decide (Cc bl b = 0)) N.length) ce bl).2 := gvL_BV _ _ _ _ gk2 hV
            have hne : ∀ p, at0 / 4 ≤ p → p ≤ (at0 + n - 1) / 4 → (gvL f N (gl 24 (fun b => decide (Cc bl b = 0)) N.length) ce bl).2 (24 * f + p) ≠ nN := by
              intro p p1 p2
              by_cases hp : bl (24 * f + p) = nN
              · refine gvL_in _ _ _ _ p gk2 gk1.symm ?_
                rw [← hNd]
                exact mem_ndl p1 (by omega) (by simp [nd, hp])
              · exact gvL_ne _ _ _ _ _ gk2 hp
            generalize hgv : gvL f N (gl 24 (fun b => decide (Cc bl b = 0)) N.length) ce bl = gv at *
            have hs5 : s5.1 3 f = nI z := by rw [z5, hx3.2.2.1]; exact ez
            obtain ⟨s6, e6, c6, a6, i6⟩ := X0_setCells_L (e := at0 + n) hf (by omega) (nI v) n at0 FU s5 (by omega) (by rw [FU_v]; omega) (by rw [b5]; exact hVn)
            have e6' : fX0_setCells (nI f) (nI at0) (nI (at0 + n)) (nI v) s5 = some (nI 0, s6) := e6
            obtain ⟨t6, d6, k6, l6, y6, j6⟩ := X1_write_L106 (z := z) hf h2 hz (nI v) n at0 FU t5 (by omega) (by rw [FU_v]; omega) (by rw [l5]; exact hVn) (by rw [l5]; exact hne) (by omega) (by rw [y5, wm.2.1, hm.2.2.1]; exact ez)
            rw [e6', bd_e, X0_growTo_y hf hz (by omega) (by rw [a6 3 (by decide)]; exact hs5), bd_e, X0_sizeOf_y hf, bd_e, sa_1e, upd_e]
            refine ⟨_, _, t6, rfl, d6, itU (stS gv.2 f (nI v)) n at0 gv.1, gv.2, upd si f (nI (max z (at0 + n))), i, ?_, ?_, hVn, ?_, hfa, hdn⟩
            · refine ⟨?_, ?_, ?_, ?_, fun k hk => ?_⟩
              · rw [sa_1n _ _ _ _ (by decide), c6, c5, b5]
              · rw [sa_1n _ _ _ _ (by decide), a6 2 (by decide), b5]
              · rw [sa_1e, a6 3 (by decide), z5, hx3.2.2.1]
              · rw [sa_1n _ _ _ _ (by decide), a6 1 (by decide)]
                rw [b5] at o5; exact o5
              · rw [sa_2, i6]
                exact (i5 k (by omega)).trans (hx3.2.2.2.2 k hk)
            · refine hm.of ?_ ?_ ?_ (fun k hk => ?_)
              · rw [k6, k5, l5]
              · rw [l6, l5]
              · rw [y6, y5, wm.2.1, hm.2.2.1]
              · rw [j6]
                exact (j5 k (by omega)).trans (wm.2.2.2 k (by omega))
            · exact SV_upd hS (by omega) f
          · rw [if_neg hs, i10]
            obtain ⟨t5, d5, j5⟩ := g2 hs
            rw [d5, bd_e, i00]
            exact ⟨_, s3, t5, rfl, rfl, ce, bl, si, i, hx3, hm.of (j5.1.trans (wm.1.trans hm.1)) (j5.2.2.1.trans bm) (j5.2.1.trans (wm.2.1.trans hm.2.2.1)) (fun k hk => (j5.2.2.2.2 k (by omega)).trans (wm.2.2.2 k (by omega))), hV, hS, hfa, hdn⟩
        · rw [if_neg hd, if_neg hd]
          exact ⟨_, _, _, rfl, rfl, h0⟩
      · rw [X1_within_o rfl hb (by omega) (by omega), bs_e, i00]
        by_cases hd : d < nI 0
        · rw [if_pos hd]; exact ⟨_, _, _, rfl, rfl, h0⟩
        · rw [if_neg hd, if_neg (Int32.not_le.mpr (lt_of_le1 (by omega) (hb.resolve_left hd)))]
          exact ⟨_, _, _, rfl, rfl, h0⟩
    · rw [q1, bs_e, i00]
      rcases q2 with q2 | ⟨q2, q3⟩
      · rw [q2, bs_e, i00]
        exact ⟨_, _, _, rfl, rfl, h0⟩
      · rw [q2, bs_e, i10, q3, bs_e, i00]
        exact ⟨_, _, _, rfl, rfl, h0⟩
  · rw [X0_isFile_n ha, X1_isFile_n ha]
    exact ⟨_, _, _, rfl, rfl, h0⟩
