/-! punching a range: cells of a place become 0, places become holes -/
def zr (a e p b : Nat) (ce : Nat → Int32) : Nat → Int32 := fun x => if 4 * b ≤ x ∧ x < 4 * b + 4 ∧ a ≤ 4 * p + (x - 4 * b) ∧ 4 * p + (x - 4 * b) < e then nI 0 else ce x
theorem st_range {bl : Nat → Int32} {f p b : Nat} (hb : bl (24 * f + p) = nI b) (hb2 : b < 48) (v : Int32) : ∀ (k j : Nat) (ce : Nat → Int32), 4 * p ≤ j → j + k ≤ 4 * p + 4 → itU (stS bl f v) k j ce = fun x => if 4 * b + (j - 4 * p) ≤ x ∧ x < 4 * b + (j - 4 * p) + k then v else ce x
  | 0, j, ce, _, _ => by
    funext x
    show ce x = _
    rw [if_neg (by omega)]
  | k + 1, j, ce, h1, h2 => by
    show itU (stS bl f v) k (j + 1) (stS bl f v ce j) = _
    rw [st_range hb hb2 v k (j + 1) _ (by omega) (by omega)]
    have e : j / 4 = p := by omega
    have es : stS bl f v ce j = upd ce (4 * b + j % 4) v := by
      unfold stS
      rw [e, hb, if_neg (by rw [nI_nN (by omega)]; exact not_false), nI_cl (by omega)]
    funext x
    rw [es]
    by_cases g : x = 4 * b + j % 4
    · subst g
      rw [upd_e, if_neg (by omega), if_pos (by omega)]
    · rw [upd_n _ _ _ g]
      by_cases g2 : 4 * b + (j + 1 - 4 * p) ≤ x ∧ x < 4 * b + (j + 1 - 4 * p) + k
      · rw [if_pos g2, if_pos (by omega)]
      · rw [if_neg g2, if_neg (by omega)]
theorem st_hole {bl : Nat → Int32} {f p : Nat} (hb : bl (24 * f + p) = nN) (v : Int32) : ∀ (k j : Nat) (ce : Nat → Int32), 4 * p ≤ j → j + k ≤ 4 * p + 4 → itU (stS bl f v) k j ce = ce
  | 0, j, ce, _, _ => rfl
  | k + 1, j, ce, h1, h2 => by
    show itU (stS bl f v) k (j + 1) (stS bl f v ce j) = _
    have e : j / 4 = p := by omega
    rw [st_hole hb v k (j + 1) _ (by omega) (by omega)]
    unfold stS
    rw [e, if_pos hb]
theorem st_zr {bl : Nat → Int32} {f p a e : Nat} (hv : Vb (bl (24 * f + p))) (ha : a ≤ e) (h1 : a / 4 ≤ p) (h2 : 4 * p < e) (hae : a < e) (ce : Nat → Int32) : itU (stS bl f (nI 0)) (min e ((p + 1) * 4) - max a (p * 4)) (max a (p * 4)) ce = if bl (24 * f + p) = nN then ce else zr a e p (bl (24 * f + p)).toNatClampNeg ce := by
  rcases hv with h | ⟨b, hb, h⟩
  · rw [st_hole h _ _ _ _ (by omega) (by omega), if_pos h]
  · rw [st_range h hb _ _ _ _ (by omega) (by omega), if_neg (by rw [h, nI_nN (by omega)]; exact not_false), h, nI_cl (by omega)]
    funext x
    unfold zr
    by_cases g : 4 * b ≤ x ∧ x < 4 * b + 4 ∧ a ≤ 4 * p + (x - 4 * b) ∧ 4 * p + (x - 4 * b) < e
    · rw [if_pos g, if_pos (by omega)]
    · rw [if_neg g, if_neg (by omega)]
def clL (f z a e : Nat) : Nat → Nat → (Nat → Int32) → (Nat → Int32) → Nat → (Nat → Int32) × (Nat → Int32) × Nat
  | 0, _, ce, bl, g => (ce, bl, g)
  | k + 1, p, ce, bl, g => if aw z a e p then (if bl (24 * f + p) = nN then clL f z a e k (p + 1) ce bl g else clL f z a e k (p + 1) ce (upd bl (24 * f + p) nN) (g + 1)) else clL f z a e k (p + 1) (if bl (24 * f + p) = nN then ce else zr a e p (bl (24 * f + p)).toNatClampNeg ce) bl g
theorem clL_BV {f z a e : Nat} : ∀ (k p : Nat) (ce bl : Nat → Int32) (g : Nat), BV bl → BV (clL f z a e k p ce bl g).2.1
  | 0, _, _, _, _, h => h
  | k + 1, p, ce, bl, g, h => by
    show BV (if aw z a e p then (if bl (24 * f + p) = nN then clL f z a e k (p + 1) ce bl g else clL f z a e k (p + 1) ce (upd bl (24 * f + p) nN) (g + 1)) else clL f z a e k (p + 1) (if bl (24 * f + p) = nN then ce else zr a e p (bl (24 * f + p)).toNatClampNeg ce) bl g).2.1
    by_cases h1 : aw z a e p = true
    · rw [if_pos h1]
      by_cases h2 : bl (24 * f + p) = nN
      · rw [if_pos h2]; exact clL_BV k _ _ _ _ h
      · rw [if_neg h2]; exact clL_BV k _ _ _ _ (BV_upd h (Or.inl rfl) _)
    · rw [if_neg h1]; exact clL_BV k _ _ _ _ h
/-- the first object's state with these cells and blocks, its counts fitting -/
def CS (σ σ' : SX) (q : (Nat → Int32) × (Nat → Int32) × Nat) : Prop := σ'.1 0 = q.1 ∧ σ'.1 2 = q.2.1 ∧ CO (σ'.1 1) q.2.1 ∧ σ'.1 3 = σ.1 3 ∧ σ'.2 = σ.2
theorem X0_clear_L {f a e z : Nat} (hf : f < 4) (he : e ≤ 96) (hae : a < e) (hz : z ≤ 96) : ∀ (k i n' g : Nat) (σ : SX), i + k = (e + 3) / 4 → k < n' → a / 4 ≤ i → g ≤ i → BV (σ.1 2) → CO (σ.1 1) (σ.1 2) → σ.1 3 f = nI z → ∃ σ', fX0_clearCells_L8 n' (nI f) (nI a) (nI e) (nI g) (nI i) σ = some (nI (clL f z a e k i (σ.1 0) (σ.1 2) g).2.2, σ') ∧ CS σ σ' (clL f z a e k i (σ.1 0) (σ.1 2) g) := by
  intro k
  induction k with
  | zero =>
    intro i n' g σ hi hn' hai hg hV hC hs
    obtain ⟨n', rfl⟩ : ∃ m, n' = m + 1 := ⟨n' - 1, by omega⟩
    refine ⟨σ, ?_, rfl, rfl, hC, rfl, rfl⟩
    rw [fX0_clearCells_L8, if_neg (fun q => absurd ((nI_leI (by omega) (by omega)).mp q) (by omega)), nI_mul, if_pos ((nI_leI (by omega) (by omega)).mpr (by omega))]; rfl
  | succ k ih =>
    intro i n' g σ hi hn' hai hg hV hC hs
    obtain ⟨n', rfl⟩ : ∃ m, n' = m + 1 := ⟨n' - 1, by omega⟩
    have i24 : i < 24 := by omega
    have step : clL f z a e (k + 1) i (σ.1 0) (σ.1 2) g = if aw z a e i then (if σ.1 2 (24 * f + i) = nN then clL f z a e k (i + 1) (σ.1 0) (σ.1 2) g else clL f z a e k (i + 1) (σ.1 0) (upd (σ.1 2) (24 * f + i) nN) (g + 1)) else clL f z a e k (i + 1) (if σ.1 2 (24 * f + i) = nN then σ.1 0 else zr a e i (σ.1 2 (24 * f + i)).toNatClampNeg (σ.1 0)) (σ.1 2) g := rfl
    rw [fX0_clearCells_L8, if_neg (fun q => absurd ((nI_leI (by omega) (by omega)).mp q) (by omega)), nI_mul, if_neg (fun q => absurd ((nI_leI (by omega) (by omega)).mp q) (by omega)), X0_isAllIn_y hf (by omega) (by omega) he hz hs, bd_e, step]
    cases hw : aw z a e i with
    | false =>
      rw [bI_f, i00, if_neg (by simp), mx_n (by omega) (by omega), nI_add, nI_mul, mn_n (by omega) (by omega)]
      obtain ⟨s1, e1, c1, a1, i1⟩ := X0_setCells_L (e := min e ((i + 1) * 4)) hf (by omega) (nI 0) (min e ((i + 1) * 4) - max a (i * 4)) (max a (i * 4)) FU σ (by omega) (by rw [FU_v]; omega) hV
      have e1' : fX0_setCells (nI f) (nI (max a (i * 4))) (nI (min e ((i + 1) * 4))) (nI 0) σ = some (nI 0, s1) := e1
      rw [st_zr (hV (24 * f + i) (by omega)) (by omega) (by omega) (by omega) hae] at c1
      obtain ⟨σ', e2, r2⟩ := ih (i + 1) n' g s1 (by omega) (by omega) (by omega) (by omega) (by rw [a1 2 (by decide)]; exact hV) (by rw [a1 1 (by decide), a1 2 (by decide)]; exact hC) (by rw [a1 3 (by decide)]; exact hs)
      rw [c1, a1 2 (by decide)] at e2 r2
      rw [e1', bd_e]
      refine ⟨σ', e2, r2.1, r2.2.1, r2.2.2.1, r2.2.2.2.1.trans (a1 3 (by decide)), r2.2.2.2.2.trans i1⟩
    | true =>
      rw [bI_t, i10, if_pos rfl, X0_blockAt_y hf i24, bd_e]
      rcases hV (24 * f + i) (by omega) with h | ⟨b, hb, h⟩
      · rw [if_pos h, h, X0_isBlock_N, bs_e, i00, nI_add]
        exact ih (i + 1) n' g σ (by omega) (by omega) (by omega) (by omega) hV hC hs
      · rw [if_neg (by rw [h, nI_nN (by omega)]; exact not_false), h, X0_isBlock_y hb, bs_e, i10]
        obtain ⟨s1, e1, b1, f1, g1, -⟩ := X0_putBlock hV hf i24 (Or.inl rfl : Vb nN)
        have hC1 : CO (s1.1 1) (s1.1 2) := CG_0.mp (g1 _ (fun _ => by omega) (CG_0.mpr hC))
        obtain ⟨σ', e2, r2⟩ := ih (i + 1) n' (g + 1) s1 (by omega) (by omega) (by omega) (by omega) (by rw [b1]; exact BV_upd hV (Or.inl rfl) _) hC1 (by rw [f1.2.1]; exact hs)
        rw [f1.1, b1] at e2 r2
        rw [e1, bd_e, nI_add, nI_add]
        exact ⟨σ', e2, r2.1, r2.2.1, r2.2.2.1, r2.2.2.2.1.trans f1.2.1, r2.2.2.2.2.trans f1.2.2.2.2⟩
/-! the second object -/
theorem X1_clears_L {p a e b at0 : Nat} (hp : p < 24) (ha : a ≤ 96) (he : e ≤ 96) (he1 : 1 ≤ e) (hb : b < 48) (hat : at0 < 96) : ∀ (k c n' : Nat) (τ : SX), c + k = 4 → k < n' → τ.1 2 at0 = nI b → ∃ τ', fX1_clears_L73 n' (nI p) (nI a) (nI e) (nI at0) (nI c) τ = some (nI 0, τ') ∧ (τ'.1 0 = fun x => if 4 * b + c ≤ x ∧ x < 4 * b + 4 ∧ a ≤ 4 * p + (x - 4 * b) ∧ 4 * p + (x - 4 * b) < e then nI 0 else τ.1 0 x) ∧ (∀ t, t ≠ 0 → τ'.1 t = τ.1 t) ∧ τ'.2 = τ.2 := by
  intro k
  induction k with
  | zero =>
    intro c n' τ hc hn' h
    obtain ⟨n', rfl⟩ : ∃ m, n' = m + 1 := ⟨n' - 1, by omega⟩
    refine ⟨τ, by rw [fX1_clears_L73, if_pos ((nI_leI (by omega) (by omega)).mpr (by omega))], ?_, fun _ _ => rfl, rfl⟩
    funext x
    rw [if_neg (by omega)]
  | succ k ih =>
    intro c n' τ hc hn' h
    obtain ⟨n', rfl⟩ : ∃ m, n' = m + 1 := ⟨n' - 1, by omega⟩
    rw [fX1_clears_L73, if_neg (fun q => absurd ((nI_leI (by omega) (by omega)).mp q) (by omega)), nI_mul, nI_add, nI_sub (by omega), nI_cl (by omega), h]
    by_cases g : a ≤ 4 * p + c ∧ 4 * p + c < e
    · rw [X1_within_y g.1 (by omega) (by omega), bs_e, gD_n hat (by omega), i10]
      simp (disch := omega) only [nI_mul, nI_add, gD_n, nI_cl]
      obtain ⟨τ', e1, c1, a1, i1⟩ := ih (c + 1) n' (sa τ 0 (4 * b + c) (nI 0)) (by omega) (by omega) h
      refine ⟨τ', e1, ?_, fun t ht => (a1 t ht).trans (sa_1n _ _ _ _ ht), i1⟩
      rw [c1]
      funext x
      rw [sa_1e]
      by_cases q : x = 4 * b + c
      · subst q; rw [upd_e, if_neg (by omega), if_pos (by omega)]
      · rw [upd_n _ _ _ q]
        by_cases q2 : 4 * b + (c + 1) ≤ x ∧ x < 4 * b + 4 ∧ a ≤ 4 * p + (x - 4 * b) ∧ 4 * p + (x - 4 * b) < e
        · rw [if_pos q2, if_pos (by omega)]
        · rw [if_neg q2, if_neg (by omega)]
    · rw [X1_within_n (by omega) (by omega) (by omega) (by omega), bs_e, gD_n hat (by omega), i00, gD_n hat (by omega)]
      simp (disch := omega) only [nI_mul, nI_add, gD_n, nI_cl]
      obtain ⟨τ', e1, c1, a1, i1⟩ := ih (c + 1) n' (sa τ 0 (4 * b + c) (τ.1 0 (4 * b + c))) (by omega) (by omega) h
      refine ⟨τ', e1, ?_, fun t ht => (a1 t ht).trans (sa_1n _ _ _ _ ht), i1⟩
      rw [c1]
      funext x
      rw [sa_1e, upd_self]
      by_cases q2 : 4 * b + (c + 1) ≤ x ∧ x < 4 * b + 4 ∧ a ≤ 4 * p + (x - 4 * b) ∧ 4 * p + (x - 4 * b) < e
      · rw [if_pos q2, if_pos (by omega)]
      · rw [if_neg q2, if_neg (by omega)]
def CM (τ τ' : SX) (q : (Nat → Int32) × (Nat → Int32) × Nat) : Prop := τ'.1 0 = q.1 ∧ τ'.1 2 = q.2.1 ∧ τ'.2 9 = nI q.2.2 ∧ τ'.1 1 = τ.1 1 ∧ ∀ k, k ≠ 9 → τ'.2 k = τ.2 k
theorem X1_clear_L {f a e z : Nat} (hf : f < 4) (he : e ≤ 96) (hae : a < e) (hz : z ≤ 96) : ∀ (k i n' g : Nat) (τ : SX), i + k = (e + 3) / 4 → k < n' → a / 4 ≤ i → g ≤ i → BV (τ.1 2) → τ.1 1 f = nI z → τ.2 9 = nI g → ∃ τ', fX1_punches_L64 n' (nI f) (nI a) (nI e) (nI i) τ = some (nI 1, τ') ∧ CM τ τ' (clL f z a e k i (τ.1 0) (τ.1 2) g) := by
  intro k
  induction k with
  | zero =>
    intro i n' g τ hi hn' hai hg hV hs hp
    obtain ⟨n', rfl⟩ : ∃ m, n' = m + 1 := ⟨n' - 1, by omega⟩
    refine ⟨τ, ?_, rfl, rfl, hp, rfl, fun _ _ => rfl⟩
    rw [fX1_punches_L64, nI_mul, if_pos ((nI_leI (by omega) (by omega)).mpr (by omega))]
  | succ k ih =>
    intro i n' g τ hi hn' hai hg hV hs hp
    obtain ⟨n', rfl⟩ : ∃ m, n' = m + 1 := ⟨n' - 1, by omega⟩
    have i24 : i < 24 := by omega
    have h96 : 24 * f + i < 96 := by omega
    have step : clL f z a e (k + 1) i (τ.1 0) (τ.1 2) g = if aw z a e i then (if τ.1 2 (24 * f + i) = nN then clL f z a e k (i + 1) (τ.1 0) (τ.1 2) g else clL f z a e k (i + 1) (τ.1 0) (upd (τ.1 2) (24 * f + i) nN) (g + 1)) else clL f z a e k (i + 1) (if τ.1 2 (24 * f + i) = nN then τ.1 0 else zr a e i (τ.1 2 (24 * f + i)).toNatClampNeg (τ.1 0)) (τ.1 2) g := rfl
    rw [fX1_punches_L64, nI_mul, if_neg (fun q => absurd ((nI_leI (by omega) (by omega)).mp q) (by omega)), step, nI_add]
    have hcl : ∃ t1, fX1_clears (nI f) (nI i) (nI a) (nI e) τ = some (nI 0, t1) ∧ t1.1 0 = (if aw z a e i then τ.1 0 else (if τ.1 2 (24 * f + i) = nN then τ.1 0 else zr a e i (τ.1 2 (24 * f + i)).toNatClampNeg (τ.1 0))) ∧ t1.1 2 = (if aw z a e i then (if τ.1 2 (24 * f + i) = nN then τ.1 2 else upd (τ.1 2) (24 * f + i) nN) else τ.1 2) ∧ t1.2 9 = nI (if aw z a e i then (if τ.1 2 (24 * f + i) = nN then g else g + 1) else g) ∧ t1.1 1 = τ.1 1 ∧ ∀ k, k ≠ 9 → t1.2 k = τ.2 k := by
      unfold fX1_clears
      rw [X1_isWhole_y hf (by omega) (by omega) he hz hs, bd_e, nI_mul, nI_add, gD_n h96 (by omega), nI_cl (by omega), gD_n h96 (by omega), gD_n h96 (by omega), gD_n h96 (by omega)]
      cases hw : aw z a e i with
      | false =>
        rw [bI_f, i00]
        simp only [Bool.false_eq_true, if_false]
        rcases hV (24 * f + i) h96 with h | ⟨b, hb, h⟩
        · rw [if_pos h, if_pos h]
          exact ⟨τ, rfl, rfl, rfl, hp, rfl, fun _ _ => rfl⟩
        · have e0 : (nI b = nN) = False := nI_nN (by omega)
          rw [h]
          simp only [e0, if_false]
          obtain ⟨t1, e1, c1, a1, i1⟩ := X1_clears_L (p := i) (a := a) (e := e) i24 (by omega) he (by omega) hb h96 4 0 FU τ (by omega) (by rw [FU_v]; omega) h
          refine ⟨t1, e1, ?_, a1 2 (by decide), by rw [i1]; exact hp, a1 1 (by decide), fun k _ => by rw [i1]⟩
          rw [c1, nI_cl (by omega)]; rfl
      | true =>
        rw [bI_t, i10, hp, nI_add, nI_add]
        simp only [if_true]
        rcases hV (24 * f + i) h96 with h | ⟨b, hb, h⟩
        · rw [if_pos h]
          refine ⟨sa (sf τ 9 (nI (g + 0))) 2 (24 * f + i) nN, rfl, rfl, ?_, ?_, rfl, fun k hk => sf_2n _ _ _ hk⟩
          · rw [if_pos h, sa_1e, sf_1, ← h, upd_self]
          · rw [if_pos h]; rfl
        · have e0 : ¬ τ.1 2 (24 * f + i) = nN := by rw [h, nI_nN (by omega)]; exact not_false
          rw [if_neg e0]
          refine ⟨sa (sf τ 9 (nI (g + 1))) 2 (24 * f + i) nN, rfl, rfl, ?_, ?_, rfl, fun k hk => sf_2n _ _ _ hk⟩
          · rw [if_neg e0]; rfl
          · rw [if_neg e0]; rfl
    obtain ⟨t1, e1, c1, b1, p1, s1, i1⟩ := hcl
    have hV1 : BV (t1.1 2) := by
      rw [b1]
      by_cases h1 : aw z a e i = true
      · rw [if_pos h1]
        by_cases h2 : τ.1 2 (24 * f + i) = nN
        · rw [if_pos h2]; exact hV
        · rw [if_neg h2]; exact BV_upd hV (Or.inl rfl) _
      · rw [if_neg h1]; exact hV
    obtain ⟨τ', e2, r2⟩ := ih (i + 1) n' _ t1 (by omega) (by omega) (by omega) (by
      by_cases h1 : aw z a e i = true
      · rw [if_pos h1]
        by_cases h2 : τ.1 2 (24 * f + i) = nN
        · rw [if_pos h2]; omega
        · rw [if_neg h2]; omega
      · rw [if_neg h1]; omega) hV1 (by rw [s1]; exact hs) p1
    refine ⟨τ', by rw [e1, bd_e]; exact e2, ?_⟩
    rw [c1, b1] at r2
    by_cases h1 : aw z a e i = true
    · rw [if_pos h1, if_pos h1, if_pos h1] at r2
      rw [if_pos h1]
      by_cases h2 : τ.1 2 (24 * f + i) = nN
      · rw [if_pos h2, if_pos h2] at r2
        rw [if_pos h2]
        exact ⟨r2.1, r2.2.1, r2.2.2.1, r2.2.2.2.1.trans s1, fun k hk => (r2.2.2.2.2 k hk).trans (i1 k hk)⟩
      · rw [if_neg h2, if_neg h2] at r2
        rw [if_neg h2]
        exact ⟨r2.1, r2.2.1, r2.2.2.1, r2.2.2.2.1.trans s1, fun k hk => (r2.2.2.2.2 k hk).trans (i1 k hk)⟩
    · rw [if_neg h1, if_neg h1, if_neg h1] at r2
      rw [if_neg h1]
      exact ⟨r2.1, r2.2.1, r2.2.2.1, r2.2.2.2.1.trans s1, fun k hk => (r2.2.2.2.2 k hk).trans (i1 k hk)⟩
theorem X1_punches_L {f a e z : Nat} (hf : f < 4) (he : e ≤ 96) (hae : a < e) (hz : z ≤ 96) : ∀ (k i n' : Nat) (τ : SX) (L : List Nat), i + k = (e + 3) / 4 → k < n' → L.length ≤ i → BV (τ.1 2) → τ.1 1 f = nI z → HW τ L → ∃ τ', fX1_punches_L15 n' (nI f) (nI a) (nI e) (nI i) τ = (bd (fX1_owns (nI f) τ') fun r1 s1 => (if r1 = nI 0 then some ((nI 0), s1) else fX1_punches_L64 FU (nI f) (nI a) (nI e) (nI (a / 4)) s1)) ∧ FrW τ τ' ∧ HW τ' (L ++ ndl (fun p => !aw z a e p && nd (τ.1 2) f false p) k i) := by
  intro k
  induction k with
  | zero =>
    intro i n' τ L hi hn' hL hV hs hH
    obtain ⟨n', rfl⟩ : ∃ m, n' = m + 1 := ⟨n' - 1, by omega⟩
    refine ⟨τ, ?_, FrW.rf τ, ?_⟩
    · rw [fX1_punches_L15, nI_mul, if_pos ((nI_leI (by omega) (by omega)).mpr (by omega)), nI_div (by omega) (by omega)]
    · rw [show ndl (fun p => !aw z a e p && nd (τ.1 2) f false p) 0 i = [] from rfl, List.append_nil]; exact hH
  | succ k ih =>
    intro i n' τ L hi hn' hL hV hs hH
    obtain ⟨n', rfl⟩ : ∃ m, n' = m + 1 := ⟨n' - 1, by omega⟩
    have i24 : i < 24 := by omega
    rw [fX1_punches_L15, nI_mul, if_neg (fun q => absurd ((nI_leI (by omega) (by omega)).mp q) (by omega)), X1_isWhole_y hf (by omega) (by omega) he hz hs]
    simp only [bd_e]
    cases hw : aw z a e i with
    | false =>
      rw [bI_f, i00]
      obtain ⟨s1, e1, f1, h1⟩ := X1_wants_y hf i24 false hV (by omega) hH
      rw [bI_f] at e1
      have hl1 : (if nd (τ.1 2) f false i then L ++ [i] else L).length ≤ i + 1 := by
        by_cases h : nd (τ.1 2) f false i = true
        · rw [if_pos h, List.length_append]; simp; omega
        · rw [if_neg h]; omega
      obtain ⟨τ', e2, f2, h2⟩ := ih (i + 1) n' s1 _ (by omega) (by omega) hl1 (by rw [f1.2.2.1]; exact hV) (by rw [f1.2.1]; exact hs) h1
      refine ⟨τ', ?_, f1.tr f2, ?_⟩
      · rw [e1, bd_e, nI_add]; exact e2
      · rw [f1.2.2.1] at h2
        by_cases h : nd (τ.1 2) f false i = true
        · rw [if_pos h, List.append_assoc] at h2
          rw [ndl_t (by simp [hw, h])]; exact h2
        · rw [if_neg h] at h2
          rw [ndl_f (by simp [hw, h])]; exact h2
    | true =>
      rw [bI_t, i10]
      obtain ⟨τ', e2, f2, h2⟩ := ih (i + 1) n' τ L (by omega) (by omega) (by omega) hV hs hH
      refine ⟨τ', by rw [nI_add]; exact e2, f2, ?_⟩
      rw [ndl_f (by simp [hw])]; exact h2
/-- punching, both objects: the range from a to e, below the size -/
theorem punch_both {σ τ : SX} {ce bl si i : Nat → Int32} (hx : RX σ ce bl si i) (hm : RM τ ce bl si i) (hV : BV bl) {f a e z : Nat} (hf : f < 4) (he : e ≤ 96) (hae : a < e) (hz : z ≤ 96) (ez : si f = nI z) :
    (∃ s3 t5, fX0_chooseCutThrough (nI f) (nI a) (nI e) σ = some (nI 0, s3) ∧ fX0_isSpent s3 = some (nI 1, s3) ∧ fX1_punches (nI f) (nI a) (nI e) τ = some (nI 0, t5) ∧ RX s3 ce bl si i ∧ RM t5 ce bl si i) ∨
    (∃ s3 s5 s6 t6 ce' bl' g, fX0_chooseCutThrough (nI f) (nI a) (nI e) σ = some (nI 0, s3) ∧ fX0_isSpent s3 = some (nI 0, s3) ∧ fX0_ownNeedy (nI f) s3 = some (nI 0, s5) ∧ fX0_clearCells (nI f) (nI a) (nI e) s5 = some (nI g, s6) ∧ fX1_punches (nI f) (nI a) (nI e) τ = some (nI 1, t6) ∧ t6.2 9 = nI g ∧ RX s6 ce' bl' si i ∧ RM t6 ce' bl' si i ∧ BV bl') := by
  have hV0 : BV (σ.1 2) := by rw [hx.2.1]; exact hV
  have hC0 : CO (σ.1 1) (σ.1 2) := by rw [hx.2.1]; exact hx.2.2.2.1
  obtain ⟨s3, e3, f3, n3⟩ := X0_chooseCut_y (σ := σ) (a := a) (e := e) hf he (by omega) hz hV0 hC0 (by rw [hx.2.2.1]; exact ez)
  rw [if_pos hae, hx.2.1] at n3
  have hx3 := hx.frN f3
  have hV3 : BV (s3.1 2) := by rw [hx3.2.1]; exact hV
  have hC3 : CO (s3.1 1) (s3.1 2) := by rw [hx3.2.1]; exact hx3.2.2.2.1
  obtain ⟨u1, u2⟩ := ndl_24 (P := fun p => !aw z a e p && nd bl f false p) (k := (e + 3) / 4 - a / 4) (i := a / 4) (by omega)
  have hsp := X0_isSpent_y u2 n3 hC3
  rw [hx3.2.1] at hsp
  obtain ⟨t1, v1, w1, n1⟩ := X1_punches_L (z := z) hf he hae hz ((e + 3) / 4 - a / 4) (a / 4) FU (sf (sf τ 9 (nI 0)) 7 (nI 0)) [] (by omega) (by rw [FU_v]; omega) (by simp) (by rw [sf_1, sf_1, hm.2.1]; exact hV) (by rw [sf_1, sf_1, hm.2.2.1]; exact ez) ⟨pfx_nil _ _, rfl⟩
  rw [sf_1, sf_1, hm.2.1, List.nil_append] at n1
  have bm : t1.1 2 = bl := w1.2.2.1.trans hm.2.1
  have wi : ∀ k, k ≠ 7 → k ≠ 9 → t1.2 k = τ.2 k := fun k h7 h9 => (w1.2.2.2 k h7).trans ((sf_2n _ _ _ h7).trans (sf_2n _ _ _ h9))
  have w9 : t1.2 9 = nI 0 := w1.2.2.2 9 (by omega)
  obtain ⟨g1, g2⟩ := X1_owns_y (τ := t1) hf u1 u2 n1 (by rw [bm]; exact hV)
  rw [bm] at g1 g2
  have hpu : fX1_punches (nI f) (nI a) (nI e) τ = (bd (fX1_owns (nI f) t1) fun r1 s1 => (if r1 = nI 0 then some ((nI 0), s1) else fX1_punches_L64 FU (nI f) (nI a) (nI e) (nI (a / 4)) s1)) := by
    rw [← v1, fX1_punches, nI_div (by omega) (by omega)]
  generalize hNd : ndl (fun p => !aw z a e p && nd bl f false p) ((e + 3) / 4 - a / 4) (a / 4) = N at *
  by_cases hs : N.length ≤ cntP (fun b => decide (Cc bl b = 0)) 48
  · right
    rw [if_pos hs] at hsp
    obtain ⟨s5, e5, c5, b5, o5, z5, i5⟩ := X0_ownNeedy_y (σ := s3) hf u1 u2 n3 hV3 hC3 (by rw [hx3.2.1]; exact hs)
    obtain ⟨t5, d5, k5, l5, y5, j5⟩ := g1 hs
    rw [hx3.2.1, hx3.1] at c5 b5
    have hk : t1.1 0 = ce := w1.1.trans hm.1
    rw [hk] at k5 l5
    have hVn : BV (gvL f N (gl 24 (fun b => decide (Cc bl b = 0)) N.length) ce bl).2 := gvL_BV _ _ _ _ (gl_ok 24 _ _ u2 hs).2 hV
    generalize hgv : gvL f N (gl 24 (fun b => decide (Cc bl b = 0)) N.length) ce bl = gv at *
    obtain ⟨s6, e6, r6⟩ := X0_clear_L (z := z) hf he hae hz ((e + 3) / 4 - a / 4) (a / 4) FU 0 s5 (by omega) (by rw [FU_v]; omega) (Nat.le_refl _) (by omega) (by rw [b5]; exact hVn) o5 (by rw [z5, hx3.2.2.1]; exact ez)
    obtain ⟨t6, d6, q6⟩ := X1_clear_L (z := z) hf he hae hz ((e + 3) / 4 - a / 4) (a / 4) FU 0 t5 (by omega) (by rw [FU_v]; omega) (Nat.le_refl _) (by omega) (by rw [l5]; exact hVn) (by rw [y5, w1.2.1]; exact (by rw [sf_1, sf_1, hm.2.2.1]; exact ez)) ((j5 9 (by omega)).trans w9)
    rw [c5, b5] at e6 r6
    rw [k5, l5] at q6
    have hVc : BV (clL f z a e ((e + 3) / 4 - a / 4) (a / 4) gv.1 gv.2 0).2.1 := clL_BV _ _ _ _ _ hVn
    generalize hcl : clL f z a e ((e + 3) / 4 - a / 4) (a / 4) gv.1 gv.2 0 = cl at *
    refine ⟨s3, s5, s6, t6, cl.1, cl.2.1, cl.2.2, e3, hsp, e5, ?_, ?_, q6.2.2.1, ?_, ?_, hVc⟩
    · rw [fX0_clearCells, nI_div (by omega) (by omega)]; exact e6
    · rw [hpu, d5, bd_e, i10]; exact d6
    · refine ⟨r6.1, r6.2.1, r6.2.2.2.1.trans (z5.trans hx3.2.2.1), r6.2.2.1, fun k hk => ?_⟩
      rw [r6.2.2.2.2]
      exact (i5 k (by omega)).trans (hx3.2.2.2.2 k hk)
    · exact hm.of q6.1 q6.2.1 (q6.2.2.2.1.trans (y5.trans (w1.2.1.trans hm.2.2.1))) (fun k hk => (q6.2.2.2.2 k (by omega)).trans ((j5 k (by omega)).trans (wi k (by omega) (by omega))))
  · left
    rw [if_neg hs] at hsp
    obtain ⟨t5, d5, j5⟩ := g2 hs
    refine ⟨s3, t5, e3, hsp, ?_, hx3, ?_⟩
    · rw [hpu, d5, bd_e, i00]
    · exact hm.of (j5.1.trans (w1.1.trans hm.1)) (j5.2.2.1.trans bm) (j5.2.1.trans (w1.2.1.trans hm.2.2.1)) (fun k hk => (j5.2.2.2.2 k (by omega)).trans (wi k (by omega) (by omega)))
/-- an empty range: the first object does nothing -/
theorem punch_none {σ : SX} {ce bl si i : Nat → Int32} (hx : RX σ ce bl si i) (hV : BV bl) {f a e z : Nat} (hf : f < 4) (he : e ≤ 96) (ha : a ≤ 96) (hae : ¬ a < e) (hz : z ≤ 96) (ez : si f = nI z) : ∃ s3 s5, fX0_chooseCutThrough (nI f) (nI a) (nI e) σ = some (nI 0, s3) ∧ fX0_isSpent s3 = some (nI 0, s3) ∧ fX0_ownNeedy (nI f) s3 = some (nI 0, s5) ∧ fX0_clearCells (nI f) (nI a) (nI e) s5 = some (nI 0, s5) ∧ RX s5 ce bl si i := by
  have hV0 : BV (σ.1 2) := by rw [hx.2.1]; exact hV
  have hC0 : CO (σ.1 1) (σ.1 2) := by rw [hx.2.1]; exact hx.2.2.2.1
  obtain ⟨s3, e3, f3, n3⟩ := X0_chooseCut_y (σ := σ) (a := a) (e := e) hf he (by omega) hz hV0 hC0 (by rw [hx.2.2.1]; exact ez)
  rw [if_neg hae] at n3
  have hx3 := hx.frN f3
  have hV3 : BV (s3.1 2) := by rw [hx3.2.1]; exact hV
  have hC3 : CO (s3.1 1) (s3.1 2) := by rw [hx3.2.1]; exact hx3.2.2.2.1
  have hsp := X0_isSpent_y (N := []) (by simp) n3 hC3
  rw [if_pos (by simp)] at hsp
  obtain ⟨s5, e5, c5, b5, o5, z5, i5⟩ := X0_ownNeedy_y (σ := s3) (N := []) hf (fun x hx => by cases hx) (by simp) n3 hV3 hC3 (by simp)
  refine ⟨s3, s5, e3, hsp, e5, ?_, ?_⟩
  · rw [fX0_clearCells, FU_v, fX0_clearCells_L8, if_pos ((nI_leI (by omega) (by omega)).mpr (by omega))]
  · refine ⟨c5.trans hx3.1, b5.trans hx3.2.1, z5.trans hx3.2.2.1, ?_, fun k hk => (i5 k (by omega)).trans (hx3.2.2.2.2 k hk)⟩
    have hb : s5.1 2 = bl := b5.trans hx3.2.1
    rw [hb] at o5; exact o5
theorem T_cut {σ τ : SX} (h : IV σ τ) (a b : Int32) : ∃ r σ' τ', fX0_cut a b σ = some (r, σ') ∧ fX1_cut a b τ = some (r, τ') ∧ IV σ' τ' := by
  have h0 := h
  obtain ⟨ce, bl, si, i, hx, hm, hV, hS, hfa, hdn⟩ := h
  have e9 : σ.2 9 = i 9 := hx.2.2.2.2 9 (by omega)
  have m9 : τ.2 3 = i 9 := hm.2.2.2.2.1
  unfold fX0_cut fX1_cut
  rw [e9, m9]
  rcases nI_or a 4 (by omega) with ⟨f, hf, rfl⟩ | ha
  · rw [X0_isFile_y hf, X1_isFile_y hf, bs_e, bs_e, i10, i10]
    rcases nI_or b 97 (by omega) with ⟨s, hs, rfl⟩ | hb
    · rw [if_neg (by rw [nI_nn (by omega)]; exact not_false), if_pos ((nI_leI (by omega) (by omega)).mpr (by omega)), X1_within_y (by omega) (by omega) (by omega), bs_e, i10]
      by_cases hd : i 9 = nI 0
      · obtain ⟨z, hz, ez⟩ := hS f hf
        rw [if_pos hd, if_pos hd, X0_sizeOf_y hf, bd_e, hx.2.2.1, ez, gD_n hf (by omega), nI_cl (by omega), hm.2.2.1, ez]
        simp (disch := omega) only [nI_leI]
        by_cases hsz : z ≤ s
        · rw [if_pos hsz, gD_n hf (by omega)]
          obtain ⟨s3, s5, u1, u2, u3, u4, u5⟩ := punch_none hx hV (a := s) (e := z) hf hz (by omega) (by omega) hz ez
          rw [u1, bd_e, u2, bd_e, i00, u3, bd_e, u4, bd_e, X0_setSize_y hf, bd_e]
          refine ⟨_, _, _, rfl, rfl, ce, bl, upd si f (nI s), i, ?_, ?_, hV, SV_upd hS (by omega) f, hfa, hdn⟩
          · exact ⟨u5.1, u5.2.1, by rw [sa_1e, u5.2.2.1], u5.2.2.2.1, u5.2.2.2.2⟩
          · exact hm.of hm.1 hm.2.1 (by rw [sa_1e, hm.2.2.1]) (fun _ _ => rfl)
        · rw [if_neg hsz]
          rcases punch_both hx hm hV (a := s) (e := z) hf hz (by omega) hz ez with ⟨s3, t5, u1, u2, u3, u4, u5⟩ | ⟨s3, s5, s6, t6, ce', bl', g, u1, u2, u3, u4, u5, u6, u7, u8, u9⟩
          · rw [u1, bd_e, u2, bd_e, i10, u3, bd_e, i00]
            exact ⟨_, _, _, rfl, rfl, ce, bl, si, i, u4, u5, hV, hS, hfa, hdn⟩
          · rw [u1, bd_e, u2, bd_e, i00, u3, bd_e, u4, bd_e, X0_setSize_y hf, bd_e, u5, bd_e, i10, gD_n hf (by omega)]
            refine ⟨_, _, _, rfl, rfl, ce', bl', upd si f (nI s), i, ?_, ?_, u9, SV_upd hS (by omega) f, hfa, hdn⟩
            · exact ⟨u7.1, u7.2.1, by rw [sa_1e, u7.2.2.1], u7.2.2.2.1, u7.2.2.2.2⟩
            · exact u8.of u8.1 u8.2.1 (by rw [sa_1e, u8.2.2.1]) (fun _ _ => rfl)
      · rw [if_neg hd, if_neg hd]
        exact ⟨_, _, _, rfl, rfl, h0⟩
    · rw [X1_within_o rfl hb (by omega) (by omega), bs_e, i00]
      by_cases hd : b < nI 0
      · rw [if_pos hd]; exact ⟨_, _, _, rfl, rfl, h0⟩
      · rw [if_neg hd, if_neg (Int32.not_le.mpr (lt_of_le1 (by omega) (hb.resolve_left hd)))]
        exact ⟨_, _, _, rfl, rfl, h0⟩
  · rw [X0_isFile_n ha, X1_isFile_n ha]
    exact ⟨_, _, _, rfl, rfl, h0⟩
theorem T_punch {σ τ : SX} (h : IV σ τ) (a b c : Int32) : ∃ r σ' τ', fX0_punch a b c σ = some (r, σ') ∧ fX1_punch a b c τ = some (r, τ') ∧ IV σ' τ' := by
  have h0 := h
  obtain ⟨ce, bl, si, i, hx, hm, hV, hS, hfa, hdn⟩ := h
  have e9 : σ.2 9 = i 9 := hx.2.2.2.2 9 (by omega)
  have m9 : τ.2 3 = i 9 := hm.2.2.2.2.1
  unfold fX0_punch fX1_punch
  rw [e9, m9]
  rcases nI_or a 4 (by omega) with ⟨f, hf, rfl⟩ | ha
  · rw [X0_isFile_y hf, X1_isFile_y hf, bs_e, bs_e, i10, i10]
    rcases cel_or b c with ⟨at0, n, h1, h2, rfl, rfl⟩ | ⟨q1, q2⟩
    · rw [X0_isCellRange_y h1 h2, X1_within_y (by omega) (by omega) (by omega), bs_e, bs_e, i10, i10, nI_sub (by omega : at0 ≤ 96), X1_within_y (by omega) (by omega) (by omega), bs_e, i10]
      by_cases hd : i 9 = nI 0
      · obtain ⟨z, hz, ez⟩ := hS f hf
        rw [if_pos hd, if_pos hd, X0_sizeOf_y hf, bd_e, hx.2.2.1, ez, nI_add, mn_n (by omega) (by omega), gD_n hf (by omega), nI_cl (by omega), hm.2.2.1, ez, gD_n hf (by omega)]
        have hmm : (if nI z ≤ nI (at0 + n) then (if nI at0 < nI z then bd (fX1_punches (nI f) (nI at0) (nI z) τ) fun r4 s4 => (if r4 = nI 0 then some ((-6), s4) else some ((s4.2 9), s4)) else some ((nI 0), τ)) else if nI at0 < nI (at0 + n) then bd (fX1_punches (nI f) (nI at0) (nI (at0 + n)) τ) fun r5 s5 => (if r5 = nI 0 then some ((-6), s5) else some ((s5.2 9), s5)) else some ((nI 0), τ)) = (if at0 < min (at0 + n) z then bd (fX1_punches (nI f) (nI at0) (nI (min (at0 + n) z)) τ) fun r4 s4 => (if r4 = nI 0 then some ((-6), s4) else some ((s4.2 9), s4)) else some ((nI 0), τ)) := by
          simp (disch := omega) only [nI_leI, nI_ltI]
          by_cases g : z ≤ at0 + n
          · rw [if_pos g, show min (at0 + n) z = z by omega]
          · rw [if_neg g, show min (at0 + n) z = at0 + n by omega]
        rw [hmm]
        by_cases hae : at0 < min (at0 + n) z
        · rw [if_pos hae]
          rcases punch_both hx hm hV (a := at0) (e := min (at0 + n) z) hf (by omega) hae hz ez with ⟨s3, t5, u1, u2, u3, u4, u5⟩ | ⟨s3, s5, s6, t6, ce', bl', g, u1, u2, u3, u4, u5, u6, u7, u8, u9⟩
          · rw [u1, bd_e, u2, bd_e, i10, u3, bd_e, i00]
            exact ⟨_, _, _, rfl, rfl, ce, bl, si, i, u4, u5, hV, hS, hfa, hdn⟩
          · rw [u1, bd_e, u2, bd_e, i00, u3, bd_e, u4, bd_e, u5, bd_e, i10, u6]
            exact ⟨_, _, _, rfl, rfl, ce', bl', si, i, u7, u8, u9, hS, hfa, hdn⟩
        · rw [if_neg hae]
          obtain ⟨s3, s5, u1, u2, u3, u4, u5⟩ := punch_none hx hV (a := at0) (e := min (at0 + n) z) hf (by omega) (by omega) hae hz ez
          rw [u1, bd_e, u2, bd_e, i00, u3, bd_e, u4, bd_e]
          exact ⟨_, _, _, rfl, rfl, ce, bl, si, i, u5, hm, hV, hS, hfa, hdn⟩
      · rw [if_neg hd, if_neg hd]
        exact ⟨_, _, _, rfl, rfl, h0⟩
    · rw [q1, bs_e, i00]
      rcases q2 with q2 | ⟨q2, q3⟩
      · rw [q2, bs_e, i00]
        exact ⟨_, _, _, rfl, rfl, h0⟩
      · rw [q2, bs_e, i10, q3, bs_e, i00]
        exact ⟨_, _, _, rfl, rfl, h0⟩
  · rw [X0_isFile_n ha, X1_isFile_n ha]
    exact ⟨_, _, _, rfl, rfl, h0⟩
