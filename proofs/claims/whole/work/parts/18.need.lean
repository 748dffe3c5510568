/-! which places need a block -/
def ndl (P : Nat → Bool) : Nat → Nat → List Nat
  | 0, _ => []
  | k + 1, i => if P i then i :: ndl P k (i + 1) else ndl P k (i + 1)
theorem ndl_len (P : Nat → Bool) : ∀ k i, (ndl P k i).length ≤ k
  | 0, _ => Nat.le_refl 0
  | k + 1, i => by
    have h := ndl_len P k (i + 1)
    show (if P i then i :: ndl P k (i + 1) else ndl P k (i + 1)).length ≤ _
    by_cases h1 : P i = true
    · rw [if_pos h1, List.length_cons]; omega
    · rw [if_neg h1]; omega
theorem ndl_mem {P : Nat → Bool} : ∀ {k i x : Nat}, x ∈ ndl P k i → i ≤ x ∧ x < i + k ∧ P x = true
  | 0, i, x, h => by cases h
  | k + 1, i, x, h => by
    have h : x ∈ (if P i then i :: ndl P k (i + 1) else ndl P k (i + 1)) := h
    by_cases h1 : P i = true
    · rw [if_pos h1] at h
      rcases List.mem_cons.mp h with rfl | h
      · exact ⟨Nat.le_refl _, by omega, h1⟩
      · obtain ⟨a, b, c⟩ := ndl_mem h; exact ⟨by omega, by omega, c⟩
    · rw [if_neg h1] at h
      obtain ⟨a, b, c⟩ := ndl_mem h; exact ⟨by omega, by omega, c⟩
theorem mem_ndl {P : Nat → Bool} : ∀ {k i x : Nat}, i ≤ x → x < i + k → P x = true → x ∈ ndl P k i
  | 0, i, x, h1, h2, _ => by omega
  | k + 1, i, x, h1, h2, h3 => by
    show x ∈ (if P i then i :: ndl P k (i + 1) else ndl P k (i + 1))
    by_cases e : x = i
    · subst e; rw [if_pos h3]; exact List.mem_cons_self
    · have := mem_ndl (k := k) (i := i + 1) (x := x) (by omega) (by omega) h3
      by_cases h : P i = true
      · rw [if_pos h]; exact List.mem_cons_of_mem _ this
      · rw [if_neg h]; exact this
theorem ndl_t {P : Nat → Bool} {k i : Nat} (h : P i = true) : ndl P (k + 1) i = i :: ndl P k (i + 1) := if_pos h
theorem ndl_f {P : Nat → Bool} {k i : Nat} (h : ¬ P i = true) : ndl P (k + 1) i = ndl P k (i + 1) := if_neg h
/-- an array holds a list from j on -/
def pfx (a : Nat → Int32) (j : Nat) (L : List Nat) : Prop := ∀ t, t < L.length → a (j + t) = nI (L.getD t 0)
theorem pfx_nil (a : Nat → Int32) (j : Nat) : pfx a j [] := fun t h => by cases h
theorem pfx_app {a : Nat → Int32} {j : Nat} {L : List Nat} {x : Nat} (h : pfx a j L) : pfx (upd a (j + L.length) (nI x)) j (L ++ [x]) := by
  intro t ht
  rw [List.length_append, List.length_cons, List.length_nil] at ht
  by_cases e : t = L.length
  · subst e
    rw [upd_e]
    simp [List.getD]
  · rw [upd_n _ _ _ (by omega), h t (by omega)]
    congr 1
    simp only [List.getD]
    rw [List.getElem?_append_left (by omega)]
theorem pfx_cons {a : Nat → Int32} {j x : Nat} {L : List Nat} (h : pfx a j (x :: L)) : a j = nI x ∧ pfx a (j + 1) L := by
  refine ⟨h 0 (by simp), fun t ht => ?_⟩
  have := h (t + 1) (by simpa using ht)
  rw [show j + 1 + t = j + (t + 1) by omega, this]
  rfl
/-- a place needs a block: its block is shared, or (where holes count) it is a hole -/
def nd (bl : Nat → Int32) (f : Nat) (ho : Bool) (p : Nat) : Bool := decide (2 ≤ cP (Cc bl) bl (24 * f + p)) || (ho && decide (bl (24 * f + p) = nN))
/-- the state with another list of needy places -/
def FrN (σ σ' : SX) : Prop := σ'.1 0 = σ.1 0 ∧ σ'.1 1 = σ.1 1 ∧ σ'.1 2 = σ.1 2 ∧ σ'.1 3 = σ.1 3 ∧ σ'.1 6 = σ.1 6 ∧ ∀ k, k ≠ 5 → σ'.2 k = σ.2 k
theorem FrN.rf (σ : SX) : FrN σ σ := ⟨rfl, rfl, rfl, rfl, rfl, fun _ _ => rfl⟩
theorem FrN.tr {σ σ' σ'' : SX} (h : FrN σ σ') (h2 : FrN σ' σ'') : FrN σ σ'' := ⟨h2.1.trans h.1, h2.2.1.trans h.2.1, h2.2.2.1.trans h.2.2.1, h2.2.2.2.1.trans h.2.2.2.1, h2.2.2.2.2.1.trans h.2.2.2.2.1, fun k hk => (h2.2.2.2.2.2 k hk).trans (h.2.2.2.2.2 k hk)⟩
def HN (σ : SX) (L : List Nat) : Prop := pfx (σ.1 4) 0 L ∧ σ.2 5 = nI L.length
theorem X0_addIfNeedy_y {σ : SX} {f p : Nat} (hf : f < 4) (hp : p < 24) (ho : Bool) (hV : BV (σ.1 2)) (hC : CO (σ.1 1) (σ.1 2)) {L : List Nat} (hL : L.length < 24) (hN : HN σ L) : ∃ σ', fX0_addIfNeedy (nI f) (nI p) (bI ho) σ = some (nI 0, σ') ∧ FrN σ σ' ∧ HN σ' (if nd (σ.1 2) f ho p then L ++ [p] else L) := by
  have good : HN (sf (sa σ 4 L.length (nI p)) 5 (nI (L.length + 1))) (L ++ [p]) := by
    refine ⟨?_, ?_⟩
    · have := pfx_app (x := p) hN.1
      rw [Nat.zero_add] at this
      exact this
    · rw [sf_2e, List.length_append]; rfl
  have e5 : (sa σ 4 L.length (nI p)).2 5 = nI L.length := hN.2
  have fr : FrN σ (sf (sa σ 4 L.length (nI p)) 5 (nI (L.length + 1))) := ⟨rfl, rfl, rfl, rfl, rfl, fun k hk => sf_2n _ _ _ hk⟩
  unfold fX0_addIfNeedy
  rw [X0_blockAt_y hf hp, bd_e]
  rcases hV (24 * f + p) (by omega) with h | ⟨b, hb, h⟩
  · rw [h, X0_isBlock_N, bs_e, i00]
    cases ho with
    | false =>
      rw [bI_f, i00]
      refine ⟨σ, rfl, FrN.rf σ, ?_⟩
      rw [if_neg (by simp [nd, cP_N h])]
      exact hN
    | true =>
      rw [bI_t, i10, hN.2, if_neg (fun q => absurd ((nI_leI (by omega) (by omega)).mp q) (by omega)), gD_n (by omega) (by omega), nI_cl (by omega), e5, nI_add]
      refine ⟨_, rfl, fr, ?_⟩
      rw [if_pos (by simp [nd, h])]
      exact good
  · have hcl := cB_le (σ.1 2) (nI b)
    rw [h, X0_isBlock_y hb, bs_e, i10, X0_countOf_y hb, bd_e, hC b hb]
    have e : (nI b = nN) = False := nI_nN (by omega)
    simp (disch := omega) only [nI_leI]
    by_cases h2 : cB (σ.1 2) (nI b) ≤ 1
    · rw [if_pos h2, if_pos trivial]
      refine ⟨σ, rfl, FrN.rf σ, ?_⟩
      rw [if_neg (by simp only [nd, cP_v hb h, h, e]; simp; omega)]
      exact hN
    · rw [if_neg h2, i10, hN.2]
      simp (disch := omega) only [nI_leI, if_neg, gD_n, nI_cl]
      rw [e5, nI_add]
      refine ⟨_, rfl, fr, ?_⟩
      rw [if_pos (by simp only [nd, cP_v hb h]; simp; omega)]
      exact good
theorem X0_chooseNeedy_L {f e : Nat} (hf : f < 4) (he : e < 24) (ho : Bool) : ∀ (k i n' : Nat) (σ : SX) (L : List Nat), i + k = e + 1 → k < n' → L.length ≤ i → BV (σ.1 2) → CO (σ.1 1) (σ.1 2) → HN σ L → ∃ σ', fX0_chooseNeedy_L8 n' (nI f) (nI e) (bI ho) (nI i) σ = some (nI 0, σ') ∧ FrN σ σ' ∧ HN σ' (L ++ ndl (nd (σ.1 2) f ho) k i) := by
  intro k
  induction k with
  | zero =>
    intro i n' σ L hi hn' hL hV hC hN
    obtain ⟨n', rfl⟩ : ∃ m, n' = m + 1 := ⟨n' - 1, by omega⟩
    refine ⟨σ, ?_, FrN.rf σ, ?_⟩
    · rw [fX0_chooseNeedy_L8, if_pos ((nI_ltI (by omega) (by omega)).mpr (by omega))]
    · rw [show ndl (nd (σ.1 2) f ho) 0 i = [] from rfl, List.append_nil]; exact hN
  | succ k ih =>
    intro i n' σ L hi hn' hL hV hC hN
    obtain ⟨n', rfl⟩ : ∃ m, n' = m + 1 := ⟨n' - 1, by omega⟩
    obtain ⟨s1, e1, f1, h1⟩ := X0_addIfNeedy_y hf (by omega : i < 24) ho hV hC (by omega) hN
    have hl1 : (if nd (σ.1 2) f ho i then L ++ [i] else L).length ≤ i + 1 := by
      by_cases h : nd (σ.1 2) f ho i = true
      · rw [if_pos h, List.length_append]; simp; omega
      · rw [if_neg h]; omega
    obtain ⟨σ', e2, f2, h2⟩ := ih (i + 1) n' s1 _ (by omega) (by omega) hl1 (by rw [f1.2.2.1]; exact hV) (by rw [f1.2.1, f1.2.2.1]; exact hC) h1
    refine ⟨σ', ?_, f1.tr f2, ?_⟩
    · rw [fX0_chooseNeedy_L8, if_neg (fun q => absurd ((nI_ltI (by omega) (by omega)).mp q) (by omega)), e1, bd_e, nI_add]
      exact e2
    · rw [f1.2.2.1] at h2
      by_cases h : nd (σ.1 2) f ho i = true
      · rw [if_pos h, List.append_assoc] at h2
        rw [ndl_t h]; exact h2
      · rw [if_neg h] at h2
        rw [ndl_f h]; exact h2
theorem X0_chooseNeedy_y {σ : SX} {f a e : Nat} (hf : f < 4) (he : e < 24) (ha : a ≤ e + 1) (ho : Bool) (hV : BV (σ.1 2)) (hC : CO (σ.1 1) (σ.1 2)) : ∃ σ', fX0_chooseNeedy (nI f) (nI a) (nI e) (bI ho) σ = some (nI 0, σ') ∧ FrN σ σ' ∧ HN σ' (ndl (nd (σ.1 2) f ho) (e + 1 - a) a) := by
  obtain ⟨σ', e1, f1, h1⟩ := X0_chooseNeedy_L hf he ho (e + 1 - a) a FU (sf σ 5 (nI 0)) [] (by omega) (by rw [FU_v]; omega) (by simp) hV hC ⟨pfx_nil _ _, rfl⟩
  refine ⟨σ', e1, FrN.tr (show FrN σ (sf σ 5 (nI 0)) from ⟨rfl, rfl, rfl, rfl, rfl, fun k hk => sf_2n _ _ _ hk⟩) f1, ?_⟩
  rw [List.nil_append] at h1
  exact h1
/-- a place all of whose cells below the size lie in a range -/
def aw (z a e p : Nat) : Bool := decide (a ≤ 4 * p) && decide (min (4 * p + 4) z ≤ e)
theorem X0_isAllIn_y {σ : SX} {f p a e z : Nat} (hf : f < 4) (hp : p ≤ 24) (ha : a ≤ 96) (he : e ≤ 96) (hz : z ≤ 96) (hs : σ.1 3 f = nI z) : fX0_isAllIn (nI f) (nI p) (nI a) (nI e) σ = some (bI (aw z a e p), σ) := by
  unfold fX0_isAllIn
  rw [X0_sizeOf_y hf, bd_e, hs, nI_add, nI_mul, nI_mul, mn_n (by omega) (by omega)]
  simp (disch := omega) only [nI_ltI]
  unfold aw
  by_cases h1 : p * 4 < a
  · rw [if_pos h1, decide_eq_false (by omega : ¬ a ≤ 4 * p)]; rfl
  · rw [if_neg h1, decide_eq_true (by omega : a ≤ 4 * p)]
    by_cases h2 : e < min ((p + 1) * 4) z
    · rw [if_pos h2, decide_eq_false (by omega : ¬ min (4 * p + 4) z ≤ e)]; rfl
    · rw [if_neg h2, decide_eq_true (by omega : min (4 * p + 4) z ≤ e)]; rfl
theorem X0_chooseCut_L {f a e z : Nat} (hf : f < 4) (he : e ≤ 96) (hae : a < e) (hz : z ≤ 96) : ∀ (k i n' : Nat) (σ : SX) (L : List Nat), i + k = (e + 3) / 4 → k < n' → L.length ≤ i → BV (σ.1 2) → CO (σ.1 1) (σ.1 2) → σ.1 3 f = nI z → HN σ L → ∃ σ', fX0_chooseCutThrough_L10 n' (nI f) (nI a) (nI e) (nI i) σ = some (nI 0, σ') ∧ FrN σ σ' ∧ HN σ' (L ++ ndl (fun p => !aw z a e p && nd (σ.1 2) f false p) k i) := by
  intro k
  induction k with
  | zero =>
    intro i n' σ L hi hn' hL hV hC hs hN
    obtain ⟨n', rfl⟩ : ∃ m, n' = m + 1 := ⟨n' - 1, by omega⟩
    refine ⟨σ, ?_, FrN.rf σ, ?_⟩
    · rw [fX0_chooseCutThrough_L10, if_neg (fun q => absurd ((nI_leI (by omega) (by omega)).mp q) (by omega)), nI_mul, if_pos ((nI_leI (by omega) (by omega)).mpr (by omega))]
    · rw [show ndl (fun p => !aw z a e p && nd (σ.1 2) f false p) 0 i = [] from rfl, List.append_nil]; exact hN
  | succ k ih =>
    intro i n' σ L hi hn' hL hV hC hs hN
    obtain ⟨n', rfl⟩ : ∃ m, n' = m + 1 := ⟨n' - 1, by omega⟩
    have i24 : i < 24 := by omega
    rw [fX0_chooseCutThrough_L10, if_neg (fun q => absurd ((nI_leI (by omega) (by omega)).mp q) (by omega)), nI_mul, if_neg (fun q => absurd ((nI_leI (by omega) (by omega)).mp q) (by omega)), X0_isAllIn_y hf (by omega) (by omega) he hz hs, bd_e]
    cases hw : aw z a e i with
    | false =>
      rw [bI_f, i00, show nI 0 = bI false from rfl]
      obtain ⟨s1, e1, f1, h1⟩ := X0_addIfNeedy_y hf i24 false hV hC (by omega) hN
      have hl1 : (if nd (σ.1 2) f false i then L ++ [i] else L).length ≤ i + 1 := by
        by_cases h : nd (σ.1 2) f false i = true
        · rw [if_pos h, List.length_append]; simp; omega
        · rw [if_neg h]; omega
      obtain ⟨σ', e2, f2, h2⟩ := ih (i + 1) n' s1 _ (by omega) (by omega) hl1 (by rw [f1.2.2.1]; exact hV) (by rw [f1.2.1, f1.2.2.1]; exact hC) (by rw [f1.2.2.2.1]; exact hs) h1
      refine ⟨σ', ?_, f1.tr f2, ?_⟩
      · rw [e1, bd_e, nI_add]; exact e2
      · rw [f1.2.2.1] at h2
        by_cases h : nd (σ.1 2) f false i = true
        · rw [if_pos h, List.append_assoc] at h2
          rw [ndl_t (by simp [hw, h])]; exact h2
        · rw [if_neg h] at h2
          rw [ndl_f (by simp [hw, h])]; exact h2
    | true =>
      rw [bI_t, i10]
      obtain ⟨σ', e2, f2, h2⟩ := ih (i + 1) n' σ L (by omega) (by omega) (by omega) hV hC hs hN
      refine ⟨σ', by rw [nI_add]; exact e2, f2, ?_⟩
      rw [ndl_f (by simp [hw])]; exact h2
theorem X0_chooseCut_y {σ : SX} {f a e z : Nat} (hf : f < 4) (he : e ≤ 96) (ha : a ≤ 96) (hz : z ≤ 96) (hV : BV (σ.1 2)) (hC : CO (σ.1 1) (σ.1 2)) (hs : σ.1 3 f = nI z) : ∃ σ', fX0_chooseCutThrough (nI f) (nI a) (nI e) σ = some (nI 0, σ') ∧ FrN σ σ' ∧ HN σ' (if a < e then ndl (fun p => !aw z a e p && nd (σ.1 2) f false p) ((e + 3) / 4 - a / 4) (a / 4) else []) := by
  have f0 : FrN σ (sf σ 5 (nI 0)) := ⟨rfl, rfl, rfl, rfl, rfl, fun k hk => sf_2n _ _ _ hk⟩
  by_cases h : a < e
  · obtain ⟨σ', e1, f1, h1⟩ := X0_chooseCut_L hf he h hz ((e + 3) / 4 - a / 4) (a / 4) FU (sf σ 5 (nI 0)) [] (by omega) (by rw [FU_v]; omega) (by simp) hV hC hs ⟨pfx_nil _ _, rfl⟩
    refine ⟨σ', ?_, f0.tr f1, ?_⟩
    · rw [fX0_chooseCutThrough, nI_div (by omega) (by omega)]; exact e1
    · rw [if_pos h]; rw [List.nil_append] at h1; exact h1
  · refine ⟨sf σ 5 (nI 0), ?_, f0, ?_⟩
    · rw [fX0_chooseCutThrough, FU_v, fX0_chooseCutThrough_L10, if_pos ((nI_leI (by omega) (by omega)).mpr (by omega))]
    · rw [if_neg h]; exact ⟨pfx_nil _ _, rfl⟩
/-! the second object: the places that it wants -/
def FrW (τ τ' : SX) : Prop := τ'.1 0 = τ.1 0 ∧ τ'.1 1 = τ.1 1 ∧ τ'.1 2 = τ.1 2 ∧ ∀ k, k ≠ 7 → τ'.2 k = τ.2 k
theorem FrW.rf (τ : SX) : FrW τ τ := ⟨rfl, rfl, rfl, fun _ _ => rfl⟩
theorem FrW.tr {σ σ' σ'' : SX} (h : FrW σ σ') (h2 : FrW σ' σ'') : FrW σ σ'' := ⟨h2.1.trans h.1, h2.2.1.trans h.2.1, h2.2.2.1.trans h.2.2.1, fun k hk => (h2.2.2.2 k hk).trans (h.2.2.2 k hk)⟩
def HW (τ : SX) (L : List Nat) : Prop := pfx (τ.1 8) 0 L ∧ τ.2 7 = nI L.length
theorem X1_wants_y {τ : SX} {f p : Nat} (hf : f < 4) (hp : p < 24) (ho : Bool) (hV : BV (τ.1 2)) {L : List Nat} (hL : L.length < 24) (hN : HW τ L) : ∃ τ', fX1_wants (nI f) (nI p) (bI ho) τ = some (nI 0, τ') ∧ FrW τ τ' ∧ HW τ' (if nd (τ.1 2) f ho p then L ++ [p] else L) := by
  have good : HW (sf (sa τ 8 L.length (nI p)) 7 (nI (L.length + 1))) (L ++ [p]) := by
    refine ⟨?_, ?_⟩
    · have := pfx_app (x := p) hN.1
      rw [Nat.zero_add] at this
      exact this
    · rw [sf_2e, List.length_append]; rfl
  have e5 : (sa τ 8 L.length (nI p)).2 7 = nI L.length := hN.2
  have fr : FrW τ (sf (sa τ 8 L.length (nI p)) 7 (nI (L.length + 1))) := ⟨rfl, rfl, rfl, fun k hk => sf_2n _ _ _ hk⟩
  unfold fX1_wants
  rw [X1_isShared hV hf hp, bd_e, hN.2]
  simp (disch := omega) only [nI_mul, nI_add, gD_n, nI_cl]
  rw [e5, nI_add]
  by_cases h2 : 2 ≤ cP (Cc (τ.1 2)) (τ.1 2) (24 * f + p)
  · rw [decide_eq_true h2, bI_t, i10]
    refine ⟨_, rfl, fr, ?_⟩
    rw [if_pos (by simp [nd, h2])]
    exact good
  · rw [decide_eq_false h2, bI_f, i00]
    cases ho with
    | false =>
      rw [bI_f, i00]
      refine ⟨τ, rfl, FrW.rf τ, ?_⟩
      rw [if_neg (by simp [nd]; omega)]
      exact hN
    | true =>
      rw [bI_t, i10]
      by_cases h : τ.1 2 (24 * f + p) = nN
      · rw [if_pos h]
        refine ⟨_, rfl, fr, ?_⟩
        rw [if_pos (by simp [nd, h])]
        exact good
      · rw [if_neg h]
        refine ⟨τ, rfl, FrW.rf τ, ?_⟩
        rw [if_neg (by simp [nd, h]; omega)]
        exact hN
theorem X1_isWhole_y {τ : SX} {f p a e z : Nat} (hf : f < 4) (hp : p ≤ 24) (ha : a ≤ 96) (he : e ≤ 96) (hz : z ≤ 96) (hs : τ.1 1 f = nI z) : fX1_isWhole (nI f) (nI p) (nI a) (nI e) τ = some (bI (aw z a e p), τ) := by
  unfold fX1_isWhole
  simp (disch := omega) only [gD_n, nI_cl, hs, nI_mul, nI_add, nI_leI, nI_ltI]
  unfold aw
  by_cases h1 : 4 * p < a
  · rw [if_pos h1, if_pos h1, decide_eq_false (by omega : ¬ a ≤ 4 * p)]
    by_cases h0 : z ≤ 4 * p + 4
    · rw [if_pos h0]; rfl
    · rw [if_neg h0]; rfl
  · rw [if_neg h1, if_neg h1, decide_eq_true (by omega : a ≤ 4 * p)]
    by_cases h0 : z ≤ 4 * p + 4
    · rw [if_pos h0]
      by_cases h2 : e < z
      · rw [if_pos h2, decide_eq_false (by omega : ¬ min (4 * p + 4) z ≤ e)]; rfl
      · rw [if_neg h2, decide_eq_true (by omega : min (4 * p + 4) z ≤ e)]; rfl
    · rw [if_neg h0]
      by_cases h2 : e < 4 * p + 4
      · rw [if_pos h2, decide_eq_false (by omega : ¬ min (4 * p + 4) z ≤ e)]; rfl
      · rw [if_neg h2, decide_eq_true (by omega : min (4 * p + 4) z ≤ e)]; rfl
