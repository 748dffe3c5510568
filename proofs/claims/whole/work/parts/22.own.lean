/-! places get blocks of their own -/
def cpS (old : Int32) (b : Nat) (ce : Nat → Int32) (c : Nat) : Nat → Int32 := upd ce (4 * b + c) (if old = nN then nI 0 else ce (4 * old.toNatClampNeg + c))
def cp4 (old : Int32) (b : Nat) (ce : Nat → Int32) : Nat → Int32 := itU (cpS old b) 4 0 ce
def gvL (f : Nat) : List Nat → List Nat → (Nat → Int32) → (Nat → Int32) → (Nat → Int32) × (Nat → Int32)
  | p :: N, b :: G, ce, bl => gvL f N G (cp4 (bl (24 * f + p)) b ce) (upd bl (24 * f + p) (nI b))
  | _, _, ce, bl => (ce, bl)
theorem gvL_BV {f : Nat} : ∀ (N G : List Nat) (ce bl : Nat → Int32), (∀ x ∈ G, x < 48) → BV bl → BV (gvL f N G ce bl).2
  | [], _, _, _, _, h => h
  | _ :: _, [], _, _, _, h => h
  | p :: N, b :: G, ce, bl, hG, h => gvL_BV N G _ _ (fun x hx => hG x (List.mem_cons_of_mem _ hx)) (BV_upd h (Or.inr ⟨b, hG b List.mem_cons_self, rfl⟩) _)
theorem gvL_ne {f : Nat} : ∀ (N G : List Nat) (ce bl : Nat → Int32) (x : Nat), (∀ x ∈ G, x < 48) → bl x ≠ nN → (gvL f N G ce bl).2 x ≠ nN
  | [], _, _, _, _, _, h => h
  | _ :: _, [], _, _, _, _, h => h
  | p :: N, b :: G, ce, bl, x, hG, h => by
    refine gvL_ne N G _ _ x (fun x hx => hG x (List.mem_cons_of_mem _ hx)) ?_
    by_cases e : x = 24 * f + p
    · subst e; rw [upd_e]
      have := hG b List.mem_cons_self
      intro q
      rw [nI_nN (by omega)] at q; exact q
    · rw [upd_n _ _ _ e]; exact h
theorem gvL_in {f : Nat} : ∀ (N G : List Nat) (ce bl : Nat → Int32) (p : Nat), (∀ x ∈ G, x < 48) → N.length = G.length → p ∈ N → (gvL f N G ce bl).2 (24 * f + p) ≠ nN
  | [], _, _, _, p, _, _, h => by cases h
  | _ :: _, [], _, _, _, _, hl, _ => by cases hl
  | p0 :: N, b :: G, ce, bl, p, hG, hl, h => by
    have hG' : ∀ x ∈ G, x < 48 := fun x hx => hG x (List.mem_cons_of_mem _ hx)
    have hl' : N.length = G.length := by simpa using hl
    rcases List.mem_cons.mp h with rfl | h
    · refine gvL_ne N G _ _ _ hG' ?_
      rw [upd_e]
      have := hG b List.mem_cons_self
      intro q
      rw [nI_nN (by omega)] at q; exact q
    · exact gvL_in N G _ _ p hG' hl' h
theorem X0_setCell_y {σ : SX} {b c : Nat} (hb : b < 48) (hc : c < 4) (v : Int32) : fX0_setCell (nI b) (nI c) v σ = some (nI 0, sa σ 0 (4 * b + c) v) := by
  simp (disch := omega) only [fX0_setCell, X0_isBlock_y, bs_e, nI_eq, nI_ltI, nI_leI, if_neg, nI_mul, nI_add, gD_n, nI_cl]
  rw [Nat.mul_comm b 4]
theorem X0_setCell_N {σ : SX} (c v : Int32) : fX0_setCell nN c v σ = some (nI 0, σ) := by
  rw [fX0_setCell, X0_isBlock_N]; rfl
theorem X0_cellAt {σ : SX} {old : Int32} (ho : Vb old) {c : Nat} (hc : c < 4) : fX0_cellOf old (nI c) σ = some ((if old = nN then nI 0 else σ.1 0 (4 * old.toNatClampNeg + c)), σ) := by
  rcases ho with rfl | ⟨b, hb, rfl⟩
  · rw [X0_cellOf_N, if_pos rfl]
  · rw [X0_cellOf_y hb hc, if_neg (by rw [nI_nN (by omega)]; exact not_false), nI_cl (by omega)]
theorem X0_give_L {f p b : Nat} (hf : f < 4) (hp : p < 24) (hb : b < 48) {old : Int32} (ho : Vb old) {g : Nat → Nat} (hg : ∀ c, g c < 1000) : ∀ (k c n' : Nat) (σ : SX), c + k = 4 → k < n' → BV (σ.1 2) → CG (σ.1 1) (σ.1 2) (fun c => (if b = c then 1 else 0) + g c) → ∃ σ', fX0_giveBlock_L11 n' (nI f) (nI p) (nI b) old (nI c) σ = some (nI 0, σ') ∧ σ'.1 0 = itU (cpS old b) k c (σ.1 0) ∧ σ'.1 2 = upd (σ.1 2) (24 * f + p) (nI b) ∧ CG (σ'.1 1) (σ'.1 2) g ∧ σ'.1 3 = σ.1 3 ∧ σ'.1 4 = σ.1 4 ∧ σ'.1 6 = σ.1 6 ∧ σ'.2 = σ.2 := by
  intro k
  induction k with
  | zero =>
    intro c n' σ hc hn' hV hC
    obtain ⟨n', rfl⟩ : ∃ m, n' = m + 1 := ⟨n' - 1, by omega⟩
    obtain ⟨s1, e1, b1, f1, g1, -⟩ := X0_putBlock hV hf hp (Or.inr ⟨b, hb, rfl⟩ : Vb (nI b))
    have hC1 := g1 _ (fun c => by
      have := hg c
      show (if b = c then 1 else 0) + g c < 2000
      by_cases h : b = c
      · rw [if_pos h]; omega
      · rw [if_neg h]; omega) hC
    obtain ⟨s2, e2, b2, f2, c2⟩ := X0_addToCount (Or.inr ⟨b, hb, rfl⟩ : Vb (nI b)) (-1) s1
    have fr := f1.tr f2
    refine ⟨s2, ?_, fr.1, b2.trans b1, ?_, fr.2.1, fr.2.2.1, fr.2.2.2.1, fr.2.2.2.2⟩
    · rw [fX0_giveBlock_L11, if_pos ((nI_leI (by omega) (by omega)).mpr (by omega)), e1, bd_e, e2, bd_e]
    · intro x hx
      rw [c2 x hx, hC1 x hx, b2]
      dsimp only
      by_cases h : b = x
      · rw [if_pos h, if_pos (congrArg nI h), show cB (s1.1 2) (nI x) + (1 + g x) = cB (s1.1 2) (nI x) + g x + 1 by omega, nI_dec]
      · rw [if_neg h, if_neg (fun q => h (nI_inj (by omega) (by omega) q)), nI_add]
        exact congrArg nI (by omega)
  | succ k ih =>
    intro c n' σ hc hn' hV hC
    obtain ⟨n', rfl⟩ : ∃ m, n' = m + 1 := ⟨n' - 1, by omega⟩
    obtain ⟨σ', e1, r1⟩ := ih (c + 1) n' (sa σ 0 (4 * b + c) (if old = nN then nI 0 else σ.1 0 (4 * old.toNatClampNeg + c))) (by omega) (by omega) hV hC
    refine ⟨σ', ?_, r1⟩
    rw [fX0_giveBlock_L11, if_neg (fun q => absurd ((nI_leI (by omega) (by omega)).mp q) (by omega)), X0_cellAt ho (by omega), bd_e, X0_setCell_y hb (by omega), bd_e, nI_add]
    exact e1
theorem X0_giveBlock_y {σ : SX} {f p b : Nat} (hf : f < 4) (hp : p < 24) (hb : b < 48) {g : Nat → Nat} (hg : ∀ c, g c < 1000) (hV : BV (σ.1 2)) (hC : CG (σ.1 1) (σ.1 2) (fun c => (if b = c then 1 else 0) + g c)) : ∃ σ', fX0_giveBlock (nI f) (nI p) (nI b) σ = some (nI 0, σ') ∧ σ'.1 0 = cp4 (σ.1 2 (24 * f + p)) b (σ.1 0) ∧ σ'.1 2 = upd (σ.1 2) (24 * f + p) (nI b) ∧ CG (σ'.1 1) (σ'.1 2) g ∧ σ'.1 3 = σ.1 3 ∧ σ'.1 4 = σ.1 4 ∧ σ'.1 6 = σ.1 6 ∧ σ'.2 = σ.2 := by
  obtain ⟨σ', e1, r1⟩ := X0_give_L hf hp hb (hV (24 * f + p) (by omega)) hg 4 0 FU σ (by omega) (by rw [FU_v]; omega) hV hC
  refine ⟨σ', ?_, r1⟩
  rw [fX0_giveBlock, X0_blockAt_y hf hp, bd_e]
  exact e1
theorem ct_lt : ∀ (G : List Nat) (c : Nat), ct G c ≤ G.length
  | [], _ => Nat.le_refl 0
  | x :: G, c => by
    have := ct_lt G c
    show (if x = c then 1 else 0) + ct G c ≤ G.length + 1
    by_cases h : x = c
    · rw [if_pos h]; omega
    · rw [if_neg h]; omega
theorem X0_own_L {f n : Nat} (hf : f < 4) (hn : n ≤ 24) : ∀ (N G : List Nat) (j n' : Nat) (σ : SX), N.length = G.length → j + N.length = n → N.length < n' → (∀ x ∈ N, x < 24) → (∀ x ∈ G, x < 48) → pfx (σ.1 4) j N → pfx (σ.1 6) j G → σ.2 5 = nI n → σ.2 7 = nI n → BV (σ.1 2) → CG (σ.1 1) (σ.1 2) (ct G) → ∃ σ', fX0_ownNeedy_L10 n' (nI f) (nI j) σ = some (nI 0, σ') ∧ σ'.1 0 = (gvL f N G (σ.1 0) (σ.1 2)).1 ∧ σ'.1 2 = (gvL f N G (σ.1 0) (σ.1 2)).2 ∧ CO (σ'.1 1) (σ'.1 2) ∧ σ'.1 3 = σ.1 3 ∧ σ'.2 = σ.2 := by
  intro N
  induction N with
  | nil =>
    intro G j n' σ hl hj hn' hN hG pN pG i5 i7 hV hC
    obtain ⟨n', rfl⟩ : ∃ m, n' = m + 1 := ⟨n' - 1, by simp at hn'; omega⟩
    obtain rfl : G = [] := by cases G with
      | nil => rfl
      | cons x G => simp at hl
    refine ⟨σ, ?_, rfl, rfl, CG_0.mp hC, rfl, rfl⟩
    simp at hj
    rw [fX0_ownNeedy_L10, i5, if_pos ((nI_leI (by omega) (by omega)).mpr (by omega))]
  | cons p N ih =>
    intro G j n' σ hl hj hn' hN hG pN pG i5 i7 hV hC
    cases G with
    | nil => simp at hl
    | cons b G =>
      rw [List.length_cons] at hj hn'
      have hl' : N.length = G.length := by simpa using hl
      obtain ⟨n', rfl⟩ : ∃ m, n' = m + 1 := ⟨n' - 1, by omega⟩
      obtain ⟨ep, pN'⟩ := pfx_cons pN
      obtain ⟨eb, pG'⟩ := pfx_cons pG
      have hp := hN p List.mem_cons_self
      have hb := hG b List.mem_cons_self
      obtain ⟨s1, e1, c1, b1, g1, z1, n1, o1, i1⟩ := X0_giveBlock_y hf hp hb (g := ct G) (fun c => by have := ct_lt G c; omega) hV hC
      obtain ⟨σ', e2, c2, b2, g2, z2, i2⟩ := ih G (j + 1) n' s1 hl' (by omega) (by omega) (fun x hx => hN x (List.mem_cons_of_mem _ hx)) (fun x hx => hG x (List.mem_cons_of_mem _ hx)) (by rw [n1]; exact pN') (by rw [o1]; exact pG') (by rw [i1]; exact i5) (by rw [i1]; exact i7) (by rw [b1]; exact BV_upd hV (Or.inr ⟨b, hb, rfl⟩) _) g1
      refine ⟨σ', ?_, ?_, ?_, g2, z2.trans z1, i2.trans i1⟩
      · rw [fX0_ownNeedy_L10, i5, i7, if_neg (fun q => absurd ((nI_leI (by omega) (by omega)).mp q) (by omega)), if_neg (fun q => absurd ((nI_leI (by omega) (by omega)).mp q) (by omega)), gD_n (by omega) (by omega), gD_n (by omega) (by omega), nI_cl (by omega), ep, eb, e1, bd_e, nI_add]
        exact e2
      · rw [c2, c1, b1]; rfl
      · rw [b2, c1, b1]; rfl
/-- the first object owns what is needy, when as many are free -/
theorem X0_ownNeedy_y {σ : SX} {f : Nat} (hf : f < 4) {N : List Nat} (hN : ∀ x ∈ N, x < 24) (hl : N.length ≤ 24) (hH : HN σ N) (hV : BV (σ.1 2)) (hC : CO (σ.1 1) (σ.1 2)) (hcnt : N.length ≤ cntP (fun b => decide (Cc (σ.1 2) b = 0)) 48) : ∃ σ', fX0_ownNeedy (nI f) σ = some (nI 0, σ') ∧ σ'.1 0 = (gvL f N (gl 24 (fun b => decide (Cc (σ.1 2) b = 0)) N.length) (σ.1 0) (σ.1 2)).1 ∧ σ'.1 2 = (gvL f N (gl 24 (fun b => decide (Cc (σ.1 2) b = 0)) N.length) (σ.1 0) (σ.1 2)).2 ∧ CO (σ'.1 1) (σ'.1 2) ∧ σ'.1 3 = σ.1 3 ∧ ∀ k, k ≠ 7 → σ'.2 k = σ.2 k := by
  obtain ⟨s1, e1, h1, c1, f1⟩ := X0_getBlocks_y (σ := σ) (C := Cc (σ.1 2)) (fr := fun b => decide (Cc (σ.1 2) b = 0)) (n := N.length) hl hcnt hC (fun c => cB_le _ _) (fun b _ => rfl)
  obtain ⟨q1, q2⟩ := gl_ok 24 (fun b => decide (Cc (σ.1 2) b = 0)) N.length hl hcnt
  have e5 : s1.2 5 = nI N.length := (f1.2.2.2.2 5 (by omega)).trans hH.2
  obtain ⟨σ', e2, c2, b2, g2, z2, i2⟩ := X0_own_L hf hl N _ 0 FU s1 q1.symm (by omega) (by rw [FU_v]; omega) hN q2 (by rw [f1.2.2.2.1]; exact hH.1) h1.1 e5 (by rw [h1.2, q1]) (by rw [f1.2.1]; exact hV) (fun c hc => by rw [c1 c hc, f1.2.1]; rfl)
  refine ⟨σ', ?_, ?_, ?_, g2, z2.trans f1.2.2.1, fun k hk => by rw [i2]; exact f1.2.2.2.2 k hk⟩
  · rw [fX0_ownNeedy, hH.2, e1, bd_e]
    exact e2
  · rw [c2, f1.1, f1.2.1]
  · rw [b2, f1.1, f1.2.1]
theorem X0_isSpent_y {σ : SX} {N : List Nat} (hl : N.length ≤ 24) (hH : HN σ N) (hC : CO (σ.1 1) (σ.1 2)) : fX0_isSpent σ = some ((if N.length ≤ cntP (fun b => decide (Cc (σ.1 2) b = 0)) 48 then nI 0 else nI 1), σ) := by
  have hc := cntP_le (fun b => decide (Cc (σ.1 2) b = 0)) 48
  rw [fX0_isSpent, X0_freeMany (C := Cc (σ.1 2)) hC (fun b => Cc_lt _ _), bd_e, hH.2]
  simp (disch := omega) only [nI_leI]
  by_cases h : N.length ≤ cntP (fun b => decide (Cc (σ.1 2) b = 0)) 48
  · rw [if_pos h, if_pos h]
  · rw [if_neg h, if_neg h]
/-! the second object -/
theorem X1_copies_L {b : Nat} (hb : b < 48) {old : Int32} (ho : Vb old) : ∀ (k c n' : Nat) (τ : SX), c + k = 4 → k < n' → ∃ τ', fX1_copies_L2 n' old (nI b) (nI c) τ = some (nI 0, τ') ∧ τ'.1 0 = itU (cpS old b) k c (τ.1 0) ∧ (∀ j, j ≠ 0 → τ'.1 j = τ.1 j) ∧ τ'.2 = τ.2 := by
  intro k
  induction k with
  | zero =>
    intro c n' τ hc hn'
    obtain ⟨n', rfl⟩ : ∃ m, n' = m + 1 := ⟨n' - 1, by omega⟩
    exact ⟨τ, by rw [fX1_copies_L2, if_pos ((nI_leI (by omega) (by omega)).mpr (by omega))], rfl, fun _ _ => rfl, rfl⟩
  | succ k ih =>
    intro c n' τ hc hn'
    obtain ⟨n', rfl⟩ : ∃ m, n' = m + 1 := ⟨n' - 1, by omega⟩
    obtain ⟨τ', e1, c1, a1, i1⟩ := ih (c + 1) n' (sa τ 0 (4 * b + c) (if old = nN then nI 0 else τ.1 0 (4 * old.toNatClampNeg + c))) (by omega) (by omega)
    refine ⟨τ', ?_, c1, fun j hj => (a1 j hj).trans (sa_1n _ _ _ _ hj), i1⟩
    rw [fX1_copies_L2, if_neg (fun q => absurd ((nI_leI (by omega) (by omega)).mp q) (by omega))]
    rcases ho with rfl | ⟨o, ho, rfl⟩
    · rw [if_pos rfl] at e1 ⊢
      simp (disch := omega) only [nI_mul, nI_add, gD_n, nI_cl]
      exact e1
    · have e : (nI o = nN) = False := nI_nN (by omega)
      simp only [e, if_false] at e1 ⊢
      simp (disch := omega) only [nI_mul, nI_add, gD_n, nI_cl]
      rw [nI_cl (by omega)] at e1
      exact e1
theorem X1_own_L {f n : Nat} (hf : f < 4) (hn : n ≤ 24) : ∀ (N G : List Nat) (j n' : Nat) (τ : SX), N.length = G.length → j + N.length = n → N.length < n' → (∀ x ∈ N, x < 24) → (∀ x ∈ G, x < 48) → pfx (τ.1 8) j N → pfx (τ.1 5) j G → τ.2 7 = nI n → BV (τ.1 2) → ∃ τ', fX1_owns_L15 n' (nI f) (nI j) τ = some (nI 1, τ') ∧ τ'.1 0 = (gvL f N G (τ.1 0) (τ.1 2)).1 ∧ τ'.1 2 = (gvL f N G (τ.1 0) (τ.1 2)).2 ∧ τ'.1 1 = τ.1 1 ∧ τ'.2 = τ.2 := by
  intro N
  induction N with
  | nil =>
    intro G j n' τ hl hj hn' hN hG pN pG i7 hV
    obtain ⟨n', rfl⟩ : ∃ m, n' = m + 1 := ⟨n' - 1, by simp at hn'; omega⟩
    obtain rfl : G = [] := by cases G with
      | nil => rfl
      | cons x G => simp at hl
    refine ⟨τ, ?_, rfl, rfl, rfl, rfl⟩
    simp at hj
    rw [fX1_owns_L15, i7, if_pos ((nI_leI (by omega) (by omega)).mpr (by omega))]
  | cons p N ih =>
    intro G j n' τ hl hj hn' hN hG pN pG i7 hV
    cases G with
    | nil => simp at hl
    | cons b G =>
      rw [List.length_cons] at hj hn'
      have hl' : N.length = G.length := by simpa using hl
      obtain ⟨n', rfl⟩ : ∃ m, n' = m + 1 := ⟨n' - 1, by omega⟩
      obtain ⟨ep, pN'⟩ := pfx_cons pN
      obtain ⟨eb, pG'⟩ := pfx_cons pG
      have hp := hN p List.mem_cons_self
      have hb := hG b List.mem_cons_self
      obtain ⟨t1, e1, c1, a1, i1⟩ := X1_copies_L hb (hV (24 * f + p) (by omega)) 4 0 FU τ (by omega) (by rw [FU_v]; omega)
      have e1' : fX1_copies (τ.1 2 (24 * f + p)) (nI b) τ = some (nI 0, t1) := e1
      obtain ⟨τ', e2, c2, b2, z2, i2⟩ := ih G (j + 1) n' (sa t1 2 (24 * f + p) (nI b)) hl' (by omega) (by omega) (fun x hx => hN x (List.mem_cons_of_mem _ hx)) (fun x hx => hG x (List.mem_cons_of_mem _ hx)) (by rw [sa_1n _ _ _ _ (by decide), a1 8 (by decide)]; exact pN') (by rw [sa_1n _ _ _ _ (by decide), a1 5 (by decide)]; exact pG') (by rw [sa_2, i1]; exact i7) (by rw [sa_1e, a1 2 (by decide)]; exact BV_upd hV (Or.inr ⟨b, hb, rfl⟩) _)
      refine ⟨τ', ?_, ?_, ?_, ?_, ?_⟩
      · rw [fX1_owns_L15, i7, if_neg (fun q => absurd ((nI_leI (by omega) (by omega)).mp q) (by omega))]
        rw [nI_cl (by omega), ep, eb]
        simp (disch := omega) only [nI_mul, nI_add, gD_n, nI_cl]
        rw [e1', bd_e, a1 5 (by decide), eb]
        exact e2
      · rw [c2, sa_1n _ _ _ _ (by decide), c1, sa_1e, a1 2 (by decide)]; rfl
      · rw [b2, sa_1n _ _ _ _ (by decide), c1, sa_1e, a1 2 (by decide)]; rfl
      · rw [z2, sa_1n _ _ _ _ (by decide), a1 1 (by decide)]
      · rw [i2, sa_2, i1]
theorem X1_owns_y {τ : SX} {f : Nat} (hf : f < 4) {N : List Nat} (hN : ∀ x ∈ N, x < 24) (hl : N.length ≤ 24) (hH : HW τ N) (hV : BV (τ.1 2)) : (N.length ≤ cntP (fun b => decide (Cc (τ.1 2) b = 0)) 48 → ∃ τ', fX1_owns (nI f) τ = some (nI 1, τ') ∧ τ'.1 0 = (gvL f N (gl 24 (fun b => decide (Cc (τ.1 2) b = 0)) N.length) (τ.1 0) (τ.1 2)).1 ∧ τ'.1 2 = (gvL f N (gl 24 (fun b => decide (Cc (τ.1 2) b = 0)) N.length) (τ.1 0) (τ.1 2)).2 ∧ τ'.1 1 = τ.1 1 ∧ ∀ k, k ≠ 4 → τ'.2 k = τ.2 k) ∧ (¬ N.length ≤ cntP (fun b => decide (Cc (τ.1 2) b = 0)) 48 → ∃ τ', fX1_owns (nI f) τ = some (nI 0, τ') ∧ FrM τ τ') := by
  obtain ⟨g1, g2⟩ := X1_gets_y (τ := τ) (n := N.length) hl
  refine ⟨fun h => ?_, fun h => ?_⟩
  · obtain ⟨t1, e1, h1, f1⟩ := g1 h
    obtain ⟨q1, q2⟩ := gl_ok 24 (fun b => decide (Cc (τ.1 2) b = 0)) N.length hl h
    obtain ⟨τ', e2, c2, b2, z2, i2⟩ := X1_own_L hf hl N _ 0 FU t1 q1.symm (by omega) (by rw [FU_v]; omega) hN q2 (by rw [f1.2.2.2.1]; exact hH.1) h1.1 ((f1.2.2.2.2 7 (by omega)).trans hH.2) (by rw [f1.2.2.1]; exact hV)
    refine ⟨τ', ?_, ?_, ?_, z2.trans f1.2.1, fun k hk => by rw [i2]; exact f1.2.2.2.2 k hk⟩
    · rw [fX1_owns, hH.2, e1, bd_e, i10]
      exact e2
    · rw [c2, f1.1, f1.2.2.1]
    · rw [b2, f1.1, f1.2.2.1]
  · obtain ⟨t1, e1, f1⟩ := g2 h
    exact ⟨t1, by rw [fX1_owns, hH.2, e1, bd_e, i00], f1⟩
