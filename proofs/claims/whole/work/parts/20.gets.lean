/-! the first object gets blocks -/
section GET0
variable {σ : SX} {C : Nat → Nat} {fr : Nat → Bool}
theorem sb_stF (hfr : ∀ b, b < 48 → fr b = decide (C b = 0)) {b : Nat} (hb : b < 48) : sb C true b = stF fr b := by
  unfold sb stF
  rw [hfr b hb]
  by_cases h0 : b = 0
  · subst h0; simp
  · rw [hfr (b - 1) (by omega)]
    by_cases h : C b = 0
    · simp [h, h0]
    · simp [h]
theorem stl_Lf (hfr : ∀ b, b < 48 → fr b = decide (C b = 0)) {b : Nat} (hb : b < 48) (h : fr b = true) : 1 + runE (fun j => decide (C j = C b)) (47 - b) (b + 1) = Lf fr b := by
  have h0 : C b = 0 := by rw [hfr b hb] at h; simpa using h
  unfold Lf
  rw [show 48 - b = (47 - b) + 1 by omega, runE_t h]
  rw [runE_congr (P := fun j => decide (C j = C b)) (Q := fr) (fun j h1 h2 => by rw [hfr j (by omega), h0])]
theorem stF_fr {b : Nat} (h : stF fr b = true) : fr b = true := by
  unfold stF at h
  cases hq : fr b
  · rw [hq] at h; simp at h
  · rfl
def btr (a b c : Nat) : Bool := decide ((a < c ∧ b < a) ∨ (c ≤ a ∧ (b < c ∨ a < b)))
theorem btr_t {a b c : Nat} (h : (a < c ∧ b < a) ∨ (c ≤ a ∧ (b < c ∨ a < b))) : btr a b c = true := decide_eq_true h
theorem btr_f {a b c : Nat} (h : ¬ ((a < c ∧ b < a) ∨ (c ≤ a ∧ (b < c ∨ a < b)))) : btr a b c = false := decide_eq_false h
theorem X0_fitsBetter (a b c : Nat) (ha : a < 2000) (hb : b < 2000) (hc : c < 2000) : fX0_fitsBetter (nI a) (nI b) (nI c) = some (bI (btr a b c)) := by
  unfold fX0_fitsBetter
  simp (disch := omega) only [nI_ltI, nI_leI]
  by_cases h1 : a < c
  · rw [if_pos h1]
    by_cases h2 : a ≤ b
    · rw [if_pos h2, btr_f (by omega)]; rfl
    · rw [if_neg h2, btr_t (by omega)]; rfl
  · rw [if_neg h1]
    by_cases h2 : b < c
    · rw [if_pos h2, btr_t (by omega)]; rfl
    · rw [if_neg h2]
      by_cases h3 : b ≤ a
      · rw [if_pos h3, btr_f (by omega)]; rfl
      · rw [if_neg h3, btr_t (by omega)]; rfl
/-- one step of the choice, as the first object does it -/
theorem bp_step {n i : Nat} (hn : 1 ≤ n) (hi : i < 48) (h : stF fr i = true) : bp (rf fr n (i + 1)) = if btr (Lf fr i) (bL fr (bp (rf fr n i))) n then some i else bp (rf fr n i) := by
  obtain ⟨a1, a2, a3, a4⟩ := rf_ok fr n i (by omega)
  have hp := Lf_pos hi (stF_fr h)
  rw [rf_t h]
  cases e1 : (rf fr n i).1 with
  | some j =>
    have hj := (a1 j e1).2.2
    have eb : bp (rf fr n i) = some j := by unfold bp; rw [e1]
    rw [eb, show bL fr (some j) = Lf fr j from rfl]
    show bp ((if n ≤ Lf fr i ∧ Lf fr i < Lf fr j then some i else some j), _) = _
    by_cases g : n ≤ Lf fr i ∧ Lf fr i < Lf fr j
    · rw [if_pos g, btr_t (by omega)]; rfl
    · rw [if_neg g, btr_f (by omega)]; rfl
  | none =>
    have eb : bp (rf fr n i) = (rf fr n i).2 := by unfold bp; rw [e1]
    rw [eb]
    cases e2 : (rf fr n i).2 with
    | none =>
      rw [show bL fr none = 0 from rfl, btr_t (by omega)]
      show bp ((if n ≤ Lf fr i then some i else none), some i) = some i
      by_cases g : n ≤ Lf fr i
      · rw [if_pos g]; rfl
      · rw [if_neg g]; rfl
    | some j =>
      have hj := a3 e1 j e2
      rw [show bL fr (some j) = Lf fr j from rfl]
      show bp ((if n ≤ Lf fr i then some i else none), (if Lf fr j < Lf fr i then some i else some j)) = _
      by_cases g : n ≤ Lf fr i
      · rw [if_pos g, btr_t (by omega)]; rfl
      · rw [if_neg g]
        by_cases g2 : Lf fr j < Lf fr i
        · rw [if_pos g2, btr_t (by omega)]; rfl
        · rw [if_neg g2, btr_f (by omega)]; rfl
theorem bL_lt (o : Option Nat) : bL fr o < 2000 := by
  cases o with
  | none => show 0 < 2000; omega
  | some b => show Lf fr b < 2000; have := Lf_le fr b; omega
theorem X0_bestRun_L (hC : ∀ b, b < 48 → σ.1 1 b = nI (C b)) (hB : ∀ b, C b < 2000) (hfr : ∀ b, b < 48 → fr b = decide (C b = 0)) {n : Nat} (hn : 1 ≤ n) (hn2 : n < 2000) : ∀ k i n' : Nat, i + k = 48 → k < n' → fX0_bestRun_L8 n' (nI n) (oN (bp (rf fr n i))) (nI (bL fr (bp (rf fr n i)))) (nI i) σ = some (oN (best fr n), σ) := by
  intro k
  induction k with
  | zero =>
    intro i n' hi hn'
    obtain ⟨n', rfl⟩ : ∃ m, n' = m + 1 := ⟨n' - 1, by omega⟩
    obtain rfl : i = 48 := by omega
    rw [fX0_bestRun_L8, if_pos ((nI_leI (by omega) (by omega)).mpr (by omega))]; rfl
  | succ k ih =>
    intro i n' hi hn'
    obtain ⟨n', rfl⟩ : ∃ m, n' = m + 1 := ⟨n' - 1, by omega⟩
    have q := ih (i + 1) n' (by omega) (by omega)
    have g0 := X0_startsStretch hC hB (by omega : i < 48) true
    rw [bI_t] at g0
    rw [fX0_bestRun_L8, if_neg (fun q => absurd ((nI_leI (by omega) (by omega)).mp q) (by omega)), g0, bd_e, sb_stF hfr (by omega), nI_add]
    by_cases h : stF fr i = true
    · have hL := Lf_le fr i
      have hb := bL_lt (fr := fr) (bp (rf fr n i))
      rw [h, bI_t, i10, X0_stretchLength hC hB (by omega), stl_Lf hfr (by omega) (stF_fr h), bd_e, X0_fitsBetter _ _ _ (by omega) (by omega) (by omega), bs_e]
      rw [bp_step hn (by omega) h] at q
      simp only [bI_0]
      cases hc : btr (Lf fr i) (bL fr (bp (rf fr n i))) n with
      | true =>
        rw [hc, if_pos rfl] at q
        rw [if_neg (by simp), X0_stretchLength hC hB (by omega), stl_Lf hfr (by omega) (stF_fr h), bd_e]
        exact q
      | false =>
        rw [hc, if_neg (by simp)] at q
        rw [if_pos rfl]
        exact q
    · rw [rf_f h] at q
      have e : stF fr i = false := by simpa using h
      rw [e, bI_f, i00]
      exact q
theorem X0_bestRun_y (hC : ∀ b, b < 48 → σ.1 1 b = nI (C b)) (hB : ∀ b, C b < 2000) (hfr : ∀ b, b < 48 → fr b = decide (C b = 0)) {n : Nat} (hn : 1 ≤ n) (hn2 : n < 2000) : fX0_bestRun (nI n) σ = some (oN (best fr n), σ) := by
  unfold fX0_bestRun
  exact X0_bestRun_L hC hB hfr hn hn2 48 0 FU (by omega) (by rw [FU_v]; omega)
end GET0
def FrG (σ σ' : SX) : Prop := σ'.1 0 = σ.1 0 ∧ σ'.1 2 = σ.1 2 ∧ σ'.1 3 = σ.1 3 ∧ σ'.1 4 = σ.1 4 ∧ ∀ k, k ≠ 7 → σ'.2 k = σ.2 k
theorem FrG.rf (σ : SX) : FrG σ σ := ⟨rfl, rfl, rfl, rfl, fun _ _ => rfl⟩
theorem FrG.tr {σ σ' σ'' : SX} (h : FrG σ σ') (h2 : FrG σ' σ'') : FrG σ σ'' := ⟨h2.1.trans h.1, h2.2.1.trans h.2.1, h2.2.2.1.trans h.2.2.1, h2.2.2.2.1.trans h.2.2.2.1, fun k hk => (h2.2.2.2.2 k hk).trans (h.2.2.2.2 k hk)⟩
def HG (σ : SX) (L : List Nat) : Prop := pfx (σ.1 6) 0 L ∧ σ.2 7 = nI L.length
theorem X0_take_L : ∀ (k b n' : Nat) (σ : SX) (G : List Nat) (C : Nat → Nat), b + k ≤ 48 → k < n' → G.length + k ≤ 48 → (∀ c, c < 48 → σ.1 1 c = nI (C c)) → HG σ G → ∃ σ', fX0_takeFromRun_L23 n' (nI (b + k)) (nI b) σ = some (nI 0, σ') ∧ HG σ' (G ++ rg k b) ∧ (∀ c, c < 48 → σ'.1 1 c = nI (C c + ct (rg k b) c)) ∧ FrG σ σ' := by
  intro k
  induction k with
  | zero =>
    intro b n' σ G C hb hn' hG hC hN
    obtain ⟨n', rfl⟩ : ∃ m, n' = m + 1 := ⟨n' - 1, by omega⟩
    refine ⟨σ, ?_, ?_, hC, FrG.rf σ⟩
    · rw [fX0_takeFromRun_L23, if_pos ((nI_leI (by omega) (by omega)).mpr (by omega))]
    · rw [show rg 0 b = [] from rfl, List.append_nil]; exact hN
  | succ k ih =>
    intro b n' σ G C hb hn' hG hC hN
    obtain ⟨n', rfl⟩ : ∃ m, n' = m + 1 := ⟨n' - 1, by omega⟩
    obtain ⟨s1, e1, b1, f1, c1⟩ := X0_addToCount (Or.inr ⟨b, by omega, rfl⟩ : Vb (nI b)) (nI 1) σ
    have e7 : s1.2 7 = nI G.length := by rw [f1.2.2.2.2]; exact hN.2
    have e7' : (sa s1 6 G.length (nI b)).2 7 = nI G.length := e7
    have hN1 : HG (sf (sa s1 6 G.length (nI b)) 7 (nI (G.length + 1))) (G ++ [b]) := by
      refine ⟨?_, ?_⟩
      · have := pfx_app (x := b) hN.1
        rw [Nat.zero_add, ← f1.2.2.2.1] at this
        exact this
      · rw [sf_2e, List.length_append]; rfl
    have hC1 : ∀ c, c < 48 → (sf (sa s1 6 G.length (nI b)) 7 (nI (G.length + 1))).1 1 c = nI (C c + (if b = c then 1 else 0)) := by
      intro c hc
      show s1.1 1 c = _
      rw [c1 c hc, hC c hc]
      by_cases h : b = c
      · rw [if_pos h, if_pos (congrArg nI h), nI_add]
      · rw [if_neg h, if_neg (fun q => h (nI_inj (by omega) (by omega) q)), nI_add]
    obtain ⟨σ', e2, h2, c2, f2⟩ := ih (b + 1) n' _ (G ++ [b]) _ (by omega) (by omega) (by rw [List.length_append]; simp; omega) hC1 hN1
    refine ⟨σ', ?_, ?_, ?_, ?_⟩
    · rw [fX0_takeFromRun_L23, if_neg (fun q => absurd ((nI_leI (by omega) (by omega)).mp q) (by omega)), hN.2, if_neg (fun q => absurd ((nI_leI (by omega) (by omega)).mp q) (by omega)), e1, bd_e, e7, gD_n (by omega) (by omega), nI_cl (by omega), e7', nI_add, nI_add]
      rw [show b + (k + 1) = b + 1 + k by omega]
      exact e2
    · rw [List.append_assoc] at h2; exact h2
    · intro c hc
      rw [c2 c hc]
      exact congrArg nI (by show _ = C c + ((if b = c then 1 else 0) + ct (rg k (b + 1)) c); omega)
    · refine FrG.tr (show FrG σ (sf (sa s1 6 G.length (nI b)) 7 (nI (G.length + 1))) from ⟨f1.1, b1, f1.2.1, f1.2.2.1, fun j hj => ?_⟩) f2
      show (sf (sa s1 6 G.length (nI b)) 7 (nI (G.length + 1))).2 j = _
      rw [sf_2n _ _ _ hj]
      show s1.2 j = _
      rw [f1.2.2.2.2]
theorem X0_takeFromRun_y {σ : SX} {C : Nat → Nat} {fr : Nat → Bool} {b m : Nat} (hb : b < 48) (hm : m < 2000) {G : List Nat} (hG : G.length + min m (Lf fr b) ≤ 48) (hC : ∀ c, c < 48 → σ.1 1 c = nI (C c)) (hB : ∀ b, C b < 2000) (hfr : ∀ b, b < 48 → fr b = decide (C b = 0)) (hf : fr b = true) (hN : HG σ G) : ∃ σ', fX0_takeFromRun (nI b) (nI m) σ = some (nI 0, σ') ∧ HG σ' (G ++ rg (min m (Lf fr b)) b) ∧ (∀ c, c < 48 → σ'.1 1 c = nI (C c + ct (rg (min m (Lf fr b)) b) c)) ∧ FrG σ σ' := by
  have hL := Lf_le fr b
  obtain ⟨σ', e1, h1⟩ := X0_take_L (min m (Lf fr b)) b FU σ G C (by omega) (by rw [FU_v]; omega) hG hC hN
  refine ⟨σ', ?_, h1⟩
  rw [fX0_takeFromRun, X0_isBlock_y hb, bs_e, i10, X0_stretchLength hC hB hb, stl_Lf hfr hb hf, bd_e, mn_n (by omega) (by omega), nI_add]
  exact e1
theorem X0_getBlocks_L {n : Nat} (hn : n ≤ 24) : ∀ (k m r n' : Nat) (σ : SX) (fr : Nat → Bool) (C : Nat → Nat) (G : List Nat), m ≤ k → G.length + m = n → m + r ≤ 48 → m < n' → m ≤ cntP fr 48 → (∀ c, c < 48 → σ.1 1 c = nI (C c)) → (∀ c, C c + k < 1000) → (∀ b, b < 48 → fr b = decide (C b = 0)) → HG σ G → ∃ σ', fX0_getBlocks_L7 n' (nI n) (nI r) σ = some (nI 0, σ') ∧ HG σ' (G ++ gl k fr m) ∧ (∀ c, c < 48 → σ'.1 1 c = nI (C c + ct (gl k fr m) c)) ∧ FrG σ σ' := by
  intro k
  induction k with
  | zero =>
    intro m r n' σ fr C G hm hG hr hn' hcnt hC hB hfr hN
    obtain rfl : m = 0 := by omega
    obtain ⟨n', rfl⟩ : ∃ m, n' = m + 1 := ⟨n' - 1, by omega⟩
    refine ⟨σ, ?_, ?_, ?_, FrG.rf σ⟩
    · rw [fX0_getBlocks_L7, hN.2]
      by_cases h : nI 48 ≤ nI r
      · rw [if_pos h]
      · rw [if_neg h, if_pos ((nI_leI (by omega) (by omega)).mpr (by omega))]
    · rw [show gl 0 fr 0 = [] from rfl, List.append_nil]; exact hN
    · exact hC
  | succ k ih =>
    intro m r n' σ fr C G hm hG hr hn' hcnt hC hB hfr hN
    obtain ⟨n', rfl⟩ : ∃ m, n' = m + 1 := ⟨n' - 1, by omega⟩
    by_cases h0 : m = 0
    · subst h0
      rw [gl_0, List.append_nil]
      refine ⟨σ, ?_, hN, hC, FrG.rf σ⟩
      rw [fX0_getBlocks_L7, hN.2]
      by_cases h : nI 48 ≤ nI r
      · rw [if_pos h]
      · rw [if_neg h, if_pos ((nI_leI (by omega) (by omega)).mpr (by omega))]
    · cases e : best fr m with
      | none => have := best_none e; omega
      | some b =>
        obtain ⟨hb, hf⟩ := best_ok e
        have p1 := Lf_pos hb hf
        have p2 := Lf_le fr b
        have p3 := cnt_rm (fr := fr) (b := b) (t := min m (Lf fr b)) (fun c c1 c2 => by
          have := runE_all (P := fr) (k := 48 - b) (i := b) (j := c - b) (by show c - b < Lf fr b; omega)
          rwa [show b + (c - b) = c by omega] at this) 48
        have hB2 : ∀ c, C c < 2000 := fun c => by have := hB c; omega
        obtain ⟨s1, e1, h1, c1, f1⟩ := X0_takeFromRun_y (m := m) hb (by omega) (G := G) (by omega) hC hB2 hfr hf hN
        have hct : ∀ c, ct (rg (min m (Lf fr b)) b) c ≤ 1 := fun c => by
          rw [ct_rg]
          by_cases h : b ≤ c ∧ c < b + min m (Lf fr b)
          · rw [if_pos h]; omega
          · rw [if_neg h]; omega
        obtain ⟨σ', e2, h2, c2, f2⟩ := ih (m - min m (Lf fr b)) (r + 1) n' s1 (rm fr b (min m (Lf fr b))) (fun c => C c + ct (rg (min m (Lf fr b)) b) c) (G ++ rg (min m (Lf fr b)) b) (by omega) (by rw [List.length_append, rg_len]; omega) (by omega) (by omega) (by omega) c1 (fun c => by have := hB c; have := hct c; omega) (fun c hc => by
          unfold rm
          rw [hfr c hc, ct_rg]
          by_cases h : b ≤ c ∧ c < b + min m (Lf fr b)
          · rw [if_pos h, decide_eq_true h.1, decide_eq_true h.2, decide_eq_false (by omega : ¬ C c + 1 = 0)]; simp
          · rw [if_neg h, Nat.add_zero]
            have e0 : (decide (b ≤ c) && decide (c < b + min m (Lf fr b))) = false := by
              by_cases g1 : b ≤ c
              · rw [decide_eq_false (by omega : ¬ c < b + min m (Lf fr b))]; simp
              · rw [decide_eq_false g1]; simp
            rw [e0]; simp) h1
        rw [gl_s h0 e]
        refine ⟨σ', ?_, ?_, ?_, f1.tr f2⟩
        · rw [fX0_getBlocks_L7, if_neg (fun q => absurd ((nI_leI (by omega) (by omega)).mp q) (by omega)), hN.2, if_neg (fun q => absurd ((nI_leI (by omega) (by omega)).mp q) (by omega)), nI_sub (by omega), show n - G.length = m by omega, X0_bestRun_y hC hB2 hfr (by omega) (by omega), e, bd_e, hN.2, nI_sub (by omega), show n - G.length = m by omega, show oN (some b) = nI b from rfl, e1, bd_e, nI_add]
          exact e2
        · rw [List.append_assoc] at h2; exact h2
        · intro c hc
          rw [c2 c hc, ct_app]
          exact congrArg nI (by omega)
theorem X0_getBlocks_y {σ : SX} {C : Nat → Nat} {fr : Nat → Bool} {n : Nat} (hn : n ≤ 24) (hcnt : n ≤ cntP fr 48) (hC : ∀ c, c < 48 → σ.1 1 c = nI (C c)) (hB : ∀ c, C c ≤ 96) (hfr : ∀ b, b < 48 → fr b = decide (C b = 0)) : ∃ σ', fX0_getBlocks (nI n) σ = some (nI 0, σ') ∧ HG σ' (gl 24 fr n) ∧ (∀ c, c < 48 → σ'.1 1 c = nI (C c + ct (gl 24 fr n) c)) ∧ FrG σ σ' := by
  obtain ⟨σ', e1, h1, c1, f1⟩ := X0_getBlocks_L hn 24 n 0 FU (sf σ 7 (nI 0)) fr C [] (by omega) (by simp) (by omega) (by rw [FU_v]; omega) hcnt hC (fun c => by have := hB c; omega) hfr ⟨pfx_nil _ _, rfl⟩
  exact ⟨σ', e1, h1, c1, FrG.tr (show FrG σ (sf σ 7 (nI 0)) from ⟨rfl, rfl, rfl, rfl, fun k hk => sf_2n _ _ _ hk⟩) f1⟩
