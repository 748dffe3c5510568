/-! the second object gets blocks -/
section GET1
variable {τ : SX} {fr : Nat → Bool}
def MT (τ : SX) (fr : Nat → Bool) : Prop := ∀ b, b < 48 → τ.1 6 b = if fr b then nI 0 else nI 1
theorem MT_0 (h : MT τ fr) {b : Nat} (hb : b < 48) : (τ.1 6 b = nI 0) = (fr b = true) := by
  rw [h b hb]
  cases fr b
  · simp only [Bool.false_eq_true, if_false]
    rw [eq_false (by decide : ¬ nI 1 = nI 0)]
  · simp
theorem X1_beginsRun_y (h : MT τ fr) {b : Nat} (hb : b < 48) : fX1_beginsRun (nI b) τ = some (bI (stF fr b), τ) := by
  unfold fX1_beginsRun
  rw [gD_n hb (by omega), nI_cl (by omega)]
  by_cases h0 : b = 0
  · subst h0
    simp (disch := omega) only [MT_0 h hb, nI_eq, if_pos]
    unfold stF
    cases fr 0 <;> simp [bI]
  · simp (disch := omega) only [MT_0 h hb, nI_eq, if_neg, nI_sub, gD_n, nI_cl, MT_0 h (show b - 1 < 48 by omega)]
    unfold stF
    cases fr b <;> cases fr (b - 1) <;> simp [bI, h0]
theorem X1_freeFrom_L (h : MT τ fr) {b : Nat} : ∀ k i n' m : Nat, i + k = 48 → k < n' → i = b + m → fX1_freeFrom_L2 n' (nI b) (nI m) τ = some (nI (m + runE fr k i), τ) := by
  intro k
  induction k with
  | zero =>
    intro i n' m hi hn' hm
    obtain ⟨n', rfl⟩ : ∃ m, n' = m + 1 := ⟨n' - 1, by omega⟩
    simp (disch := omega) only [fX1_freeFrom_L2, nI_add, nI_leI, if_pos, runE, Nat.add_zero]
  | succ k ih =>
    intro i n' m hi hn' hm
    subst hm
    obtain ⟨n', rfl⟩ : ∃ m, n' = m + 1 := ⟨n' - 1, by omega⟩
    simp (disch := omega) only [fX1_freeFrom_L2, nI_add, nI_leI, if_neg, gD_n, nI_cl, MT_0 h (show b + m < 48 by omega)]
    by_cases hf : fr (b + m) = true
    · rw [if_pos hf, ih (b + m + 1) n' (m + 1) (by omega) (by omega) (by omega), runE_t hf]
      congr 3; omega
    · rw [if_neg hf, runE_f hf]; rfl
theorem X1_freeFrom_y (h : MT τ fr) {b : Nat} (hb : b < 48) : fX1_freeFrom (nI b) τ = some (nI (Lf fr b), τ) := by
  unfold fX1_freeFrom
  rw [X1_freeFrom_L h (48 - b) b FU 0 (by omega) (by rw [FU_v]; omega) (by omega), Nat.zero_add]; rfl
theorem X1_runFor_L (h : MT τ fr) {n : Nat} (hn2 : n < 2000) : ∀ k i n' : Nat, i + k = 48 → k < n' → fX1_runFor_L9 n' (nI n) (oN (rf fr n i).1) (oN (rf fr n i).2) (nI i) τ = some (oN (best fr n), τ) := by
  intro k
  induction k with
  | zero =>
    intro i n' hi hn'
    obtain ⟨n', rfl⟩ : ∃ m, n' = m + 1 := ⟨n' - 1, by omega⟩
    obtain rfl : i = 48 := by omega
    rw [fX1_runFor_L9, if_pos ((nI_leI (by omega) (by omega)).mpr (by omega))]
    obtain ⟨a1, a2, a3, a4⟩ := rf_ok fr n 48 (Nat.le_refl _)
    unfold best bp
    cases e : (rf fr n 48).1 with
    | none => simp only [oN, if_true]
    | some b =>
      have := (a1 b e).1
      rw [if_neg (by show ¬ nI b = nN; rw [nI_nN (by omega)]; exact not_false)]
  | succ k ih =>
    intro i n' hi hn'
    obtain ⟨n', rfl⟩ : ∃ m, n' = m + 1 := ⟨n' - 1, by omega⟩
    have q := ih (i + 1) n' (by omega) (by omega)
    obtain ⟨a1, a2, a3, a4⟩ := rf_ok fr n i (by omega)
    have hL := Lf_le fr i
    rw [fX1_runFor_L9, if_neg (fun q => absurd ((nI_leI (by omega) (by omega)).mp q) (by omega)), X1_beginsRun_y h (by omega), bd_e]
    by_cases hs : stF fr i = true
    · rw [hs, bI_t, i10, X1_freeFrom_y h (by omega), bd_e, nI_add]
      rw [rf_t hs] at q
      cases e1 : (rf fr n i).1 with
      | none =>
        rw [e1] at q
        simp only [pF] at q
        cases e2 : (rf fr n i).2 with
        | none =>
          rw [e2] at q
          simp only [pM] at q
          simp (disch := omega) only [oN, if_true, nI_ltI]
          by_cases g : Lf fr i < n
          · rw [if_pos g]; rw [if_neg (by omega)] at q; exact q
          · rw [if_neg g]; rw [if_pos (by omega)] at q; exact q
        | some m =>
          obtain ⟨m1, m2⟩ := a2 m e2
          have hm := Lf_le fr m
          rw [e2] at q
          simp only [pM] at q
          have em : (nI m = nN) = False := nI_nN (by omega)
          simp (disch := omega) only [oN, if_true, nI_ltI, em, if_false, X1_freeFrom_y h (show m < 48 by omega), bd_e, nI_leI]
          by_cases g : Lf fr i < n
          · rw [if_pos g]; rw [if_neg (by omega : ¬ n ≤ Lf fr i)] at q
            by_cases g2 : Lf fr m < Lf fr i
            · rw [if_neg (by omega)]; rw [if_pos g2] at q; exact q
            · rw [if_pos (by omega)]; rw [if_neg g2] at q; exact q
          · rw [if_neg g]; rw [if_pos (by omega : n ≤ Lf fr i)] at q
            by_cases g2 : Lf fr m < Lf fr i
            · rw [if_neg (by omega)]; rw [if_pos g2] at q; exact q
            · rw [if_pos (by omega)]; rw [if_neg g2] at q; exact q
      | some j =>
        obtain ⟨j1, j2, j3⟩ := a1 j e1
        have hj := Lf_le fr j
        have ej : (nI j = nN) = False := nI_nN (by omega)
        rw [e1] at q
        simp only [pF] at q
        cases e2 : (rf fr n i).2 with
        | none => have := (a4 e2).1; rw [e1] at this; cases this
        | some m =>
          obtain ⟨m1, m2⟩ := a2 m e2
          have hm := Lf_le fr m
          rw [e2] at q
          simp only [pM] at q
          have em : (nI m = nN) = False := nI_nN (by omega)
          simp (disch := omega) only [oN, nI_ltI, em, ej, if_false, X1_freeFrom_y h (show m < 48 by omega), X1_freeFrom_y h (show j < 48 by omega), bd_e, nI_leI]
          by_cases g : Lf fr i < n
          · rw [if_pos g]; rw [if_neg (by omega : ¬ (n ≤ Lf fr i ∧ Lf fr i < Lf fr j))] at q
            by_cases g2 : Lf fr m < Lf fr i
            · rw [if_neg (by omega)]; rw [if_pos g2] at q; exact q
            · rw [if_pos (by omega)]; rw [if_neg g2] at q; exact q
          · rw [if_neg g]
            by_cases g3 : Lf fr j ≤ Lf fr i
            · rw [if_pos g3]; rw [if_neg (by omega : ¬ (n ≤ Lf fr i ∧ Lf fr i < Lf fr j))] at q
              by_cases g2 : Lf fr m < Lf fr i
              · rw [if_neg (by omega)]; rw [if_pos g2] at q; exact q
              · rw [if_pos (by omega)]; rw [if_neg g2] at q; exact q
            · rw [if_neg g3]; rw [if_pos (by omega : n ≤ Lf fr i ∧ Lf fr i < Lf fr j)] at q
              by_cases g2 : Lf fr m < Lf fr i
              · rw [if_neg (by omega)]; rw [if_pos g2] at q; exact q
              · rw [if_pos (by omega)]; rw [if_neg g2] at q; exact q
    · have e : stF fr i = false := by simpa using hs
      rw [rf_f hs] at q
      rw [e, bI_f, i00, nI_add]
      exact q
theorem X1_runFor_y (h : MT τ fr) {n : Nat} (hn2 : n < 2000) : fX1_runFor (nI n) τ = some (oN (best fr n), τ) := by
  unfold fX1_runFor
  exact X1_runFor_L h hn2 48 0 FU (by omega) (by rw [FU_v]; omega)
end GET1
def FrM (τ τ' : SX) : Prop := τ'.1 0 = τ.1 0 ∧ τ'.1 1 = τ.1 1 ∧ τ'.1 2 = τ.1 2 ∧ τ'.1 8 = τ.1 8 ∧ ∀ k, k ≠ 4 → τ'.2 k = τ.2 k
theorem FrM.rf (τ : SX) : FrM τ τ := ⟨rfl, rfl, rfl, rfl, fun _ _ => rfl⟩
theorem FrM.tr {σ σ' σ'' : SX} (h : FrM σ σ') (h2 : FrM σ' σ'') : FrM σ σ'' := ⟨h2.1.trans h.1, h2.2.1.trans h.2.1, h2.2.2.1.trans h.2.2.1, h2.2.2.2.1.trans h.2.2.2.1, fun k hk => (h2.2.2.2.2 k hk).trans (h.2.2.2.2 k hk)⟩
def HM (τ : SX) (L : List Nat) : Prop := pfx (τ.1 5) 0 L ∧ τ.2 4 = nI L.length
theorem X1_findTaken_L : ∀ (k i n' : Nat) (τ : SX), i + k = 48 → k < n' → (∀ b, b < i → τ.1 6 b = if decide (Cc (τ.1 2) b = 0) then nI 0 else nI 1) → ∃ τ', fX1_findTaken_L2 n' (nI i) τ = some (nI 0, τ') ∧ MT τ' (fun b => decide (Cc (τ.1 2) b = 0)) ∧ FrM τ τ' := by
  intro k
  induction k with
  | zero =>
    intro i n' τ hi hn' hT
    obtain ⟨n', rfl⟩ : ∃ m, n' = m + 1 := ⟨n' - 1, by omega⟩
    obtain rfl : i = 48 := by omega
    exact ⟨τ, by rw [fX1_findTaken_L2, if_pos ((nI_leI (by omega) (by omega)).mpr (by omega))], hT, FrM.rf τ⟩
  | succ k ih =>
    intro i n' τ hi hn' hT
    obtain ⟨n', rfl⟩ : ∃ m, n' = m + 1 := ⟨n' - 1, by omega⟩
    have qi := Cc_lt (τ.1 2) i
    obtain ⟨τ', e1, h1, f1⟩ := ih (i + 1) n' (sa τ 6 i (if decide (Cc (τ.1 2) i = 0) then nI 0 else nI 1)) (by omega) (by omega) (fun b hb => by
      rw [sa_1e]
      by_cases e : b = i
      · subst e; rw [upd_e]; rfl
      · rw [upd_n _ _ _ e]; exact hT b (by omega))
    refine ⟨τ', ?_, h1, FrM.tr (show FrM τ (sa τ 6 i (if decide (Cc (τ.1 2) i = 0) then nI 0 else nI 1)) from ⟨rfl, rfl, rfl, rfl, fun _ _ => rfl⟩) f1⟩
    rw [fX1_findTaken_L2, if_neg (fun q => absurd ((nI_leI (by omega) (by omega)).mp q) (by omega)), X1_countC, bd_e]
    simp (disch := omega) only [nI_leI, gD_n, nI_cl, nI_add]
    by_cases h : Cc (τ.1 2) i = 0
    · rw [if_pos (by omega)]
      rw [decide_eq_true h, if_pos rfl] at e1
      exact e1
    · rw [if_neg (by omega)]
      rw [decide_eq_false h, if_neg (by simp)] at e1
      exact e1
theorem X1_inner {n b t : Nat} (hn : n ≤ 24) (ht : b + t ≤ 48) (K : Int32 → SX → Option (Int32 × SX)) : ∀ (k j n' : Nat) (τ : SX) (G : List Nat) (fr : Nat → Bool), k = min (t - j) (n - G.length) → j ≤ t → k < n' → G.length ≤ n → MT τ fr → HM τ G → ∃ τ', fX1_gets_L45 K n' (nI n) (nI b) (nI t) (nI j) τ = K (nI n) τ' ∧ HM τ' (G ++ rg k (b + j)) ∧ MT τ' (rm fr (b + j) k) ∧ FrM τ τ' := by
  intro k
  induction k with
  | zero =>
    intro j n' τ G fr hk hj hn' hG hT hN
    obtain ⟨n', rfl⟩ : ∃ m, n' = m + 1 := ⟨n' - 1, by omega⟩
    refine ⟨τ, ?_, ?_, ?_, FrM.rf τ⟩
    · rw [fX1_gets_L45, hN.2]
      simp (disch := omega) only [nI_leI]
      by_cases h : t ≤ j
      · rw [if_pos h]
      · rw [if_neg h, if_pos (by omega)]
    · rw [show rg 0 (b + j) = [] from rfl, List.append_nil]; exact hN
    · intro c hc
      rw [hT c hc]
      have e : rm fr (b + j) 0 c = fr c := by
        unfold rm
        by_cases g : b + j ≤ c
        · rw [decide_eq_false (by omega : ¬ c < b + j + 0)]; simp
        · rw [decide_eq_false g]; simp
      rw [e]
  | succ k ih =>
    intro j n' τ G fr hk hj hn' hG hT hN
    obtain ⟨n', rfl⟩ : ∃ m, n' = m + 1 := ⟨n' - 1, by omega⟩
    have e4 : (sa (sa τ 5 G.length (nI (b + j))) 6 (b + j) (nI 1)).2 4 = nI G.length := hN.2
    obtain ⟨τ', e1, h1, t1, f1⟩ := ih (j + 1) n' (sf (sa (sa τ 5 G.length (nI (b + j))) 6 (b + j) (nI 1)) 4 (nI (G.length + 1))) (G ++ [b + j]) (rm fr (b + j) 1) (by rw [List.length_append]; simp; omega) (by omega) (by omega) (by rw [List.length_append]; simp; omega) (fun c hc => by
        show upd (τ.1 6) (b + j) (nI 1) c = _
        by_cases e : c = b + j
        · subst e; rw [upd_e]; unfold rm; simp
        · rw [upd_n _ _ _ e, hT c hc]
          have e0 : rm fr (b + j) 1 c = fr c := by
            unfold rm
            by_cases g : b + j ≤ c
            · rw [decide_eq_false (by omega : ¬ c < b + j + 1)]; simp
            · rw [decide_eq_false g]; simp
          rw [e0]) (by
        refine ⟨?_, ?_⟩
        · have := pfx_app (x := b + j) hN.1
          rw [Nat.zero_add] at this
          exact this
        · rw [sf_2e, List.length_append]; rfl)
    refine ⟨τ', ?_, ?_, ?_, ?_⟩
    · rw [fX1_gets_L45, hN.2]
      simp (disch := omega) only [nI_leI, if_neg, nI_add, gD_n, nI_cl]
      rw [e4, nI_add]
      exact e1
    · rw [List.append_assoc] at h1; exact h1
    · intro c hc
      rw [t1 c hc]
      have e0 : rm (rm fr (b + j) 1) (b + (j + 1)) k c = rm fr (b + j) (k + 1) c := by
        unfold rm
        cases fr c
        · simp
        · by_cases g1 : b + j ≤ c ∧ c < b + j + 1
          · rw [decide_eq_true g1.1, decide_eq_true g1.2, decide_eq_true (by omega : c < b + j + (k + 1))]; simp
          · by_cases g2 : b + (j + 1) ≤ c ∧ c < b + (j + 1) + k
            · rw [decide_eq_true g2.1, decide_eq_true g2.2, decide_eq_true (by omega : b + j ≤ c), decide_eq_true (by omega : c < b + j + (k + 1))]; simp
            · have u1 : (decide (b + j ≤ c) && decide (c < b + j + 1)) = false := by
                by_cases q : b + j ≤ c
                · rw [decide_eq_false (by omega : ¬ c < b + j + 1)]; simp
                · rw [decide_eq_false q]; simp
              have u2 : (decide (b + (j + 1) ≤ c) && decide (c < b + (j + 1) + k)) = false := by
                by_cases q : b + (j + 1) ≤ c
                · rw [decide_eq_false (by omega : ¬ c < b + (j + 1) + k)]; simp
                · rw [decide_eq_false q]; simp
              have u3 : (decide (b + j ≤ c) && decide (c < b + j + (k + 1))) = false := by
                by_cases q : b + j ≤ c
                · rw [decide_eq_false (by omega : ¬ c < b + j + (k + 1))]; simp
                · rw [decide_eq_false q]; simp
              rw [u1, u2, u3]; rfl
      rw [e0]
    · exact FrM.tr (show FrM τ (sf (sa (sa τ 5 G.length (nI (b + j))) 6 (b + j) (nI 1)) 4 (nI (G.length + 1))) from ⟨rfl, rfl, rfl, rfl, fun i hi => sf_2n _ _ _ hi⟩) f1
theorem X1_gets_L {n : Nat} (hn : n ≤ 24) : ∀ (k m n' : Nat) (τ : SX) (fr : Nat → Bool) (G : List Nat), m ≤ k → G.length + m = n → m < n' → MT τ fr → HM τ G → (m ≤ cntP fr 48 → ∃ τ', fX1_gets_L9 n' (nI n) τ = some (nI 1, τ') ∧ HM τ' (G ++ gl k fr m) ∧ FrM τ τ') ∧ (¬ m ≤ cntP fr 48 → ∃ τ', fX1_gets_L9 n' (nI n) τ = some (nI 0, τ') ∧ FrM τ τ') := by
  intro k
  induction k with
  | zero =>
    intro m n' τ fr G hm hG hn' hT hN
    obtain rfl : m = 0 := by omega
    obtain ⟨n', rfl⟩ : ∃ m, n' = m + 1 := ⟨n' - 1, by omega⟩
    refine ⟨fun _ => ⟨τ, ?_, ?_, FrM.rf τ⟩, fun h => by omega⟩
    · rw [fX1_gets_L9, hN.2, if_pos ((nI_leI (by omega) (by omega)).mpr (by omega))]
    · rw [show gl 0 fr 0 = [] from rfl, List.append_nil]; exact hN
  | succ k ih =>
    intro m n' τ fr G hm hG hn' hT hN
    obtain ⟨n', rfl⟩ : ∃ m, n' = m + 1 := ⟨n' - 1, by omega⟩
    by_cases h0 : m = 0
    · subst h0
      refine ⟨fun _ => ⟨τ, ?_, ?_, FrM.rf τ⟩, fun h => by omega⟩
      · rw [fX1_gets_L9, hN.2, if_pos ((nI_leI (by omega) (by omega)).mpr (by omega))]
      · rw [gl_0, List.append_nil]; exact hN
    · have step : fX1_gets_L9 (n' + 1) (nI n) τ = bd (some (oN (best fr m), τ)) fun r1 s1 => (if r1 = nN then some ((nI 0), s1) else bd (fX1_freeFrom r1 s1) fun r2 s2 => (fX1_gets_L45 (fX1_gets_L9 n') FU (nI n) r1 r2 (nI 0) s2)) := by
        rw [fX1_gets_L9, hN.2, if_neg (fun q => absurd ((nI_leI (by omega) (by omega)).mp q) (by omega)), nI_sub (by omega), show n - G.length = m by omega, X1_runFor_y hT (by omega)]
      rw [step, bd_e]
      cases e : best fr m with
      | none =>
        have := best_none e
        refine ⟨fun h => by omega, fun _ => ⟨τ, ?_, FrM.rf τ⟩⟩
        rw [show oN none = nN from rfl, if_pos rfl]
      | some b =>
        obtain ⟨hb, hf⟩ := best_ok e
        have p1 := Lf_pos hb hf
        have p2 := Lf_le fr b
        have p3 := cnt_rm (fr := fr) (b := b) (t := min m (Lf fr b)) (fun c c1 c2 => by
          have := runE_all (P := fr) (k := 48 - b) (i := b) (j := c - b) (by show c - b < Lf fr b; omega)
          rwa [show b + (c - b) = c by omega] at this) 48
        rw [show oN (some b) = nI b from rfl, if_neg (by rw [nI_nN (by omega)]; exact not_false), X1_freeFrom_y hT hb, bd_e]
        obtain ⟨t1, e1, h1, m1, f1⟩ := X1_inner (n := n) (b := b) (t := Lf fr b) hn (by omega) (fX1_gets_L9 n') (min m (Lf fr b)) 0 FU τ G fr (by omega) (by omega) (by rw [FU_v]; omega) (by omega) hT hN
        rw [Nat.add_zero] at h1 m1
        obtain ⟨g1, g2⟩ := ih (m - min m (Lf fr b)) n' t1 (rm fr b (min m (Lf fr b))) (G ++ rg (min m (Lf fr b)) b) (by omega) (by rw [List.length_append, rg_len]; omega) (by omega) m1 h1
        refine ⟨fun h => ?_, fun h => ?_⟩
        · obtain ⟨τ', e2, h2, f2⟩ := g1 (by omega)
          refine ⟨τ', e1.trans e2, ?_, f1.tr f2⟩
          rw [gl_s h0 e, ← List.append_assoc]; exact h2
        · obtain ⟨τ', e2, f2⟩ := g2 (by omega)
          exact ⟨τ', e1.trans e2, f1.tr f2⟩
theorem X1_gets_y {τ : SX} {n : Nat} (hn : n ≤ 24) : (n ≤ cntP (fun b => decide (Cc (τ.1 2) b = 0)) 48 → ∃ τ', fX1_gets (nI n) τ = some (nI 1, τ') ∧ HM τ' (gl 24 (fun b => decide (Cc (τ.1 2) b = 0)) n) ∧ FrM τ τ') ∧ (¬ n ≤ cntP (fun b => decide (Cc (τ.1 2) b = 0)) 48 → ∃ τ', fX1_gets (nI n) τ = some (nI 0, τ') ∧ FrM τ τ') := by
  obtain ⟨t1, e1, m1, f1⟩ := X1_findTaken_L 48 0 FU τ (by omega) (by rw [FU_v]; omega) (fun b hb => by omega)
  have f2 : FrM τ (sf t1 4 (nI 0)) := f1.tr ⟨rfl, rfl, rfl, rfl, fun i hi => sf_2n _ _ _ hi⟩
  obtain ⟨g1, g2⟩ := X1_gets_L hn 24 n FU (sf t1 4 (nI 0)) _ [] (by omega) (by simp) (by rw [FU_v]; omega) m1 ⟨pfx_nil _ _, rfl⟩
  have step : fX1_gets (nI n) τ = fX1_gets_L9 FU (nI n) (sf t1 4 (nI 0)) := by
    unfold fX1_gets fX1_findTaken
    rw [e1, bd_e]
  rw [step]
  refine ⟨fun h => ?_, fun h => ?_⟩
  · obtain ⟨τ', e2, h2, f3⟩ := g1 h
    exact ⟨τ', e2, h2, f2.tr f3⟩
  · obtain ⟨τ', e2, f3⟩ := g2 h
    exact ⟨τ', e2, f2.tr f3⟩
