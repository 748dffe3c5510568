/-! places get blocks: the counts go with them -/
theorem cnt_upd (bl : Nat → Int32) (j : Nat) (v c : Int32) : ∀ n, (j < n → cntP (fun x => decide (upd bl j v x = c)) n + (if bl j = c then 1 else 0) = cntP (fun x => decide (bl x = c)) n + (if v = c then 1 else 0)) ∧ (n ≤ j → cntP (fun x => decide (upd bl j v x = c)) n = cntP (fun x => decide (bl x = c)) n)
  | 0 => ⟨fun h => by omega, fun _ => rfl⟩
  | n + 1 => by
    obtain ⟨h1, h2⟩ := cnt_upd bl j v c n
    have e1 : cntP (fun x => decide (upd bl j v x = c)) (n + 1) = cntP (fun x => decide (upd bl j v x = c)) n + (if upd bl j v n = c then 1 else 0) := by
      show _ + (if decide (upd bl j v n = c) = true then 1 else 0) = _
      simp only [decide_eq_true_eq]
    have e2 : cntP (fun x => decide (bl x = c)) (n + 1) = cntP (fun x => decide (bl x = c)) n + (if bl n = c then 1 else 0) := by
      show _ + (if decide (bl n = c) = true then 1 else 0) = _
      simp only [decide_eq_true_eq]
    refine ⟨fun h => ?_, fun h => ?_⟩
    · rw [e1, e2]
      by_cases e : j = n
      · subst e
        rw [h2 (Nat.le_refl _), upd_e]; omega
      · rw [upd_n _ _ _ (fun q => e q.symm)]
        have := h1 (by omega)
        omega
    · rw [e1, e2, upd_n _ _ _ (by omega), h2 (by omega)]
theorem cB_upd (bl : Nat → Int32) {j : Nat} (hj : j < 96) (v c : Int32) : cB (upd bl j v) c + (if bl j = c then 1 else 0) = cB bl c + (if v = c then 1 else 0) := (cnt_upd bl j v c 96).1 hj
/-- the counts, with so many that are got and not yet given -/
def CG (co bl : Nat → Int32) (g : Nat → Nat) : Prop := ∀ b, b < 48 → co b = nI (cB bl (nI b) + g b)
theorem CG_0 {co bl : Nat → Int32} : CG co bl (fun _ => 0) ↔ CO co bl := ⟨fun h b hb => (h b hb).trans (congrArg nI (Nat.add_zero _)), fun h b hb => (h b hb).trans (congrArg nI (Nat.add_zero _).symm)⟩
def Vb (x : Int32) : Prop := x = nN ∨ ∃ b, b < 48 ∧ x = nI b
theorem BV_upd {bl : Nat → Int32} (h : BV bl) {x : Int32} (hx : Vb x) (j : Nat) : BV (upd bl j x) := by
  intro y hy
  by_cases e : y = j
  · subst e; rw [upd_e]; exact hx
  · rw [upd_n _ _ _ e]; exact h y hy
/-- all but counts and blocks is as it was -/
def FrX (σ σ' : SX) : Prop := σ'.1 0 = σ.1 0 ∧ σ'.1 3 = σ.1 3 ∧ σ'.1 4 = σ.1 4 ∧ σ'.1 6 = σ.1 6 ∧ σ'.2 = σ.2
theorem FrX.rf (σ : SX) : FrX σ σ := ⟨rfl, rfl, rfl, rfl, rfl⟩
theorem FrX.tr {σ σ' σ'' : SX} (h : FrX σ σ') (h2 : FrX σ' σ'') : FrX σ σ'' := ⟨h2.1.trans h.1, h2.2.1.trans h.2.1, h2.2.2.1.trans h.2.2.1, h2.2.2.2.1.trans h.2.2.2.1, h2.2.2.2.2.trans h.2.2.2.2⟩
theorem nI_inj {a b : Nat} (ha : a < 2 ^ 31) (hb : b < 2 ^ 31) (h : nI a = nI b) : a = b := (nI_eq ha hb).mp h
theorem X0_addToCount {y : Int32} (hy : Vb y) (v : Int32) (σ : SX) : ∃ σ', fX0_addToCount y v σ = some (nI 0, σ') ∧ σ'.1 2 = σ.1 2 ∧ FrX σ σ' ∧ ∀ c, c < 48 → σ'.1 1 c = σ.1 1 c + (if y = nI c then v else nI 0) := by
  rcases hy with rfl | ⟨b, hb, rfl⟩
  · refine ⟨σ, by rw [fX0_addToCount, X0_isBlock_N]; rfl, rfl, FrX.rf σ, fun c hc => ?_⟩
    rw [if_neg (by rw [nN_nI (by omega)]; exact not_false)]
    show σ.1 1 c = σ.1 1 c + 0
    rw [Int32.add_zero]
  · refine ⟨sa σ 1 b (σ.1 1 b + v), ?_, rfl, ⟨rfl, rfl, rfl, rfl, rfl⟩, fun c hc => ?_⟩
    · rw [fX0_addToCount, X0_isBlock_y hb, bs_e, if_neg (by decide), gD_n hb (by omega), gD_n hb (by omega), nI_cl (by omega)]
    · rw [sa_1e]
      by_cases e : c = b
      · subst e; rw [upd_e, if_pos rfl]
      · rw [upd_n _ _ _ e, if_neg (fun q => e (nI_inj (by omega) (by omega) q).symm)]
        show σ.1 1 c = σ.1 1 c + 0
        rw [Int32.add_zero]
theorem nI_dec (a : Nat) : nI (a + 1) + (-1) = nI a := by
  have : nI (a + 1) = nI a + 1 := nI_succ a
  rw [this, Int32.add_assoc]
  exact Int32.add_zero (nI a)
theorem X0_putBlock {σ : SX} (hV : BV (σ.1 2)) {f p : Nat} (hf : f < 4) (hp : p < 24) {x : Int32} (hx : Vb x) : ∃ σ', fX0_putBlock (nI f) (nI p) x σ = some (nI 0, σ') ∧ σ'.1 2 = upd (σ.1 2) (24 * f + p) x ∧ FrX σ σ' ∧ (∀ g : Nat → Nat, (∀ b, g b < 2000) → CG (σ.1 1) (σ.1 2) g → CG (σ'.1 1) (σ'.1 2) g) ∧ ∀ c, c < 48 → σ'.1 1 c = σ.1 1 c + (if σ.1 2 (24 * f + p) = nI c then (-1) else nI 0) + (if x = nI c then nI 1 else nI 0) := by
  have h96 : 24 * f + p < 96 := by omega
  obtain ⟨s1, e1, b1, f1, c1⟩ := X0_addToCount (hV (24 * f + p) h96) (-1) σ
  obtain ⟨s2, e2, b2, f2, c2⟩ := X0_addToCount hx (nI 1) s1
  have ec : ∀ c, c < 48 → s2.1 1 c = σ.1 1 c + (if σ.1 2 (24 * f + p) = nI c then (-1) else nI 0) + (if x = nI c then nI 1 else nI 0) := fun c hc => by rw [c2 c hc, c1 c hc]
  refine ⟨sa s2 2 (24 * f + p) x, ?_, by rw [sa_1e, b2, b1], (f1.tr f2).tr ⟨rfl, rfl, rfl, rfl, rfl⟩, fun g hg hc b hb => ?_, fun c hc => ?_⟩
  · rw [fX0_putBlock, X0_isFile_y hf, bs_e, if_neg (by decide), X0_isPlace_y hp, bs_e, if_neg (by decide), X0_blockAt_y hf hp, bd_e, e1, bd_e, e2, bd_e, nI_mul, nI_add, Nat.mul_comm f 24, gD_n h96 (by omega), nI_cl (by omega)]
  · show s2.1 1 b = _
    rw [ec b hb, hc b hb, sa_1e, b2, b1]
    have q := cB_upd (σ.1 2) h96 x (nI b)
    by_cases h1 : σ.1 2 (24 * f + p) = nI b
    · rw [if_pos h1] at q ⊢
      have hpos := cB_pos (bl := σ.1 2) h96
      rw [h1] at hpos
      obtain ⟨k, hk⟩ : ∃ k, cB (σ.1 2) (nI b) + g b = k + 1 := ⟨cB (σ.1 2) (nI b) + g b - 1, by omega⟩
      rw [hk, nI_dec]
      by_cases h2 : x = nI b
      · rw [if_pos h2] at q ⊢
        rw [nI_add]; exact congrArg nI (by omega)
      · rw [if_neg h2] at q ⊢
        rw [nI_add]; exact congrArg nI (by omega)
    · rw [if_neg h1] at q ⊢
      rw [nI_add]
      by_cases h2 : x = nI b
      · rw [if_pos h2] at q ⊢
        rw [nI_add]; exact congrArg nI (by omega)
      · rw [if_neg h2] at q ⊢
        rw [nI_add]; exact congrArg nI (by omega)
  · exact ec c hc
/-! what the two objects hold: cells, blocks, sizes, and the ints of the log -/
def RX (σ : SX) (ce bl si : Nat → Int32) (i : Nat → Int32) : Prop := σ.1 0 = ce ∧ σ.1 2 = bl ∧ σ.1 3 = si ∧ CO (σ.1 1) bl ∧ ∀ k, 8 ≤ k → σ.2 k = i k
def RM (τ : SX) (ce bl si : Nat → Int32) (i : Nat → Int32) : Prop := τ.1 0 = ce ∧ τ.1 2 = bl ∧ τ.1 1 = si ∧ τ.2 10 = i 8 ∧ τ.2 3 = i 9 ∧ τ.2 11 = i 10 ∧ τ.2 12 = i 11 ∧ τ.2 13 = i 12 ∧ τ.2 14 = i 13 ∧ τ.2 15 = i 14 ∧ τ.2 16 = i 15
def LG (i : Nat → Int32) : Prop := ∃ f p g q n d : Nat, f < 4 ∧ g < 4 ∧ p + n ≤ 24 ∧ q + n ≤ 24 ∧ d < n ∧ i 10 = nI f ∧ i 11 = nI p ∧ i 12 = nI g ∧ i 13 = nI q ∧ i 14 = nI n ∧ i 15 = nI d
def OK (bl si i : Nat → Int32) : Prop := BV bl ∧ SV si ∧ (i 8 = nN ∨ ∃ k, k < 24 ∧ i 8 = nI k) ∧ (i 9 = nI 0 ∨ (i 9 = nI 1 ∧ LG i))
def IV (σ τ : SX) : Prop := ∃ ce bl si i : Nat → Int32, RX σ ce bl si i ∧ RM τ ce bl si i ∧ OK bl si i
/-- steps over the blocks, one place behind the other -/
def itU (st : (Nat → Int32) → Nat → (Nat → Int32)) : Nat → Nat → (Nat → Int32) → (Nat → Int32)
  | 0, _, bl => bl
  | k + 1, j, bl => itU st k (j + 1) (st bl j)
theorem itU_BV {st : (Nat → Int32) → Nat → (Nat → Int32)} (hs : ∀ bl j, BV bl → BV (st bl j)) : ∀ k j bl, BV bl → BV (itU st k j bl)
  | 0, _, _, h => h
  | k + 1, j, bl, h => itU_BV hs k (j + 1) (st bl j) (hs bl j h)
theorem X0_setSize_y {σ : SX} {f : Nat} (hf : f < 4) (v : Int32) : fX0_setSize (nI f) v σ = some (nI 0, sa σ 3 f v) := by
  rw [fX0_setSize, X0_isFile_y hf, bs_e, if_neg (by decide), gD_n hf (by omega), nI_cl (by omega)]
theorem i10 {α : Type} {a b : α} : (if nI 1 = nI 0 then a else b) = b := if_neg (by decide)
theorem i00 {α : Type} {a b : α} : (if nI 0 = nI 0 then a else b) = a := if_pos rfl
