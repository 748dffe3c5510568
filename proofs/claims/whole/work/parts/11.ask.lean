/-! what both objects answer without a change: the words -/
def cntP (P : Nat → Bool) : Nat → Nat
  | 0 => 0
  | n + 1 => cntP P n + (if P n then 1 else 0)
theorem cntP_le (P : Nat → Bool) : ∀ n, cntP P n ≤ n
  | 0 => Nat.le_refl 0
  | n + 1 => by
    have h := cntP_le P n
    have e : cntP P (n + 1) = cntP P n + (if P n then 1 else 0) := rfl
    rw [e]
    by_cases h1 : P n = true
    · rw [if_pos h1]; omega
    · rw [if_neg h1]; omega
theorem cntP_t {P : Nat → Bool} {n : Nat} (h : P n = true) : cntP P (n + 1) = cntP P n + 1 := by
  show cntP P n + (if P n then 1 else 0) = _
  rw [if_pos h]
theorem cntP_f {P : Nat → Bool} {n : Nat} (h : ¬ P n = true) : cntP P (n + 1) = cntP P n := by
  show cntP P n + (if P n then 1 else 0) = _
  rw [if_neg h]; rfl
def runE (P : Nat → Bool) : Nat → Nat → Nat
  | 0, _ => 0
  | k + 1, i => if P i then 1 + runE P k (i + 1) else 0
theorem runE_le (P : Nat → Bool) : ∀ k i, runE P k i ≤ k
  | 0, _ => Nat.le_refl 0
  | k + 1, i => by
    have h := runE_le P k (i + 1)
    show (if P i then 1 + runE P k (i + 1) else 0) ≤ _
    by_cases h1 : P i = true
    · rw [if_pos h1]; omega
    · rw [if_neg h1]; omega
theorem runE_t {P : Nat → Bool} {k i : Nat} (h : P i = true) : runE P (k + 1) i = 1 + runE P k (i + 1) := if_pos h
theorem runE_f {P : Nat → Bool} {k i : Nat} (h : ¬ P i = true) : runE P (k + 1) i = 0 := if_neg h
def fk (P : Nat → Bool) (t : Nat) : Nat → Nat → Nat → Option Nat
  | 0, _, _ => none
  | k + 1, i, m => if P i then (if m = t then some i else fk P t k (i + 1) (m + 1)) else fk P t k (i + 1) m
theorem fk_lt {P : Nat → Bool} {t : Nat} : ∀ {k i m b : Nat}, fk P t k i m = some b → i ≤ b ∧ b < i + k ∧ P b = true
  | 0, i, m, b, h => by cases h
  | k + 1, i, m, b, h => by
    have h : (if P i then (if m = t then some i else fk P t k (i + 1) (m + 1)) else fk P t k (i + 1) m) = some b := h
    by_cases h1 : P i = true
    · rw [if_pos h1] at h
      by_cases h2 : m = t
      · rw [if_pos h2] at h; cases h; exact ⟨Nat.le_refl _, by omega, h1⟩
      · rw [if_neg h2] at h
        obtain ⟨a1, a2, a3⟩ := fk_lt h
        exact ⟨by omega, by omega, a3⟩
    · rw [if_neg h1] at h
      obtain ⟨a1, a2, a3⟩ := fk_lt h
      exact ⟨by omega, by omega, a3⟩
def oN : Option Nat → Int32
  | none => nN
  | some b => nI b
def bI (b : Bool) : Int32 := if b then nI 1 else nI 0
theorem bI_t : bI true = nI 1 := rfl
theorem bI_f : bI false = nI 0 := rfl
theorem bI_0 (b : Bool) : (bI b = nI 0) = (b = false) := by
  cases b
  · simp [bI]
  · simp only [bI, if_true]
    rw [eq_false (by decide : ¬ nI 1 = nI 0)]
    simp
theorem bI_d (p : Prop) [Decidable p] : bI (decide p) = if p then nI 1 else nI 0 := by
  by_cases h : p
  · simp [bI, h]
  · simp [bI, h]
/-- a stretch begins: of free blocks, or of others -/
def sb (C : Nat → Nat) (fr : Bool) (b : Nat) : Bool := (decide (C b = 0) == fr) && (decide (b = 0) || !decide (C (b - 1) = C b))
/-- a piece begins; it goes on -/
def pg (bl : Nat → Int32) (f p : Nat) : Bool := decide (p + 1 < 24) && (!decide (bl (24 * f + p) = nN) && decide (bl (24 * f + (p + 1)) = bl (24 * f + p) + nI 1))
def pb (bl : Nat → Int32) (f p : Nat) : Bool := !decide (bl (24 * f + p) = nN) && (decide (p = 0) || !pg bl f (p - 1))
def cB (bl : Nat → Int32) (b : Int32) : Nat := cntP (fun x => decide (bl x = b)) 96
def BV (bl : Nat → Int32) : Prop := ∀ x, x < 96 → bl x = nN ∨ ∃ b, b < 48 ∧ bl x = nI b
def SV (si : Nat → Int32) : Prop := ∀ f, f < 4 → ∃ z, z ≤ 96 ∧ si f = nI z
def CO (co bl : Nat → Int32) : Prop := ∀ b, b < 48 → co b = nI (cB bl (nI b))
theorem cB_le (bl : Nat → Int32) (b : Int32) : cB bl b ≤ 96 := cntP_le _ 96
/-! the first object -/
section ASK0
variable {σ : SX}
theorem X0_sizeOf_y {f : Nat} (h : f < 4) : fX0_sizeOf (nI f) σ = some (σ.1 3 f, σ) := by
  simp (disch := omega) only [fX0_sizeOf, X0_isFile_y, bs_e, nI_eq, if_neg, gD_n, nI_cl]
theorem X0_blockAt_y {f p : Nat} (h : f < 4) (h2 : p < 24) : fX0_blockAt (nI f) (nI p) σ = some (σ.1 2 (24 * f + p), σ) := by
  simp (disch := omega) only [fX0_blockAt, X0_isFile_y, X0_isPlace_y, bs_e, nI_eq, if_neg, nI_mul, nI_add, gD_n, nI_cl]
  rw [Nat.mul_comm f 24]
theorem X0_blockAt_n {f : Nat} {x : Int32} (h : f < 4) (h2 : x < nI 0 ∨ nI 24 ≤ x) : fX0_blockAt (nI f) x σ = some (nN, σ) := by
  simp (disch := omega) only [fX0_blockAt, X0_isFile_y, bs_e, nI_eq, if_neg]
  rw [X0_isPlace_n h2]; rfl
theorem X0_blockAt_o {f p : Nat} (h : f < 4) (h2 : 24 ≤ p) (h3 : p < 2 ^ 31) : fX0_blockAt (nI f) (nI p) σ = some (nN, σ) := X0_blockAt_n h (Or.inr ((nI_leI (by omega) h3).mpr h2))
theorem X0_countOf_y {b : Nat} (h : b < 48) : fX0_countOf (nI b) σ = some (σ.1 1 b, σ) := by
  simp (disch := omega) only [fX0_countOf, X0_isBlock_y, bs_e, nI_eq, if_neg, gD_n, nI_cl]
theorem X0_countOf_N : fX0_countOf nN σ = some (nI 0, σ) := by
  rw [fX0_countOf, X0_isBlock_N]; rfl
theorem X0_cellOf_y {b c : Nat} (h : b < 48) (h2 : c < 4) : fX0_cellOf (nI b) (nI c) σ = some (σ.1 0 (4 * b + c), σ) := by
  simp (disch := omega) only [fX0_cellOf, X0_isBlock_y, bs_e, nI_eq, nI_ltI, nI_leI, if_neg, nI_mul, nI_add, gD_n, nI_cl]
  rw [Nat.mul_comm b 4]
theorem X0_cellOf_N (c : Int32) : fX0_cellOf nN c σ = some (nI 0, σ) := by
  rw [fX0_cellOf, X0_isBlock_N]; rfl
variable {C : Nat → Nat}
theorem X0_startsStretch (hC : ∀ b, b < 48 → σ.1 1 b = nI (C b)) (hB : ∀ b, C b < 2000) {b : Nat} (h : b < 48) (fr : Bool) : fX0_startsStretch (nI b) (bI fr) σ = some (bI (sb C fr b), σ) := by
  have q1 := hB b
  have q2 := hB (b - 1)
  unfold fX0_startsStretch
  rw [X0_countOf_y h, hC b h, bd_e]
  by_cases h2 : b = 0
  · subst h2
    cases fr <;> by_cases h1 : C 0 = 0 <;> simp (disch := omega) [bI, sb, nI_eq, h1]
  · have e : nI b - nI 1 = nI (b - 1) := nI_sub (by omega)
    rw [e, X0_countOf_y (by omega : b - 1 < 48), hC (b - 1) (by omega)]
    simp only [bd_e]
    rw [X0_countOf_y h, hC b h]
    simp only [bd_e]
    cases fr <;> by_cases h1 : C b = 0 <;> by_cases h3 : C (b - 1) = C b <;> simp (disch := omega) [bI, sb, nI_eq, h1, h2, h3] <;> simp_all
theorem X0_stretchLength_L (hC : ∀ b, b < 48 → σ.1 1 b = nI (C b)) (hB : ∀ b, C b < 2000) {b : Nat} (hb : b < 48) : ∀ k i n m : Nat, i + k = 48 → k < n → m ≤ i → fX0_stretchLength_L6 n (nI b) (nI m) (nI i) σ = some (nI (m + runE (fun j => decide (C j = C b)) k i), σ) := by
  have qb := hB b
  intro k
  induction k with
  | zero =>
    intro i n m hi hn hm
    obtain ⟨n, rfl⟩ : ∃ n', n = n' + 1 := ⟨n - 1, by omega⟩
    obtain rfl : i = 48 := by omega
    simp (disch := omega) only [fX0_stretchLength_L6, nI_leI, if_pos, runE, Nat.add_zero]
  | succ k ih =>
    intro i n m hi hn hm
    have qi := hB i
    obtain ⟨n, rfl⟩ : ∃ n', n = n' + 1 := ⟨n - 1, by omega⟩
    simp (disch := omega) only [fX0_stretchLength_L6, nI_leI, if_neg, X0_countOf_y, hC, bd_e, nI_add, nI_eq]
    by_cases h : C i = C b
    · rw [if_pos h, ih (i + 1) n (m + 1) (by omega) (by omega) (by omega), runE_t (by simpa using h)]
      congr 3; omega
    · rw [if_neg h, runE_f (by simpa using h)]; rfl
theorem X0_stretchLength (hC : ∀ b, b < 48 → σ.1 1 b = nI (C b)) (hB : ∀ b, C b < 2000) {b : Nat} (hb : b < 48) : fX0_stretchLength (nI b) σ = some (nI (1 + runE (fun j => decide (C j = C b)) (47 - b) (b + 1)), σ) := by
  unfold fX0_stretchLength
  rw [nI_add, X0_stretchLength_L hC hB hb (47 - b) (b + 1) FU 1 (by omega) (by rw [FU_v]; omega) (by omega)]
theorem X0_stretchStart_L (hC : ∀ b, b < 48 → σ.1 1 b = nI (C b)) (hB : ∀ b, C b < 2000) (fr : Bool) {t : Nat} (ht : t < 2 ^ 31) : ∀ k i n m : Nat, i + k = 48 → k < n → m ≤ i → fX0_stretchStart_L5 n (nI t) (bI fr) (nI m) (nI i) σ = some (oN (fk (sb C fr) t k i m), σ) := by
  intro k
  induction k with
  | zero =>
    intro i n m hi hn hm
    obtain ⟨n, rfl⟩ : ∃ n', n = n' + 1 := ⟨n - 1, by omega⟩
    obtain rfl : i = 48 := by omega
    simp (disch := omega) only [fX0_stretchStart_L5, nI_leI, if_pos, fk, oN]
  | succ k ih =>
    intro i n m hi hn hm
    obtain ⟨n, rfl⟩ : ∃ n', n = n' + 1 := ⟨n - 1, by omega⟩
    simp (disch := omega) only [fX0_stretchStart_L5, nI_leI, if_neg]
    rw [X0_startsStretch hC hB (by omega) fr, bd_e]
    simp (disch := omega) only [bI_0, nI_eq, nI_add]
    rw [ih (i + 1) n m (by omega) (by omega) (by omega), ih (i + 1) n (m + 1) (by omega) (by omega) (by omega)]
    show _ = some (oN (if sb C fr i then (if m = t then some i else fk (sb C fr) t k (i + 1) (m + 1)) else fk (sb C fr) t k (i + 1) m), σ)
    cases sb C fr i
    · simp
    · by_cases h : m = t <;> simp [h, oN]
theorem X0_stretchStart (hC : ∀ b, b < 48 → σ.1 1 b = nI (C b)) (hB : ∀ b, C b < 2000) (fr : Bool) {t : Nat} (ht : t < 2 ^ 31) : fX0_stretchStart (nI t) (bI fr) σ = some (oN (fk (sb C fr) t 48 0 0), σ) := by
  unfold fX0_stretchStart
  exact X0_stretchStart_L hC hB fr ht 48 0 FU 0 (by omega) (by rw [FU_v]; omega) (by omega)
theorem X0_stretchesMany_L (hC : ∀ b, b < 48 → σ.1 1 b = nI (C b)) (hB : ∀ b, C b < 2000) (fr : Bool) : ∀ k i n : Nat, i + k = 48 → k < n → fX0_stretchesMany_L4 n (bI fr) (nI (cntP (sb C fr) i)) (nI i) σ = some (nI (cntP (sb C fr) 48), σ) := by
  intro k
  induction k with
  | zero =>
    intro i n hi hn
    obtain ⟨n, rfl⟩ : ∃ n', n = n' + 1 := ⟨n - 1, by omega⟩
    obtain rfl : i = 48 := by omega
    simp (disch := omega) only [fX0_stretchesMany_L4, nI_leI, if_pos]
  | succ k ih =>
    intro i n hi hn
    obtain ⟨n, rfl⟩ : ∃ n', n = n' + 1 := ⟨n - 1, by omega⟩
    simp (disch := omega) only [fX0_stretchesMany_L4, nI_leI, if_neg]
    rw [X0_startsStretch hC hB (by omega) fr, bd_e]
    simp (disch := omega) only [bI_0, nI_add]
    have q := ih (i + 1) n (by omega) (by omega)
    by_cases h : sb C fr i = true
    · rw [if_neg (by simp [h]), ← cntP_t h]; exact q
    · rw [if_pos (by simpa using h)]; rw [cntP_f h] at q; exact q
theorem X0_stretchesMany (hC : ∀ b, b < 48 → σ.1 1 b = nI (C b)) (hB : ∀ b, C b < 2000) (fr : Bool) : fX0_stretchesMany (bI fr) σ = some (nI (cntP (sb C fr) 48), σ) := by
  unfold fX0_stretchesMany
  exact X0_stretchesMany_L hC hB fr 48 0 FU (by omega) (by rw [FU_v]; omega)
theorem X0_freeMany_L (hC : ∀ b, b < 48 → σ.1 1 b = nI (C b)) (hB : ∀ b, C b < 2000) : ∀ k i n : Nat, i + k = 48 → k < n → fX0_freeMany_L4 n (nI (cntP (fun b => decide (C b = 0)) i)) (nI i) σ = some (nI (cntP (fun b => decide (C b = 0)) 48), σ) := by
  intro k
  induction k with
  | zero =>
    intro i n hi hn
    obtain ⟨n, rfl⟩ : ∃ n', n = n' + 1 := ⟨n - 1, by omega⟩
    obtain rfl : i = 48 := by omega
    simp (disch := omega) only [fX0_freeMany_L4, nI_leI, if_pos]
  | succ k ih =>
    intro i n hi hn
    have qi := hB i
    obtain ⟨n, rfl⟩ : ∃ n', n = n' + 1 := ⟨n - 1, by omega⟩
    simp (disch := omega) only [fX0_freeMany_L4, nI_leI, if_neg, X0_countOf_y, hC, bd_e, nI_eq, nI_add]
    have q := ih (i + 1) n (by omega) (by omega)
    by_cases h : C i = 0
    · rw [if_pos h]; rw [cntP_t (by simpa using h)] at q; exact q
    · rw [if_neg h]; rw [cntP_f (by simpa using h)] at q; exact q
theorem X0_freeMany (hC : ∀ b, b < 48 → σ.1 1 b = nI (C b)) (hB : ∀ b, C b < 2000) : fX0_freeMany σ = some (nI (cntP (fun b => decide (C b = 0)) 48), σ) := by
  unfold fX0_freeMany
  exact X0_freeMany_L hC hB 48 0 FU (by omega) (by rw [FU_v]; omega)
theorem X0_sharedMany_L (hC : ∀ b, b < 48 → σ.1 1 b = nI (C b)) (hB : ∀ b, C b < 2000) : ∀ k i n : Nat, i + k = 48 → k < n → fX0_sharedMany_L4 n (nI (cntP (fun b => decide (2 ≤ C b)) i)) (nI i) σ = some (nI (cntP (fun b => decide (2 ≤ C b)) 48), σ) := by
  intro k
  induction k with
  | zero =>
    intro i n hi hn
    obtain ⟨n, rfl⟩ : ∃ n', n = n' + 1 := ⟨n - 1, by omega⟩
    obtain rfl : i = 48 := by omega
    simp (disch := omega) only [fX0_sharedMany_L4, nI_leI, if_pos]
  | succ k ih =>
    intro i n hi hn
    have qi := hB i
    obtain ⟨n, rfl⟩ : ∃ n', n = n' + 1 := ⟨n - 1, by omega⟩
    have q := ih (i + 1) n (by omega) (by omega)
    by_cases h : 2 ≤ C i
    · simp (disch := omega) only [fX0_sharedMany_L4, nI_leI, if_neg, X0_countOf_y, hC, bd_e, nI_add]
      rw [cntP_t (by simpa using h)] at q; exact q
    · simp (disch := omega) only [fX0_sharedMany_L4, nI_leI, if_neg, if_pos, X0_countOf_y, hC, bd_e, nI_add]
      rw [cntP_f (by simpa using h)] at q; exact q
theorem X0_sharedMany (hC : ∀ b, b < 48 → σ.1 1 b = nI (C b)) (hB : ∀ b, C b < 2000) : fX0_sharedMany σ = some (nI (cntP (fun b => decide (2 ≤ C b)) 48), σ) := by
  unfold fX0_sharedMany
  exact X0_sharedMany_L hC hB 48 0 FU (by omega) (by rw [FU_v]; omega)
end ASK0
