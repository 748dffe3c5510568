/-! the first object's answers, all that change nothing -/
section ASK0B
variable {σ : SX}
theorem X0_goesOn_y (hV : BV (σ.1 2)) {f p : Nat} (hf : f < 4) (hp : p < 24) : fX0_goesOn (nI f) (nI p) σ = some (bI (pg (σ.1 2) f p), σ) := by
  unfold fX0_goesOn
  rw [X0_blockAt_y hf hp, bd_e]
  rcases hV (24 * f + p) (by omega) with h | ⟨b, hb, h⟩
  · rw [h, X0_isBlock_N, bs_e, if_pos rfl]
    simp [pg, h, bI]
  · rw [h, X0_isBlock_y hb, bs_e, if_neg (by decide), nI_add]
    by_cases h1 : p + 1 < 24
    · rw [X0_blockAt_y hf h1, bd_e, X0_blockAt_y hf hp, bd_e, h]
      have e : (nI b = nN) = False := nI_nN (by omega)
      by_cases h2 : σ.1 2 (24 * f + (p + 1)) = nI b + nI 1
      · rw [if_pos h2]; simp [pg, h, h1, h2, e, bI]
      · rw [if_neg h2]; simp [pg, h, h1, h2, e, bI]
    · rw [X0_blockAt_o hf (by omega) (by omega), bd_e, X0_blockAt_y hf hp, bd_e, h, nI_add]
      rw [if_neg (by rw [nN_nI (by omega)]; exact not_false)]
      simp [pg, h1, bI]
theorem X0_goesOn_m {f : Nat} (hf : f < 4) : fX0_goesOn (nI f) (nI 0 - nI 1) σ = some (nI 0, σ) := by
  unfold fX0_goesOn
  rw [X0_blockAt_n hf (Or.inl (by decide)), bd_e, X0_isBlock_N]; rfl
theorem X0_startsPiece (hV : BV (σ.1 2)) {f p : Nat} (hf : f < 4) (hp : p < 24) : fX0_startsPiece (nI f) (nI p) σ = some (bI (pb (σ.1 2) f p), σ) := by
  unfold fX0_startsPiece
  rw [X0_blockAt_y hf hp, bd_e]
  rcases hV (24 * f + p) (by omega) with h | ⟨b, hb, h⟩
  · rw [h, X0_isBlock_N, bs_e, if_pos rfl]
    simp [pb, h, bI]
  · rw [h, X0_isBlock_y hb, bs_e, if_neg (by decide)]
    have e : (nI b = nN) = False := nI_nN (by omega)
    by_cases h0 : p = 0
    · subst h0
      rw [X0_goesOn_m hf, bd_e, if_pos rfl]
      have h : σ.1 2 (24 * f) = nI b := h
      simp [pb, h, e, bI]
    · rw [nI_sub (by omega), X0_goesOn_y hV hf (by omega), bd_e]
      simp only [bI_0]
      cases hq : pg (σ.1 2) f (p - 1) <;> simp [pb, h, e, hq, h0, bI]
theorem X0_piecesOf_L (hV : BV (σ.1 2)) {f : Nat} (hf : f < 4) : ∀ k i n : Nat, i + k = 24 → k < n → fX0_piecesOf_L4 n (nI f) (nI (cntP (pb (σ.1 2) f) i)) (nI i) σ = some (nI (cntP (pb (σ.1 2) f) 24), σ) := by
  intro k
  induction k with
  | zero =>
    intro i n hi hn
    obtain ⟨n, rfl⟩ : ∃ n', n = n' + 1 := ⟨n - 1, by omega⟩
    obtain rfl : i = 24 := by omega
    simp (disch := omega) only [fX0_piecesOf_L4, nI_leI, if_pos]
  | succ k ih =>
    intro i n hi hn
    obtain ⟨n, rfl⟩ : ∃ n', n = n' + 1 := ⟨n - 1, by omega⟩
    simp (disch := omega) only [fX0_piecesOf_L4, nI_leI, if_neg]
    rw [X0_startsPiece hV hf (by omega), bd_e]
    simp (disch := omega) only [bI_0, nI_add]
    have q := ih (i + 1) n (by omega) (by omega)
    by_cases h : pb (σ.1 2) f i = true
    · rw [if_neg (by simp [h]), ← cntP_t h]; exact q
    · rw [if_pos (by simpa using h)]; rw [cntP_f h] at q; exact q
theorem X0_piecesOf (hV : BV (σ.1 2)) {f : Nat} (hf : f < 4) : fX0_piecesOf (nI f) σ = some (nI (cntP (pb (σ.1 2) f) 24), σ) := by
  unfold fX0_piecesOf
  exact X0_piecesOf_L hV hf 24 0 FU (by omega) (by rw [FU_v]; omega)
theorem X0_pieceStart_L (hV : BV (σ.1 2)) {f : Nat} (hf : f < 4) {t : Nat} (ht : t < 2 ^ 31) : ∀ k i n m : Nat, i + k = 24 → k < n → m ≤ i → fX0_pieceStart_L5 n (nI f) (nI t) (nI m) (nI i) σ = some (oN (fk (pb (σ.1 2) f) t k i m), σ) := by
  intro k
  induction k with
  | zero =>
    intro i n m hi hn hm
    obtain ⟨n, rfl⟩ : ∃ n', n = n' + 1 := ⟨n - 1, by omega⟩
    obtain rfl : i = 24 := by omega
    simp (disch := omega) only [fX0_pieceStart_L5, nI_leI, if_pos, fk, oN]
  | succ k ih =>
    intro i n m hi hn hm
    obtain ⟨n, rfl⟩ : ∃ n', n = n' + 1 := ⟨n - 1, by omega⟩
    simp (disch := omega) only [fX0_pieceStart_L5, nI_leI, if_neg]
    rw [X0_startsPiece hV hf (by omega), bd_e]
    simp (disch := omega) only [bI_0, nI_eq, nI_add]
    rw [ih (i + 1) n m (by omega) (by omega) (by omega), ih (i + 1) n (m + 1) (by omega) (by omega) (by omega)]
    show _ = some (oN (if pb (σ.1 2) f i then (if m = t then some i else fk (pb (σ.1 2) f) t k (i + 1) (m + 1)) else fk (pb (σ.1 2) f) t k (i + 1) m), σ)
    cases pb (σ.1 2) f i
    · simp
    · by_cases h : m = t <;> simp [h, oN]
theorem X0_pieceStart (hV : BV (σ.1 2)) {f : Nat} (hf : f < 4) {t : Nat} (ht : t < 2 ^ 31) : fX0_pieceStart (nI f) (nI t) σ = some (oN (fk (pb (σ.1 2) f) t 24 0 0), σ) := by
  unfold fX0_pieceStart
  exact X0_pieceStart_L hV hf ht 24 0 FU 0 (by omega) (by rw [FU_v]; omega) (by omega)
theorem X0_pieceLength_L (hV : BV (σ.1 2)) {f : Nat} (hf : f < 4) : ∀ k i n m : Nat, i + k = 24 → k < n → m ≤ i + 1 → fX0_pieceLength_L5 n (nI f) (nI m) (nI i) σ = some (nI (m + runE (pg (σ.1 2) f) k i), σ) := by
  intro k
  induction k with
  | zero =>
    intro i n m hi hn hm
    obtain ⟨n, rfl⟩ : ∃ n', n = n' + 1 := ⟨n - 1, by omega⟩
    obtain rfl : i = 24 := by omega
    simp (disch := omega) only [fX0_pieceLength_L5, nI_leI, if_pos, runE, Nat.add_zero]
  | succ k ih =>
    intro i n m hi hn hm
    obtain ⟨n, rfl⟩ : ∃ n', n = n' + 1 := ⟨n - 1, by omega⟩
    simp (disch := omega) only [fX0_pieceLength_L5, nI_leI, if_neg]
    rw [X0_goesOn_y hV hf (by omega), bd_e]
    simp (disch := omega) only [bI_0, nI_add]
    by_cases h : pg (σ.1 2) f i = true
    · rw [if_neg (by simp [h]), ih (i + 1) n (m + 1) (by omega) (by omega) (by omega), runE_t h]
      congr 3; omega
    · rw [if_pos (by simpa using h), runE_f h]; rfl
theorem X0_pieceLength (hV : BV (σ.1 2)) {f p : Nat} (hf : f < 4) (hp : p < 24) : fX0_pieceLength (nI f) (nI p) σ = some (nI (1 + runE (pg (σ.1 2) f) (24 - p) p), σ) := by
  unfold fX0_pieceLength
  rw [X0_pieceLength_L hV hf (24 - p) p FU 1 (by omega) (by rw [FU_v]; omega) (by omega)]
/-- how often the block of a place is had -/
def cP (C : Nat → Nat) (bl : Nat → Int32) (x : Nat) : Nat := if bl x = nN then 0 else C (bl x).toNatClampNeg
variable {C : Nat → Nat}
theorem X0_countAt (hC : ∀ b, b < 48 → σ.1 1 b = nI (C b)) (hV : BV (σ.1 2)) {x : Nat} (hx : x < 96) : fX0_countOf (σ.1 2 x) σ = some (nI (cP C (σ.1 2) x), σ) := by
  unfold cP
  rcases hV x hx with h | ⟨b, hb, h⟩
  · rw [if_pos h, h, X0_countOf_N]
  · rw [if_neg (by rw [h, nI_nN (by omega)]; exact not_false), h, nI_cl (by omega), X0_countOf_y hb, hC b hb]
theorem cP_lt (hB : ∀ b, C b < 2000) (bl : Nat → Int32) (x : Nat) : cP C bl x < 2000 := by
  unfold cP
  by_cases h : bl x = nN
  · rw [if_pos h]; omega
  · rw [if_neg h]; exact hB _
theorem X0_placesCountedFrom_L (hC : ∀ b, b < 48 → σ.1 1 b = nI (C b)) (hB : ∀ b, C b < 2000) (hV : BV (σ.1 2)) {f : Nat} (hf : f < 4) {u : Nat} (hu : u < 2000) : ∀ k i n : Nat, i + k = 24 → k < n → fX0_placesCountedFrom_L5 n (nI f) (nI u) (nI (cntP (fun p => decide (u ≤ cP C (σ.1 2) (24 * f + p))) i)) (nI i) σ = some (nI (cntP (fun p => decide (u ≤ cP C (σ.1 2) (24 * f + p))) 24), σ) := by
  intro k
  induction k with
  | zero =>
    intro i n hi hn
    obtain ⟨n, rfl⟩ : ∃ n', n = n' + 1 := ⟨n - 1, by omega⟩
    obtain rfl : i = 24 := by omega
    simp (disch := omega) only [fX0_placesCountedFrom_L5, nI_leI, if_pos]
  | succ k ih =>
    intro i n hi hn
    obtain ⟨n, rfl⟩ : ∃ n', n = n' + 1 := ⟨n - 1, by omega⟩
    have qb := cP_lt hB (σ.1 2) (24 * f + i)
    simp (disch := omega) only [fX0_placesCountedFrom_L5, nI_leI, if_neg]
    rw [X0_blockAt_y hf (by omega), bd_e, X0_countAt hC hV (by omega), bd_e]
    simp (disch := omega) only [nI_ltI, nI_add]
    have q := ih (i + 1) n (by omega) (by omega)
    by_cases h : u ≤ cP C (σ.1 2) (24 * f + i)
    · rw [if_neg (by omega)]; rw [cntP_t (by simpa using h)] at q; exact q
    · rw [if_pos (by omega)]; rw [cntP_f (by simpa using h)] at q; exact q
theorem X0_placesCountedFrom (hC : ∀ b, b < 48 → σ.1 1 b = nI (C b)) (hB : ∀ b, C b < 2000) (hV : BV (σ.1 2)) {f : Nat} (hf : f < 4) {u : Nat} (hu : u < 2000) : fX0_placesCountedFrom (nI f) (nI u) σ = some (nI (cntP (fun p => decide (u ≤ cP C (σ.1 2) (24 * f + p))) 24), σ) := by
  unfold fX0_placesCountedFrom
  exact X0_placesCountedFrom_L hC hB hV hf hu 24 0 FU (by omega) (by rw [FU_v]; omega)
/-- the first cell from i on, of k, in a place with a block, or without -/
def sk (bl : Nat → Int32) (f : Nat) (d : Bool) : Nat → Nat → Option Nat
  | 0, _ => none
  | k + 1, i => if (!decide (bl (24 * f + i / 4) = nN)) = d then some i else sk bl f d k (i + 1)
def skA (bl : Nat → Int32) (f : Nat) (d : Bool) (z i : Nat) (at0 : Nat) : Int32 := match sk bl f d (z - i) i with
  | some j => nI j
  | none => if d then nN else nI (max z at0)
theorem X0_seek_L (hV : BV (σ.1 2)) {f z : Nat} (hf : f < 4) (hz : z ≤ 96) (hs : σ.1 3 f = nI z) (d : Bool) {a : Nat} (ha : a ≤ 96) : ∀ k i n : Nat, z - i = k → k < n → i ≤ 96 → fX0_seek_L25 n (nI f) (nI a) (bI d) (nI i) σ = some (skA (σ.1 2) f d z i a, σ) := by
  intro k
  induction k with
  | zero =>
    intro i n hi hn hi2
    obtain ⟨n, rfl⟩ : ∃ n', n = n' + 1 := ⟨n - 1, by omega⟩
    simp (disch := omega) only [fX0_seek_L25, X0_sizeOf_y, bd_e, hs, nI_leI, if_pos, bI_0, mx_n, skA, hi, sk]
    cases d <;> simp
  | succ k ih =>
    intro i n hi hn hi2
    obtain ⟨n, rfl⟩ : ∃ n', n = n' + 1 := ⟨n - 1, by omega⟩
    simp (disch := omega) only [fX0_seek_L25, X0_sizeOf_y, bd_e, hs, nI_leI, if_neg, nI_div, X0_blockAt_y]
    have q := ih (i + 1) n (by omega) (by omega) (by omega)
    have e : skA (σ.1 2) f d z i a = if (!decide (σ.1 2 (24 * f + i / 4) = nN)) = d then nI i else skA (σ.1 2) f d z (i + 1) a := by
      unfold skA
      rw [hi, show z - (i + 1) = k by omega]
      show (match (if (!decide (σ.1 2 (24 * f + i / 4) = nN)) = d then some i else sk (σ.1 2) f d k (i + 1)) with | some j => nI j | none => if d then nN else nI (max z a)) = _
      by_cases h : (!decide (σ.1 2 (24 * f + i / 4) = nN)) = d
      · rw [if_pos h, if_pos h]
      · rw [if_neg h, if_neg h]
    rw [e, nI_add, q]
    rcases hV (24 * f + i / 4) (by omega) with h | ⟨b, hb, h⟩
    · rw [h, X0_isBlock_N, bs_e]
      cases d <;> simp [bI]
      exact fun q => absurd q (by decide)
    · rw [h, X0_isBlock_y hb, bs_e]
      have e2 : (nI b = nN) = False := nI_nN (by omega)
      cases d <;> simp [bI, e2]
      exact fun q => absurd q (by decide)
/-- the answers -/
def aRead (ce bl si : Nat → Int32) (f i : Nat) : Int32 := if bl (24 * f + i / 4) = nN then nI 0 else ce (4 * (bl (24 * f + i / 4)).toNatClampNeg + i % 4)
theorem nI_m4 {a : Nat} (h : a < 2 ^ 31) : nI a - nI a / nI 4 * nI 4 = nI (a % 4) := by
  rw [nI_div h (by omega), nI_mul, nI_sub (by omega)]
  congr 1; omega
theorem X0_read_y (hV : BV (σ.1 2)) {f i z : Nat} (hf : f < 4) (hz : z ≤ 96) (hs : σ.1 3 f = nI z) (hi : i < z) : fX0_read (nI f) (nI i) σ = some (aRead (σ.1 0) (σ.1 2) (σ.1 3) f i, σ) := by
  unfold fX0_read aRead
  rw [X0_isFile_y hf, bs_e, if_neg (by decide), if_neg (by rw [nI_nn (by omega)]; exact not_false), X0_sizeOf_y hf, bd_e, hs, if_pos ((nI_ltI (by omega) (by omega)).mpr hi), nI_m4 (by omega), nI_div (by omega) (by omega), X0_blockAt_y hf (by omega), bd_e]
  rcases hV (24 * f + i / 4) (by omega) with h | ⟨b, hb, h⟩
  · rw [h, X0_cellOf_N, bd_e, if_pos rfl]
  · rw [h, X0_cellOf_y hb (by omega), bd_e, if_neg (by rw [nI_nN (by omega)]; exact not_false), nI_cl (by omega)]
theorem X0_read_n {f z : Nat} {x : Int32} (hf : f < 4) (hz : z ≤ 96) (hs : σ.1 3 f = nI z) (hi : x < nI 0 ∨ nI z ≤ x) : fX0_read (nI f) x σ = some (-2, σ) := by
  unfold fX0_read
  rw [X0_isFile_y hf, bs_e, if_neg (by decide)]
  by_cases h : x < nI 0
  · rw [if_pos h]
  · rw [if_neg h, X0_sizeOf_y hf, bd_e, hs, if_neg (Int32.not_lt.mpr (hi.resolve_left h))]
theorem X0_read_f {x y : Int32} (h : x < nI 0 ∨ nI 4 ≤ x) : fX0_read x y σ = some (-1, σ) := by
  unfold fX0_read
  rw [X0_isFile_n h]; rfl
theorem X0_seek_y (hV : BV (σ.1 2)) {f z a : Nat} (hf : f < 4) (hz : z ≤ 96) (hs : σ.1 3 f = nI z) (d : Bool) (ha : a ≤ 96) : fX0_seek (nI f) (nI a) (bI d) σ = some (skA (σ.1 2) f d z a a, σ) := by
  unfold fX0_seek
  rw [X0_isFile_y hf, bs_e, if_neg (by decide), if_neg (by rw [nI_nn (by omega)]; exact not_false), if_pos ((nI_leI (by omega) (by omega)).mpr ha)]
  exact X0_seek_L hV hf hz hs d ha (z - a) a FU rfl (by rw [FU_v]; omega) ha
theorem X0_seek_n {f : Nat} {x y : Int32} (hf : f < 4) (hx : x < nI 0 ∨ nI 97 ≤ x) : fX0_seek (nI f) x y σ = some (-2, σ) := by
  unfold fX0_seek
  rw [X0_isFile_y hf, bs_e, if_neg (by decide)]
  by_cases h : x < nI 0
  · rw [if_pos h]
  · rw [if_neg h, if_neg (Int32.not_le.mpr (lt_of_le1 (by omega) (hx.resolve_left h)))]
theorem X0_seek_f {x y w : Int32} (h : x < nI 0 ∨ nI 4 ≤ x) : fX0_seek x y w σ = some (-1, σ) := by
  unfold fX0_seek
  rw [X0_isFile_n h]; rfl
def aOf (C : Nat → Nat) (bl si : Nat → Int32) (f : Nat) (w : Int32) : Int32 := if w = nI 0 then si f else if w = nI 1 then nI (cntP (fun p => decide (1 ≤ cP C bl (24 * f + p))) 24) else if w = nI 2 then nI (cntP (fun p => decide (2 ≤ cP C bl (24 * f + p))) 24) else if w = nI 3 then nI (cntP (pb bl f) 24) else -2
theorem X0_ofFile_y (hC : ∀ b, b < 48 → σ.1 1 b = nI (C b)) (hB : ∀ b, C b < 2000) (hV : BV (σ.1 2)) {f : Nat} (hf : f < 4) (w : Int32) : fX0_ofFile (nI f) w σ = some (aOf C (σ.1 2) (σ.1 3) f w, σ) := by
  unfold fX0_ofFile aOf
  rw [X0_isFile_y hf, bs_e, if_neg (by decide), X0_sizeOf_y hf, X0_placesCountedFrom hC hB hV hf (by omega), X0_placesCountedFrom hC hB hV hf (by omega), X0_piecesOf hV hf]
  simp only [bd_e]
  by_cases h0 : w = nI 0
  · rw [if_pos h0, if_pos h0]
  rw [if_neg h0, if_neg h0]
  by_cases h1 : w = nI 1
  · rw [if_pos h1, if_pos h1]
  rw [if_neg h1, if_neg h1]
  by_cases h2 : w = nI 2
  · rw [if_pos h2, if_pos h2]
  rw [if_neg h2, if_neg h2]
  by_cases h3 : w = nI 3
  · rw [if_pos h3, if_pos h3]
  rw [if_neg h3, if_neg h3]
theorem X0_ofFile_f {x y : Int32} (h : x < nI 0 ∨ nI 4 ≤ x) : fX0_ofFile x y σ = some (-1, σ) := by
  unfold fX0_ofFile
  rw [X0_isFile_n h]; rfl
theorem X0_block_y {f p : Nat} (hf : f < 4) (hp : p < 24) : fX0_block (nI f) (nI p) σ = some (σ.1 2 (24 * f + p), σ) := by
  unfold fX0_block
  rw [X0_isFile_y hf, bs_e, if_neg (by decide), X0_isPlace_y hp, bs_e, if_neg (by decide), X0_blockAt_y hf hp]; rfl
theorem X0_block_n {f : Nat} {x : Int32} (hf : f < 4) (hx : x < nI 0 ∨ nI 24 ≤ x) : fX0_block (nI f) x σ = some (-2, σ) := by
  unfold fX0_block
  rw [X0_isFile_y hf, bs_e, if_neg (by decide), X0_isPlace_n hx]; rfl
theorem X0_block_f {x y : Int32} (h : x < nI 0 ∨ nI 4 ≤ x) : fX0_block x y σ = some (-1, σ) := by
  unfold fX0_block
  rw [X0_isFile_n h]; rfl
def aPiece (bl : Nat → Int32) (f t : Nat) (w : Nat) : Int32 := match fk (pb bl f) t 24 0 0 with
  | none => nN
  | some p => if w = 0 then nI p else if w = 1 then bl (24 * f + p) else nI (1 + runE (pg bl f) (24 - p) p)
theorem X0_piece_y (hV : BV (σ.1 2)) {f t w : Nat} (hf : f < 4) (ht : t < 24) (hw : w < 3) : fX0_piece (nI f) (nI t) (nI w) σ = some (aPiece (σ.1 2) f t w, σ) := by
  unfold fX0_piece aPiece
  rw [X0_isFile_y hf, bs_e, if_neg (by decide), X0_isPlace_y ht, bs_e, if_neg (by decide), if_neg (by rw [nI_nn (by omega)]; exact not_false), if_pos ((nI_leI (by omega) (by omega)).mpr (by omega)), X0_pieceStart hV hf (by omega), bd_e]
  cases h : fk (pb (σ.1 2) f) t 24 0 0 with
  | none => simp only [oN, if_true]
  | some p =>
    have hp := (fk_lt h).2.1
    have e : (nI p = nN) = False := nI_nN (by omega)
    simp only [oN, e, if_false]
    rw [X0_blockAt_y hf (by omega), X0_pieceLength hV hf (by omega)]
    simp (disch := omega) only [bd_e, nI_eq]
    by_cases h0 : w = 0
    · rw [if_pos h0, if_pos h0]
    rw [if_neg h0, if_neg h0]
    by_cases h1 : w = 1
    · rw [if_pos h1, if_pos h1]
    rw [if_neg h1, if_neg h1]
theorem X0_piece_w {f t : Nat} {x : Int32} (hf : f < 4) (ht : t < 24) (hx : x < nI 0 ∨ nI 3 ≤ x) : fX0_piece (nI f) (nI t) x σ = some (-2, σ) := by
  unfold fX0_piece
  rw [X0_isFile_y hf, bs_e, if_neg (by decide), X0_isPlace_y ht, bs_e, if_neg (by decide)]
  by_cases h : x < nI 0
  · rw [if_pos h]
  · rw [if_neg h, if_neg (Int32.not_le.mpr (lt_of_le1 (by omega) (hx.resolve_left h)))]
theorem X0_piece_k {f : Nat} {x y : Int32} (hf : f < 4) (hx : x < nI 0 ∨ nI 24 ≤ x) : fX0_piece (nI f) x y σ = some (-2, σ) := by
  unfold fX0_piece
  rw [X0_isFile_y hf, bs_e, if_neg (by decide), X0_isPlace_n hx]; rfl
theorem X0_piece_f {x y w : Int32} (h : x < nI 0 ∨ nI 4 ≤ x) : fX0_piece x y w σ = some (-1, σ) := by
  unfold fX0_piece
  rw [X0_isFile_n h]; rfl
theorem X0_count_y (hC : ∀ b, b < 48 → σ.1 1 b = nI (C b)) {b : Nat} (hb : b < 48) : fX0_count (nI b) σ = some (nI (C b), σ) := by
  unfold fX0_count
  rw [X0_isBlock_y hb, bs_e, if_neg (by decide), X0_countOf_y hb, hC b hb]; rfl
theorem X0_count_n {x : Int32} (h : x < nI 0 ∨ nI 48 ≤ x) : fX0_count x σ = some (-2, σ) := by
  unfold fX0_count
  rw [X0_isBlock_n h]; rfl
def aRange (C : Nat → Nat) (t w : Nat) : Int32 := match fk (sb C (decide (w < 2))) t 48 0 0 with
  | none => nN
  | some b => if w = 0 ∨ w = 2 then nI b else if w = 4 then nI (C b) else nI (1 + runE (fun j => decide (C j = C b)) (47 - b) (b + 1))
theorem X0_range_y (hC : ∀ b, b < 48 → σ.1 1 b = nI (C b)) (hB : ∀ b, C b < 2000) {t w : Nat} (ht : t < 48) (hw : w < 5) : fX0_range (nI t) (nI w) σ = some (aRange C t w, σ) := by
  unfold fX0_range aRange
  rw [if_neg (by rw [nI_nn (by omega)]; exact not_false), if_neg (fun q => absurd ((nI_leI (by omega) (by omega)).mp q) (by omega)), if_neg (by rw [nI_nn (by omega)]; exact not_false), if_pos ((nI_leI (by omega) (by omega)).mpr (by omega))]
  have g0 := X0_stretchStart hC hB false (t := t) (by omega)
  have g1 := X0_stretchStart hC hB true (t := t) (by omega)
  rw [bI_f] at g0
  rw [bI_t] at g1
  rw [g0, g1]
  simp (disch := omega) only [bd_e, nI_leI, nI_eq]
  by_cases h2 : 2 ≤ w
  · rw [if_pos h2, decide_eq_false (by omega : ¬ w < 2)]
    cases h : fk (sb C false) t 48 0 0 with
    | none => simp only [oN, if_true]
    | some b =>
      have hb := (fk_lt h).2.1
      have e : (nI b = nN) = False := nI_nN (by omega)
      simp only [oN, e, if_false]
      rw [X0_stretchLength hC hB (by omega), X0_countOf_y (by omega), hC b (by omega)]
      simp only [bd_e]
      rcases (show w = 2 ∨ w = 3 ∨ w = 4 by omega) with rfl | rfl | rfl <;> simp
  · rw [if_neg h2, decide_eq_true (by omega : w < 2)]
    cases h : fk (sb C true) t 48 0 0 with
    | none => simp only [oN, if_true]
    | some b =>
      have hb := (fk_lt h).2.1
      have e : (nI b = nN) = False := nI_nN (by omega)
      simp only [oN, e, if_false]
      rw [X0_stretchLength hC hB (by omega), X0_countOf_y (by omega), hC b (by omega)]
      simp only [bd_e]
      rcases (show w = 0 ∨ w = 1 by omega) with rfl | rfl <;> simp
theorem X0_range_w {t : Nat} {x : Int32} (ht : t < 48) (hx : x < nI 0 ∨ nI 5 ≤ x) : fX0_range (nI t) x σ = some (-2, σ) := by
  unfold fX0_range
  rw [if_neg (by rw [nI_nn (by omega)]; exact not_false), if_neg (fun q => absurd ((nI_leI (by omega) (by omega)).mp q) (by omega))]
  by_cases h : x < nI 0
  · rw [if_pos h]
  · rw [if_neg h, if_neg (Int32.not_le.mpr (lt_of_le1 (by omega) (hx.resolve_left h)))]
theorem X0_range_k {x y : Int32} (hx : x < nI 0 ∨ nI 48 ≤ x) : fX0_range x y σ = some (-2, σ) := by
  unfold fX0_range
  by_cases h : x < nI 0
  · rw [if_pos h]
  · rw [if_neg h, if_pos (hx.resolve_left h)]
def aMany (C : Nat → Nat) (dn ls ld : Int32) (w : Int32) : Int32 := if w = nI 0 then nI (cntP (fun b => decide (C b = 0)) 48) else if w = nI 1 then nI (cntP (fun b => decide (2 ≤ C b)) 48) else if w = nI 2 then nI (cntP (sb C true) 48) else if w = nI 3 then nI (cntP (sb C false) 48) else if w = nI 4 then (if dn = nI 0 then nI 0 else nI 1) else if w = nI 5 then (if dn = nI 0 then nI 0 else ls - ld) else -2
theorem X0_many (hC : ∀ b, b < 48 → σ.1 1 b = nI (C b)) (hB : ∀ b, C b < 2000) (w : Int32) : fX0_many w σ = some (aMany C (σ.2 9) (σ.2 14) (σ.2 15) w, σ) := by
  have g0 := X0_stretchesMany hC hB false
  have g1 := X0_stretchesMany hC hB true
  rw [bI_f] at g0
  rw [bI_t] at g1
  unfold fX0_many aMany
  rw [X0_freeMany hC hB, X0_sharedMany hC hB, g0, g1]
  simp only [bd_e]
  by_cases h0 : w = nI 0
  · rw [if_pos h0, if_pos h0]
  rw [if_neg h0, if_neg h0]
  by_cases h1 : w = nI 1
  · rw [if_pos h1, if_pos h1]
  rw [if_neg h1, if_neg h1]
  by_cases h2 : w = nI 2
  · rw [if_pos h2, if_pos h2]
  rw [if_neg h2, if_neg h2]
  by_cases h3 : w = nI 3
  · rw [if_pos h3, if_pos h3]
  rw [if_neg h3, if_neg h3]
  by_cases h4 : w = nI 4
  · rw [if_pos h4, if_pos h4]
    by_cases h : σ.2 9 = nI 0
    · rw [if_pos h, if_pos h]
    · rw [if_neg h, if_neg h]
  rw [if_neg h4, if_neg h4]
  by_cases h5 : w = nI 5
  · rw [if_pos h5, if_pos h5]
    by_cases h : σ.2 9 = nI 0
    · rw [if_pos h, if_pos h]
    · rw [if_neg h, if_neg h]
  rw [if_neg h5, if_neg h5]
end ASK0B
