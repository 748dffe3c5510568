/-! the second object's answers, all that change nothing -/
theorem cntP_congr {P Q : Nat → Bool} : ∀ {n : Nat}, (∀ i, i < n → P i = Q i) → cntP P n = cntP Q n
  | 0, _ => rfl
  | n + 1, h => by
    show cntP P n + (if P n then 1 else 0) = cntP Q n + (if Q n then 1 else 0)
    rw [cntP_congr (fun i hi => h i (by omega)), h n (by omega)]
def Cc (bl : Nat → Int32) : Nat → Nat := fun b => cB bl (nI b)
theorem Cc_lt (bl : Nat → Int32) (b : Nat) : Cc bl b < 2000 := by
  have := cB_le bl (nI b)
  unfold Cc; omega
theorem cntP_pos {P : Nat → Bool} : ∀ {n x : Nat}, x < n → P x = true → 1 ≤ cntP P n
  | 0, x, h, _ => by omega
  | n + 1, x, h, hx => by
    show 1 ≤ cntP P n + (if P n then 1 else 0)
    by_cases e : x = n
    · subst e; rw [if_pos hx]; omega
    · have := cntP_pos (n := n) (x := x) (by omega) hx; omega
theorem cB_pos {bl : Nat → Int32} {x : Nat} (h : x < 96) : 1 ≤ cB bl (bl x) := cntP_pos h (by simp)
theorem cP_v {bl : Nat → Int32} {x b : Nat} (hb : b < 48) (h : bl x = nI b) : cP (Cc bl) bl x = cB bl (nI b) := by
  unfold cP Cc
  rw [if_neg (by rw [h, nI_nN (by omega)]; exact not_false), h, nI_cl (by omega)]
theorem cP_N {C : Nat → Nat} {bl : Nat → Int32} {x : Nat} (h : bl x = nN) : cP C bl x = 0 := if_pos h
theorem cP_1 {bl : Nat → Int32} (hV : BV bl) {x : Nat} (hx : x < 96) : decide (1 ≤ cP (Cc bl) bl x) = !decide (bl x = nN) := by
  rcases hV x hx with h | ⟨b, hb, h⟩
  · rw [cP_N h]; simp [h]
  · have q := cB_pos (bl := bl) hx
    rw [h] at q
    rw [cP_v hb h, h]
    have e : (nI b = nN) = False := nI_nN (by omega)
    simp only [e, decide_false, Bool.not_false]
    exact decide_eq_true q
section ASK1
variable {τ : SX}
theorem X1_countOf_L (b : Int32) : ∀ k i n : Nat, i + k = 96 → k < n → fX1_countOf_L4 n b (nI (cntP (fun x => decide (τ.1 2 x = b)) i)) (nI i) τ = some (nI (cB (τ.1 2) b), τ) := by
  intro k
  induction k with
  | zero =>
    intro i n hi hn
    obtain ⟨n, rfl⟩ : ∃ n', n = n' + 1 := ⟨n - 1, by omega⟩
    obtain rfl : i = 96 := by omega
    simp (disch := omega) only [fX1_countOf_L4, nI_leI, if_pos, cB]
  | succ k ih =>
    intro i n hi hn
    obtain ⟨n, rfl⟩ : ∃ n', n = n' + 1 := ⟨n - 1, by omega⟩
    simp (disch := omega) only [fX1_countOf_L4, nI_leI, if_neg, gD_n, nI_cl, nI_add]
    have q := ih (i + 1) n (by omega) (by omega)
    by_cases h : τ.1 2 i = b
    · rw [if_pos h]; rw [cntP_t (by simpa using h)] at q; exact q
    · rw [if_neg h]; rw [cntP_f (by simpa using h)] at q; exact q
theorem X1_countOf (b : Int32) : fX1_countOf b τ = some (nI (cB (τ.1 2) b), τ) := by
  unfold fX1_countOf
  exact X1_countOf_L b 96 0 FU (by omega) (by rw [FU_v]; omega)
theorem X1_countC (b : Nat) : fX1_countOf (nI b) τ = some (nI (Cc (τ.1 2) b), τ) := X1_countOf (nI b)
theorem X1_isShared (hV : BV (τ.1 2)) {f p : Nat} (hf : f < 4) (hp : p < 24) : fX1_isShared (nI f) (nI p) τ = some (bI (decide (2 ≤ cP (Cc (τ.1 2)) (τ.1 2) (24 * f + p))), τ) := by
  unfold fX1_isShared
  simp (disch := omega) only [nI_mul, nI_add, gD_n, nI_cl]
  rcases hV (24 * f + p) (by omega) with h | ⟨b, hb, h⟩
  · rw [if_pos h, cP_N h]; rfl
  · have e : (nI b = nN) = False := nI_nN (by omega)
    have q := cB_le (τ.1 2) (nI b)
    rw [h]
    simp only [e, if_false]
    rw [X1_countOf, bd_e, cP_v hb h]
    simp (disch := omega) only [nI_leI]
    by_cases h2 : 2 ≤ cB (τ.1 2) (nI b)
    · rw [if_neg (by omega), decide_eq_true h2]; rfl
    · rw [if_pos (by omega), decide_eq_false h2]; rfl
theorem X1_beginsPiece {f p : Nat} (hf : f < 4) (hp : p < 24) : fX1_beginsPiece (nI f) (nI p) τ = some (bI (pb (τ.1 2) f p), τ) := by
  unfold fX1_beginsPiece
  by_cases h0 : p = 0
  · subst h0
    simp (disch := omega) only [nI_mul, nI_add, gD_n, nI_cl, nI_eq, if_pos]
    by_cases h : τ.1 2 (24 * f + 0) = nN
    · rw [if_pos h]; simp [pb, bI] at h ⊢; simp [h]
    · rw [if_neg h]; simp [pb, bI] at h ⊢; simp [h]
  · have e : 24 * f + p - 1 + 1 = 24 * f + p := by omega
    have e2 : 24 * f + (p - 1) = 24 * f + p - 1 := by omega
    have e3 : p - 1 + 1 = p := by omega
    simp (disch := omega) only [nI_mul, nI_add, nI_sub, gD_n, nI_cl, nI_eq, if_neg]
    by_cases h : τ.1 2 (24 * f + p) = nN
    · rw [if_pos h]; simp [pb, bI, h]
    · rw [if_neg h]
      by_cases h1 : τ.1 2 (24 * f + p - 1) = nN
      · rw [if_pos h1]; simp [pb, pg, bI, h, h0, e2, h1]
      · rw [if_neg h1]
        by_cases h2 : τ.1 2 (24 * f + p - 1) + nI 1 = τ.1 2 (24 * f + p)
        · rw [if_pos h2]; simp [pb, pg, bI, h, h0, e2, e3, h1, h2, hp]
        · rw [if_neg h2]; simp [pb, pg, bI, h, h0, e2, e3, h1, Ne.symm h2, hp]
theorem X1_pieces_L {f : Nat} (hf : f < 4) : ∀ k i n : Nat, i + k = 24 → k < n → fX1_pieces_L4 n (nI f) (nI (cntP (pb (τ.1 2) f) i)) (nI i) τ = some (nI (cntP (pb (τ.1 2) f) 24), τ) := by
  intro k
  induction k with
  | zero =>
    intro i n hi hn
    obtain ⟨n, rfl⟩ : ∃ n', n = n' + 1 := ⟨n - 1, by omega⟩
    obtain rfl : i = 24 := by omega
    simp (disch := omega) only [fX1_pieces_L4, nI_leI, if_pos]
  | succ k ih =>
    intro i n hi hn
    obtain ⟨n, rfl⟩ : ∃ n', n = n' + 1 := ⟨n - 1, by omega⟩
    simp (disch := omega) only [fX1_pieces_L4, nI_leI, if_neg]
    rw [X1_beginsPiece hf (by omega), bd_e]
    simp (disch := omega) only [bI_0, nI_add]
    have q := ih (i + 1) n (by omega) (by omega)
    by_cases h : pb (τ.1 2) f i = true
    · rw [if_neg (by simp [h]), ← cntP_t h]; exact q
    · rw [if_pos (by simpa using h)]; rw [cntP_f h] at q; exact q
theorem X1_sharedIn_L (hV : BV (τ.1 2)) {f : Nat} (hf : f < 4) : ∀ k i n : Nat, i + k = 24 → k < n → fX1_sharedIn_L4 n (nI f) (nI (cntP (fun p => decide (2 ≤ cP (Cc (τ.1 2)) (τ.1 2) (24 * f + p))) i)) (nI i) τ = some (nI (cntP (fun p => decide (2 ≤ cP (Cc (τ.1 2)) (τ.1 2) (24 * f + p))) 24), τ) := by
  intro k
  induction k with
  | zero =>
    intro i n hi hn
    obtain ⟨n, rfl⟩ : ∃ n', n = n' + 1 := ⟨n - 1, by omega⟩
    obtain rfl : i = 24 := by omega
    simp (disch := omega) only [fX1_sharedIn_L4, nI_leI, if_pos]
  | succ k ih =>
    intro i n hi hn
    obtain ⟨n, rfl⟩ : ∃ n', n = n' + 1 := ⟨n - 1, by omega⟩
    simp (disch := omega) only [fX1_sharedIn_L4, nI_leI, if_neg]
    rw [X1_isShared hV hf (by omega), bd_e]
    simp (disch := omega) only [bI_0, nI_add]
    have q := ih (i + 1) n (by omega) (by omega)
    by_cases h : 2 ≤ cP (Cc (τ.1 2)) (τ.1 2) (24 * f + i)
    · rw [if_neg (by simpa using h)]; rw [cntP_t (by simpa using h)] at q; exact q
    · rw [if_pos (by simpa using h)]; rw [cntP_f (by simpa using h)] at q; exact q
theorem X1_placesIn_L {f : Nat} (hf : f < 4) : ∀ k i n : Nat, i + k = 24 → k < n → fX1_placesIn_L4 n (nI f) (nI (cntP (fun p => !decide (τ.1 2 (24 * f + p) = nN)) i)) (nI i) τ = some (nI (cntP (fun p => !decide (τ.1 2 (24 * f + p) = nN)) 24), τ) := by
  intro k
  induction k with
  | zero =>
    intro i n hi hn
    obtain ⟨n, rfl⟩ : ∃ n', n = n' + 1 := ⟨n - 1, by omega⟩
    obtain rfl : i = 24 := by omega
    simp (disch := omega) only [fX1_placesIn_L4, nI_leI, if_pos]
  | succ k ih =>
    intro i n hi hn
    obtain ⟨n, rfl⟩ : ∃ n', n = n' + 1 := ⟨n - 1, by omega⟩
    simp (disch := omega) only [fX1_placesIn_L4, nI_leI, if_neg, nI_mul, nI_add, gD_n, nI_cl]
    have q := ih (i + 1) n (by omega) (by omega)
    by_cases h : τ.1 2 (24 * f + i) = nN
    · rw [if_pos h]; rw [cntP_f (by simpa using h)] at q; exact q
    · rw [if_neg h]; rw [cntP_t (by simpa using h)] at q; exact q
theorem X1_ofFile_y (hV : BV (τ.1 2)) {f : Nat} (hf : f < 4) (w : Int32) : fX1_ofFile (nI f) w τ = some (aOf (Cc (τ.1 2)) (τ.1 2) (τ.1 1) f w, τ) := by
  have g1 : fX1_placesIn (nI f) τ = some (nI (cntP (fun p => decide (1 ≤ cP (Cc (τ.1 2)) (τ.1 2) (24 * f + p))) 24), τ) := by
    unfold fX1_placesIn
    rw [cntP_congr (Q := fun p => !decide (τ.1 2 (24 * f + p) = nN)) (fun i hi => cP_1 hV (by omega))]
    exact X1_placesIn_L hf 24 0 FU (by omega) (by rw [FU_v]; omega)
  have g2 : fX1_sharedIn (nI f) τ = some (nI (cntP (fun p => decide (2 ≤ cP (Cc (τ.1 2)) (τ.1 2) (24 * f + p))) 24), τ) := by
    unfold fX1_sharedIn
    exact X1_sharedIn_L hV hf 24 0 FU (by omega) (by rw [FU_v]; omega)
  have g3 : fX1_pieces (nI f) τ = some (nI (cntP (pb (τ.1 2) f) 24), τ) := by
    unfold fX1_pieces
    exact X1_pieces_L hf 24 0 FU (by omega) (by rw [FU_v]; omega)
  unfold fX1_ofFile aOf
  rw [X1_isFile_y hf, bs_e, if_neg (by decide), gD_n hf (by omega), nI_cl (by omega), g1, g2, g3]
  simp only [bd_e]
  by_cases h0 : w = nI 0
  · rw [if_pos h0, if_pos h0]
  rw [if_neg h0, if_neg h0]
  by_cases h1 : w = nI 1
  · rw [if_pos h1, if_pos h1]
  rw [if_neg h1, if_neg h1]
  by_cases h2 : w = nI 2
  · rw [if_pos h2, if_pos h2]
  rw [if_neg h2, if_neg h2]
  by_cases h3 : w = nI 3
  · rw [if_pos h3, if_pos h3]
  rw [if_neg h3, if_neg h3]
theorem X1_ofFile_f {x y : Int32} (h : x < nI 0 ∨ nI 4 ≤ x) : fX1_ofFile x y τ = some (-1, τ) := by
  unfold fX1_ofFile
  rw [X1_isFile_n h]; rfl
theorem X1_read_y (hV : BV (τ.1 2)) {f i z : Nat} (hf : f < 4) (hz : z ≤ 96) (hs : τ.1 1 f = nI z) (hi : i < z) : fX1_read (nI f) (nI i) τ = some (aRead (τ.1 0) (τ.1 2) (τ.1 1) f i, τ) := by
  unfold fX1_read aRead
  rw [X1_isFile_y hf, bs_e, if_neg (by decide), gD_n hf (by omega), nI_cl (by omega), hs, nI_sub (by omega), X1_within_y (by omega) (by omega) (by omega), bs_e, if_neg (by decide), nI_m4 (by omega), nI_div (by omega) (by omega), nI_mul, nI_add, gD_n (by omega) (by omega), nI_cl (by omega)]
  rcases hV (24 * f + i / 4) (by omega) with h | ⟨b, hb, h⟩
  · rw [if_pos h, if_pos h]
  · rw [h]
    have e : (nI b = nN) = False := nI_nN (by omega)
    simp only [e, if_false]
    rw [nI_mul, nI_add, gD_n (by omega) (by omega), nI_cl (by omega), nI_cl (by omega)]
theorem X1_read_n {f z : Nat} {x : Int32} (hf : f < 4) (hz : z ≤ 96) (hs : τ.1 1 f = nI z) (hi : x < nI 0 ∨ nI z ≤ x) : fX1_read (nI f) x τ = some (-2, τ) := by
  unfold fX1_read
  rw [X1_isFile_y hf, bs_e, if_neg (by decide), gD_n hf (by omega), nI_cl (by omega), hs]
  by_cases h : x < nI 0
  · rw [X1_within_l h (by omega), bs_e, if_pos rfl]
  · have h2 := hi.resolve_left h
    by_cases hz0 : z = 0
    · subst hz0
      rw [X1_within_g _ (Int32.lt_of_lt_of_le (by decide) h2), bs_e, if_pos rfl]
    · rw [nI_sub (by omega), X1_within_g _ (lt_of_le1 (k := z - 1) (by omega) (by rw [show z - 1 + 1 = z by omega]; exact h2)), bs_e, if_pos rfl]
theorem X1_read_f {x y : Int32} (h : x < nI 0 ∨ nI 4 ≤ x) : fX1_read x y τ = some (-1, τ) := by
  unfold fX1_read
  rw [X1_isFile_n h]; rfl
theorem X1_block_y {f p : Nat} (hf : f < 4) (hp : p < 24) : fX1_block (nI f) (nI p) τ = some (τ.1 2 (24 * f + p), τ) := by
  unfold fX1_block
  rw [X1_isFile_y hf, bs_e, if_neg (by decide), X1_isPlace_y hp, bs_e, if_neg (by decide), nI_mul, nI_add, gD_n (by omega) (by omega), nI_cl (by omega)]
theorem X1_block_n {f : Nat} {x : Int32} (hf : f < 4) (hx : x < nI 0 ∨ nI 24 ≤ x) : fX1_block (nI f) x τ = some (-2, τ) := by
  unfold fX1_block
  rw [X1_isFile_y hf, bs_e, if_neg (by decide), X1_isPlace_n hx]; rfl
theorem X1_block_f {x y : Int32} (h : x < nI 0 ∨ nI 4 ≤ x) : fX1_block x y τ = some (-1, τ) := by
  unfold fX1_block
  rw [X1_isFile_n h]; rfl
theorem pg_pb {bl : Nat → Int32} (hV : BV bl) {f q : Nat} (hf : f < 4) (hq : q < 24) (h0 : q ≠ 0) : pg bl f (q - 1) = (!decide (bl (24 * f + q) = nN) && !pb bl f q) := by
  unfold pb
  by_cases h : bl (24 * f + q) = nN
  · have e3 : q - 1 + 1 = q := by omega
    unfold pg
    rw [e3, h]
    rcases hV (24 * f + (q - 1)) (by omega) with g | ⟨b, hb, g⟩
    · simp [g]
    · rw [g, nI_add]
      have e : (nN = nI (b + 1)) = False := nN_nI (by omega)
      simp [e]
  · cases pg bl f (q - 1) <;> simp [h, h0]
theorem X1_lengthOfPiece_L (hV : BV (τ.1 2)) {f p : Nat} (hf : f < 4) (hp : p < 24) : ∀ k i n m : Nat, i + k = 24 → k < n → i + 1 = p + m → fX1_lengthOfPiece_L2 n (nI f) (nI p) (nI m) τ = some (nI (m + runE (pg (τ.1 2) f) k i), τ) := by
  intro k
  induction k with
  | zero =>
    intro i n m hi hn hm
    obtain ⟨n, rfl⟩ : ∃ n', n = n' + 1 := ⟨n - 1, by omega⟩
    simp (disch := omega) only [fX1_lengthOfPiece_L2, nI_add, nI_leI, if_pos, runE, Nat.add_zero]
  | succ k ih =>
    intro i n m hi hn hm
    obtain ⟨n, rfl⟩ : ∃ n', n = n' + 1 := ⟨n - 1, by omega⟩
    by_cases h24 : p + m < 24
    · simp (disch := omega) only [fX1_lengthOfPiece_L2, nI_mul, nI_add, nI_leI, if_neg, gD_n, nI_cl]
      rw [X1_beginsPiece hf h24, bd_e]
      simp (disch := omega) only [bI_0]
      have g := pg_pb hV hf h24 (by omega : p + m ≠ 0)
      rw [show p + m - 1 = i by omega, show 24 * f + (p + m) = 24 * f + p + m by omega] at g
      by_cases h : pg (τ.1 2) f i = true
      · rw [h] at g
        have g1 : ¬ τ.1 2 (24 * f + p + m) = nN := by intro e; simp [e] at g
        have g2 : pb (τ.1 2) f (p + m) = false := by simpa [g1] using g.symm
        rw [if_neg g1, if_pos g2, ih (i + 1) n (m + 1) (by omega) (by omega) (by omega), runE_t h]
        congr 3; omega
      · rw [runE_f h]
        by_cases g1 : τ.1 2 (24 * f + p + m) = nN
        · rw [if_pos g1]; rfl
        · have g2 : ¬ pb (τ.1 2) f (p + m) = false := by
            intro e
            rw [e] at g
            simp [g1] at g
            exact h g
          rw [if_neg g1, if_neg g2]; rfl
    · have h23 : ¬ pg (τ.1 2) f i = true := by
        unfold pg
        rw [decide_eq_false (by omega : ¬ i + 1 < 24)]
        simp
      rw [runE_f h23]
      simp (disch := omega) only [fX1_lengthOfPiece_L2, nI_add, nI_leI, if_pos, Nat.add_zero]
theorem X1_lengthOfPiece (hV : BV (τ.1 2)) {f p : Nat} (hf : f < 4) (hp : p < 24) : fX1_lengthOfPiece (nI f) (nI p) τ = some (nI (1 + runE (pg (τ.1 2) f) (24 - p) p), τ) := by
  unfold fX1_lengthOfPiece
  exact X1_lengthOfPiece_L hV hf hp (24 - p) p FU 1 (by omega) (by rw [FU_v]; omega) (by omega)
theorem X1_piece_L (hV : BV (τ.1 2)) {f t w : Nat} (hf : f < 4) (ht : t < 2 ^ 31) (hw : w < 3) : ∀ k i n m : Nat, i + k = 24 → k < n → m ≤ i → fX1_piece_L34 n (nI f) (nI t) (nI w) (nI m) (nI i) τ = some ((match fk (pb (τ.1 2) f) t k i m with
    | none => nN
    | some p => if w = 0 then nI p else if w = 1 then τ.1 2 (24 * f + p) else nI (1 + runE (pg (τ.1 2) f) (24 - p) p)), τ) := by
  intro k
  induction k with
  | zero =>
    intro i n m hi hn hm
    obtain ⟨n, rfl⟩ : ∃ n', n = n' + 1 := ⟨n - 1, by omega⟩
    obtain rfl : i = 24 := by omega
    simp (disch := omega) only [fX1_piece_L34, nI_leI, if_pos, fk]
  | succ k ih =>
    intro i n m hi hn hm
    obtain ⟨n, rfl⟩ : ∃ n', n = n' + 1 := ⟨n - 1, by omega⟩
    simp (disch := omega) only [fX1_piece_L34, nI_leI, if_neg]
    rw [X1_beginsPiece hf (by omega), bd_e, X1_lengthOfPiece hV hf (by omega)]
    simp (disch := omega) only [bI_0, nI_eq, nI_mul, nI_add, gD_n, nI_cl, bd_e]
    rw [ih (i + 1) n m (by omega) (by omega) (by omega), ih (i + 1) n (m + 1) (by omega) (by omega) (by omega)]
    have e : fk (pb (τ.1 2) f) t (k + 1) i m = if pb (τ.1 2) f i then (if m = t then some i else fk (pb (τ.1 2) f) t k (i + 1) (m + 1)) else fk (pb (τ.1 2) f) t k (i + 1) m := rfl
    rw [e]
    cases pb (τ.1 2) f i
    · simp
    · by_cases h : m = t
      · rcases (show w = 0 ∨ w = 1 ∨ w = 2 by omega) with rfl | rfl | rfl <;> simp [h]
      · simp [h]
theorem X1_piece_y (hV : BV (τ.1 2)) {f t w : Nat} (hf : f < 4) (ht : t < 24) (hw : w < 3) : fX1_piece (nI f) (nI t) (nI w) τ = some (aPiece (τ.1 2) f t w, τ) := by
  unfold fX1_piece aPiece
  rw [X1_isFile_y hf, bs_e, if_neg (by decide), X1_isPlace_y ht, bs_e, if_neg (by decide), X1_within_y (by omega) (by omega) (by omega), bs_e, if_neg (by decide)]
  exact X1_piece_L hV hf (by omega) hw 24 0 FU 0 (by omega) (by rw [FU_v]; omega) (by omega)
theorem X1_piece_w {f t : Nat} {x : Int32} (hf : f < 4) (ht : t < 24) (hx : x < nI 0 ∨ nI 3 ≤ x) : fX1_piece (nI f) (nI t) x τ = some (-2, τ) := by
  unfold fX1_piece
  rw [X1_isFile_y hf, bs_e, if_neg (by decide), X1_isPlace_y ht, bs_e, if_neg (by decide), X1_within_o rfl hx (by omega) (by omega)]; rfl
theorem X1_piece_k {f : Nat} {x y : Int32} (hf : f < 4) (hx : x < nI 0 ∨ nI 24 ≤ x) : fX1_piece (nI f) x y τ = some (-2, τ) := by
  unfold fX1_piece
  rw [X1_isFile_y hf, bs_e, if_neg (by decide), X1_isPlace_n hx]; rfl
theorem X1_piece_f {x y w : Int32} (h : x < nI 0 ∨ nI 4 ≤ x) : fX1_piece x y w τ = some (-1, τ) := by
  unfold fX1_piece
  rw [X1_isFile_n h]; rfl
theorem X1_seek_L {f z : Nat} (hf : f < 4) (hz : z ≤ 96) (hs : τ.1 1 f = nI z) (d : Bool) {a : Nat} (ha : a ≤ 96) : ∀ k i n : Nat, z - i = k → k < n → i ≤ 96 → fX1_seek_L25 n (nI f) (nI a) (bI d) (nI i) τ = some (skA (τ.1 2) f d z i a, τ) := by
  intro k
  induction k with
  | zero =>
    intro i n hi hn hi2
    obtain ⟨n, rfl⟩ : ∃ n', n = n' + 1 := ⟨n - 1, by omega⟩
    simp (disch := omega) only [fX1_seek_L25, gD_n, nI_cl, hs, nI_leI, if_pos, bI_0, skA, hi, sk]
    cases d
    · by_cases h : a ≤ z
      · simp [h, show max z a = z by omega]
      · simp [h, show max z a = a by omega]
    · simp
  | succ k ih =>
    intro i n hi hn hi2
    obtain ⟨n, rfl⟩ : ∃ n', n = n' + 1 := ⟨n - 1, by omega⟩
    simp (disch := omega) only [fX1_seek_L25, gD_n, nI_cl, hs, nI_leI, if_neg, nI_div, nI_mul, nI_add]
    have q := ih (i + 1) n (by omega) (by omega) (by omega)
    have e : skA (τ.1 2) f d z i a = if (!decide (τ.1 2 (24 * f + i / 4) = nN)) = d then nI i else skA (τ.1 2) f d z (i + 1) a := by
      unfold skA
      rw [hi, show z - (i + 1) = k by omega]
      show (match (if (!decide (τ.1 2 (24 * f + i / 4) = nN)) = d then some i else sk (τ.1 2) f d k (i + 1)) with | some j => nI j | none => if d then nN else nI (max z a)) = _
      by_cases h : (!decide (τ.1 2 (24 * f + i / 4) = nN)) = d
      · rw [if_pos h, if_pos h]
      · rw [if_neg h, if_neg h]; rfl
    rw [e, q]
    by_cases h : τ.1 2 (24 * f + i / 4) = nN
    · rw [if_pos h]
      cases d <;> simp [bI, h]
      exact fun q => absurd q (by decide)
    · rw [if_neg h]
      cases d <;> simp [bI, h]
      exact fun q => absurd q (by decide)
theorem X1_seek_y {f z a : Nat} (hf : f < 4) (hz : z ≤ 96) (hs : τ.1 1 f = nI z) (d : Bool) (ha : a ≤ 96) : fX1_seek (nI f) (nI a) (bI d) τ = some (skA (τ.1 2) f d z a a, τ) := by
  unfold fX1_seek
  rw [X1_isFile_y hf, bs_e, if_neg (by decide), X1_within_y (by omega) (by omega) (by omega), bs_e, if_neg (by decide)]
  exact X1_seek_L hf hz hs d ha (z - a) a FU rfl (by rw [FU_v]; omega) ha
theorem X1_seek_n {f : Nat} {x y : Int32} (hf : f < 4) (hx : x < nI 0 ∨ nI 97 ≤ x) : fX1_seek (nI f) x y τ = some (-2, τ) := by
  unfold fX1_seek
  rw [X1_isFile_y hf, bs_e, if_neg (by decide), X1_within_o rfl hx (by omega) (by omega)]; rfl
theorem X1_seek_f {x y w : Int32} (h : x < nI 0 ∨ nI 4 ≤ x) : fX1_seek x y w τ = some (-1, τ) := by
  unfold fX1_seek
  rw [X1_isFile_n h]; rfl
theorem X1_count_y {b : Nat} (hb : b < 48) : fX1_count (nI b) τ = some (nI (Cc (τ.1 2) b), τ) := by
  unfold fX1_count
  rw [X1_within_y (by omega) (by omega) (by omega), bs_e, if_neg (by decide), X1_countC]; rfl
theorem X1_count_n {x : Int32} (h : x < nI 0 ∨ nI 48 ≤ x) : fX1_count x τ = some (-2, τ) := by
  unfold fX1_count
  rw [X1_within_o rfl h (by omega) (by omega)]; rfl
theorem X1_beginsRange {b : Nat} (h : b < 48) (fr : Bool) : fX1_beginsRange (nI b) (bI (!fr)) τ = some (bI (sb (Cc (τ.1 2)) fr b), τ) := by
  have q1 := Cc_lt (τ.1 2) b
  have q2 := Cc_lt (τ.1 2) (b - 1)
  unfold fX1_beginsRange
  rw [X1_countC, bd_e]
  by_cases h2 : b = 0
  · subst h2
    cases fr <;> by_cases h1 : Cc (τ.1 2) 0 = 0 <;> simp (disch := omega) [bI, sb, nI_eq, nI_leI, h1]
  · have e : nI b - nI 1 = nI (b - 1) := nI_sub (by omega)
    rw [e, X1_countC]
    simp only [bd_e]
    rw [X1_countC]
    simp only [bd_e]
    cases fr <;> by_cases h1 : Cc (τ.1 2) b = 0 <;> by_cases h3 : Cc (τ.1 2) (b - 1) = Cc (τ.1 2) b <;> simp (disch := omega) [bI, sb, nI_eq, nI_leI, h1, h2, h3] <;> simp_all
theorem X1_ranges_L (fr : Bool) : ∀ k i n : Nat, i + k = 48 → k < n → fX1_ranges_L4 n (bI (!fr)) (nI (cntP (sb (Cc (τ.1 2)) fr) i)) (nI i) τ = some (nI (cntP (sb (Cc (τ.1 2)) fr) 48), τ) := by
  intro k
  induction k with
  | zero =>
    intro i n hi hn
    obtain ⟨n, rfl⟩ : ∃ n', n = n' + 1 := ⟨n - 1, by omega⟩
    obtain rfl : i = 48 := by omega
    simp (disch := omega) only [fX1_ranges_L4, nI_leI, if_pos]
  | succ k ih =>
    intro i n hi hn
    obtain ⟨n, rfl⟩ : ∃ n', n = n' + 1 := ⟨n - 1, by omega⟩
    simp (disch := omega) only [fX1_ranges_L4, nI_leI, if_neg]
    rw [X1_beginsRange (by omega) fr, bd_e]
    simp (disch := omega) only [bI_0, nI_add]
    have q := ih (i + 1) n (by omega) (by omega)
    by_cases h : sb (Cc (τ.1 2)) fr i = true
    · rw [if_neg (by simp [h]), ← cntP_t h]; exact q
    · rw [if_pos (by simpa using h)]; rw [cntP_f h] at q; exact q
theorem X1_lengthOfRange_L {b : Nat} (hb : b < 48) : ∀ k i n m : Nat, i + k = 48 → k < n → i = b + m → fX1_lengthOfRange_L2 n (nI b) (nI m) τ = some (nI (m + runE (fun j => decide (Cc (τ.1 2) j = Cc (τ.1 2) b)) k i), τ) := by
  have qb := Cc_lt (τ.1 2) b
  intro k
  induction k with
  | zero =>
    intro i n m hi hn hm
    obtain ⟨n, rfl⟩ : ∃ n', n = n' + 1 := ⟨n - 1, by omega⟩
    simp (disch := omega) only [fX1_lengthOfRange_L2, nI_add, nI_leI, if_pos, runE, Nat.add_zero]
  | succ k ih =>
    intro i n m hi hn hm
    subst hm
    have qi := Cc_lt (τ.1 2) (b + m)
    obtain ⟨n, rfl⟩ : ∃ n', n = n' + 1 := ⟨n - 1, by omega⟩
    simp (disch := omega) only [fX1_lengthOfRange_L2, nI_add, nI_leI, if_neg, X1_countC, bd_e, nI_eq]
    by_cases h : Cc (τ.1 2) (b + m) = Cc (τ.1 2) b
    · rw [if_pos h, ih (b + m + 1) n (m + 1) (by omega) (by omega) (by omega), runE_t (by simpa using h)]
      congr 3; omega
    · rw [if_neg h, runE_f (by simpa using h)]; rfl
theorem X1_lengthOfRange {b : Nat} (hb : b < 48) : fX1_lengthOfRange (nI b) τ = some (nI (1 + runE (fun j => decide (Cc (τ.1 2) j = Cc (τ.1 2) b)) (47 - b) (b + 1)), τ) := by
  unfold fX1_lengthOfRange
  exact X1_lengthOfRange_L hb (47 - b) (b + 1) FU 1 (by omega) (by rw [FU_v]; omega) (by omega)
theorem X1_range_L {t w : Nat} (ht : t < 2 ^ 31) (hw : w < 5) : ∀ k i n m : Nat, i + k = 48 → k < n → m ≤ i → fX1_range_L27 n (nI t) (nI w) (nI m) (nI i) τ = some ((match fk (sb (Cc (τ.1 2)) (decide (w < 2))) t k i m with
    | none => nN
    | some b => if w = 0 ∨ w = 2 then nI b else if w = 4 then nI (Cc (τ.1 2) b) else nI (1 + runE (fun j => decide (Cc (τ.1 2) j = Cc (τ.1 2) b)) (47 - b) (b + 1))), τ) := by
  intro k
  induction k with
  | zero =>
    intro i n m hi hn hm
    obtain ⟨n, rfl⟩ : ∃ n', n = n' + 1 := ⟨n - 1, by omega⟩
    obtain rfl : i = 48 := by omega
    simp (disch := omega) only [fX1_range_L27, nI_leI, if_pos, fk]
  | succ k ih =>
    intro i n m hi hn hm
    obtain ⟨n, rfl⟩ : ∃ n', n = n' + 1 := ⟨n - 1, by omega⟩
    have g0 := X1_beginsRange (τ := τ) (b := i) (by omega) true
    have g1 := X1_beginsRange (τ := τ) (b := i) (by omega) false
    rw [show bI (!true) = nI 0 from rfl] at g0
    rw [show bI (!false) = nI 1 from rfl] at g1
    simp (disch := omega) only [fX1_range_L27, nI_leI, if_neg]
    rw [g0, g1]
    simp only [bd_e]
    rw [X1_countC, X1_lengthOfRange (by omega)]
    simp (disch := omega) only [bd_e, bI_0, nI_eq, nI_leI, nI_add]
    rw [ih (i + 1) n m (by omega) (by omega) (by omega), ih (i + 1) n (m + 1) (by omega) (by omega) (by omega)]
    have e : ∀ P : Nat → Bool, fk P t (k + 1) i m = if P i then (if m = t then some i else fk P t k (i + 1) (m + 1)) else fk P t k (i + 1) m := fun _ => rfl
    rw [e]
    by_cases h1 : w ≤ 1
    · rw [if_pos h1, decide_eq_true (by omega : w < 2)]
      cases sb (Cc (τ.1 2)) true i
      · simp
      · by_cases h : m = t
        · rcases (show w = 0 ∨ w = 1 by omega) with rfl | rfl <;> simp [h]
        · simp [h]
    · rw [if_neg h1, decide_eq_false (by omega : ¬ w < 2)]
      cases sb (Cc (τ.1 2)) false i
      · simp
      · by_cases h : m = t
        · rcases (show w = 2 ∨ w = 3 ∨ w = 4 by omega) with rfl | rfl | rfl <;> simp [h]
        · simp [h]
theorem X1_range_y {t w : Nat} (ht : t < 48) (hw : w < 5) : fX1_range (nI t) (nI w) τ = some (aRange (Cc (τ.1 2)) t w, τ) := by
  unfold fX1_range aRange
  rw [X1_within_y (by omega) (by omega) (by omega), bs_e, if_neg (by decide), X1_within_y (by omega) (by omega) (by omega), bs_e, if_neg (by decide)]
  exact X1_range_L (by omega) hw 48 0 FU 0 (by omega) (by rw [FU_v]; omega) (by omega)
theorem X1_range_w {t : Nat} {x : Int32} (ht : t < 48) (hx : x < nI 0 ∨ nI 5 ≤ x) : fX1_range (nI t) x τ = some (-2, τ) := by
  unfold fX1_range
  rw [X1_within_y (by omega) (by omega) (by omega), bs_e, if_neg (by decide), X1_within_o rfl hx (by omega) (by omega)]; rfl
theorem X1_range_k {x y : Int32} (hx : x < nI 0 ∨ nI 48 ≤ x) : fX1_range x y τ = some (-2, τ) := by
  unfold fX1_range
  rw [X1_within_o rfl hx (by omega) (by omega)]; rfl
theorem X1_manyWith_L {lo hi : Nat} (hl : lo < 2000) (hh : hi < 2000) : ∀ k i n : Nat, i + k = 48 → k < n → fX1_manyWith_L5 n (nI lo) (nI hi) (nI (cntP (fun b => decide (lo ≤ Cc (τ.1 2) b ∧ Cc (τ.1 2) b ≤ hi)) i)) (nI i) τ = some (nI (cntP (fun b => decide (lo ≤ Cc (τ.1 2) b ∧ Cc (τ.1 2) b ≤ hi)) 48), τ) := by
  intro k
  induction k with
  | zero =>
    intro i n hi hn
    obtain ⟨n, rfl⟩ : ∃ n', n = n' + 1 := ⟨n - 1, by omega⟩
    obtain rfl : i = 48 := by omega
    simp (disch := omega) only [fX1_manyWith_L5, nI_leI, if_pos]
  | succ k ih =>
    intro i n hik hn
    have qi := Cc_lt (τ.1 2) i
    obtain ⟨n, rfl⟩ : ∃ n', n = n' + 1 := ⟨n - 1, by omega⟩
    simp (disch := omega) only [fX1_manyWith_L5, nI_leI, if_neg, X1_countC, bd_e, nI_add]
    have q := ih (i + 1) n (by omega) (by omega)
    by_cases h : lo ≤ Cc (τ.1 2) i ∧ Cc (τ.1 2) i ≤ hi
    · rw [X1_within_y h.1 h.2 (by omega), bs_e, if_neg (by decide)]; rw [cntP_t (by simpa using h)] at q; exact q
    · rw [X1_within_n (by omega) (by omega) (by omega) (by omega), bs_e, if_pos rfl]; rw [cntP_f (by simpa using h)] at q; exact q
theorem X1_many (w : Int32) : fX1_many w τ = some (aMany (Cc (τ.1 2)) (τ.2 3) (τ.2 15) (τ.2 16) w, τ) := by
  have g0 : fX1_ranges (nI 0) τ = some (nI (cntP (sb (Cc (τ.1 2)) true) 48), τ) := by
    unfold fX1_ranges
    exact X1_ranges_L true 48 0 FU (by omega) (by rw [FU_v]; omega)
  have g1 : fX1_ranges (nI 1) τ = some (nI (cntP (sb (Cc (τ.1 2)) false) 48), τ) := by
    unfold fX1_ranges
    exact X1_ranges_L false 48 0 FU (by omega) (by rw [FU_v]; omega)
  have g2 : fX1_manyWith (nI 0) (nI 0) τ = some (nI (cntP (fun b => decide (Cc (τ.1 2) b = 0)) 48), τ) := by
    unfold fX1_manyWith
    rw [cntP_congr (Q := fun b => decide (0 ≤ Cc (τ.1 2) b ∧ Cc (τ.1 2) b ≤ 0)) (fun i hi => by simp)]
    exact X1_manyWith_L (by omega) (by omega) 48 0 FU (by omega) (by rw [FU_v]; omega)
  have g3 : fX1_manyWith (nI 2) (nI 96) τ = some (nI (cntP (fun b => decide (2 ≤ Cc (τ.1 2) b)) 48), τ) := by
    unfold fX1_manyWith
    rw [cntP_congr (Q := fun b => decide (2 ≤ Cc (τ.1 2) b ∧ Cc (τ.1 2) b ≤ 96)) (fun i hi => decide_eq_decide.mpr ⟨fun h => ⟨h, cB_le (τ.1 2) (nI i)⟩, fun h => h.1⟩)]
    exact X1_manyWith_L (by omega) (by omega) 48 0 FU (by omega) (by rw [FU_v]; omega)
  unfold fX1_many aMany
  rw [g0, g1, g2, g3]
  simp only [bd_e]
  by_cases h0 : w = nI 0
  · rw [if_pos h0, if_pos h0]
  rw [if_neg h0, if_neg h0]
  by_cases h1 : w = nI 1
  · rw [if_pos h1, if_pos h1]
  rw [if_neg h1, if_neg h1]
  by_cases h2 : w = nI 2
  · rw [if_pos h2, if_pos h2]
  rw [if_neg h2, if_neg h2]
  by_cases h3 : w = nI 3
  · rw [if_pos h3, if_pos h3]
  rw [if_neg h3, if_neg h3]
  by_cases h4 : w = nI 4
  · rw [if_pos h4, if_pos h4]
    by_cases h : τ.2 3 = nI 0
    · rw [if_pos h, if_pos h]
    · rw [if_neg h, if_neg h]
  rw [if_neg h4, if_neg h4]
  by_cases h5 : w = nI 5
  · rw [if_pos h5, if_pos h5]
    by_cases h : τ.2 3 = nI 0
    · rw [if_pos h, if_pos h]
    · rw [if_neg h, if_neg h]
  rw [if_neg h5, if_neg h5]
end ASK1
