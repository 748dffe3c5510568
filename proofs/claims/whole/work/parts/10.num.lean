/-! numbers and the small rows of the pure functions -/
theorem bs_e {α : Type} (r : Int32) (k : Int32 → Option α) : bs (some r) k = k r := rfl
theorem bd_e {α : Type} (r : Int32) (σ : SX) (k : Int32 → SX → Option α) : bd (some (r, σ)) k = k r σ := rfl
theorem nI_mul (a b : Nat) : nI a * nI b = nI (a * b) := by
  unfold nI
  exact (Int32.ofNat_mul a b).symm
theorem nI_sub {a b : Nat} (h : b ≤ a) : nI a - nI b = nI (a - b) := by
  have e : nI a = nI (a - b) + nI b := by rw [nI_add]; congr 1; omega
  rw [e, Int32.add_sub_cancel]
theorem nI_div {a b : Nat} (ha : a < 2 ^ 31) (hb : b < 2 ^ 31) : nI a / nI b = nI (a / b) := by
  apply Int32.toInt_inj.mp
  have h2 : a / b < 2 ^ 31 := Nat.lt_of_le_of_lt (Nat.div_le_self a b) ha
  rw [Int32.toInt_div, nI_toInt ha, nI_toInt hb, nI_toInt h2]
  have e : ((a : Int).tdiv (b : Int)) = ((a / b : Nat) : Int) := by
    rw [Int.ofNat_tdiv]
  rw [e]
  clear e
  generalize a / b = q at h2 ⊢
  apply Int.bmod_eq_of_le <;> omega
theorem nI_cl {a : Nat} (h : a < 2 ^ 31) : (nI a).toNatClampNeg = a := nI_clamp h
theorem nN_i : nN.toInt = -9 := by decide
theorem nI_nN {a : Nat} (h : a < 2 ^ 31) : (nI a = nN) = False := by
  apply eq_false
  intro e
  have h1 := congrArg Int32.toInt e
  rw [nI_toInt h, nN_i] at h1
  omega
theorem nN_nI {a : Nat} (h : a < 2 ^ 31) : (nN = nI a) = False := by
  apply eq_false
  intro e
  exact of_eq_false (nI_nN h) e.symm
theorem nN_lt0 : (nN < nI 0) = True := by decide
theorem nN_ge (a : Nat) (h : a < 2 ^ 31) : (nI a ≤ nN) = False := by
  apply eq_false
  intro e
  have h1 := Int32.le_iff_toInt_le.mp e
  rw [nI_toInt h, nN_i] at h1
  omega
theorem gD_n {α : Type} {a n : Nat} {k : Option α} (h : a < n) (hn : n < 2 ^ 31) : gD (nI a) n k = k := by
  unfold gD
  rw [if_neg (nI_in h hn)]
theorem mx_n {a b : Nat} (ha : a < 2 ^ 31) (hb : b < 2 ^ 31) : mx (nI a) (nI b) = nI (max a b) := by
  unfold mx
  by_cases h : a < b
  · rw [if_pos ((nI_ltI ha hb).mpr h)]; congr 1; omega
  · rw [if_neg (fun q => h ((nI_ltI ha hb).mp q))]; congr 1; omega
theorem mn_n {a b : Nat} (ha : a < 2 ^ 31) (hb : b < 2 ^ 31) : mn (nI a) (nI b) = nI (min a b) := by
  unfold mn
  by_cases h : b < a
  · rw [if_pos ((nI_ltI hb ha).mpr h)]; congr 1; omega
  · rw [if_neg (fun q => h ((nI_ltI hb ha).mp q))]; congr 1; omega
theorem nI_nn {a : Nat} (h : a < 2 ^ 31) : (nI a < nI 0) = False := by
  apply eq_false
  intro e
  have := (nI_ltI h (by omega)).mp e
  omega
/-- an int is a natural number below k, or not -/
theorem nI_or (x : Int32) (k : Nat) (hk : k < 2 ^ 31) : (∃ a, a < k ∧ x = nI a) ∨ (x < nI 0 ∨ nI k ≤ x) := by
  by_cases h0 : x < nI 0
  · exact Or.inr (Or.inl h0)
  · obtain ⟨j, hj, rfl⟩ := nI_of (x := x) h0
    by_cases h : j < k
    · exact Or.inl ⟨j, h, rfl⟩
    · exact Or.inr (Or.inr ((nI_leI hk hj).mpr (by omega)))
theorem sf_1 (σ : SX) (k : Nat) (v : Int32) : (sf σ k v).1 = σ.1 := rfl
theorem sa_2 (σ : SX) (k i : Nat) (v : Int32) : (sa σ k i v).2 = σ.2 := rfl
theorem sf_2 (σ : SX) (k : Nat) (v : Int32) (j : Nat) : (sf σ k v).2 j = if j = k then v else σ.2 j := rfl
theorem sa_1 (σ : SX) (k i : Nat) (v : Int32) (j : Nat) : (sa σ k i v).1 j = if j = k then upd (σ.1 k) i v else σ.1 j := rfl
theorem sf_2e (σ : SX) (k : Nat) (v : Int32) : (sf σ k v).2 k = v := if_pos rfl
theorem sf_2n (σ : SX) (k : Nat) (v : Int32) {j : Nat} (h : j ≠ k) : (sf σ k v).2 j = σ.2 j := if_neg h
theorem sa_1e (σ : SX) (k i : Nat) (v : Int32) : (sa σ k i v).1 k = upd (σ.1 k) i v := if_pos rfl
theorem sa_1n (σ : SX) (k i : Nat) (v : Int32) {j : Nat} (h : j ≠ k) : (sa σ k i v).1 j = σ.1 j := if_neg h
theorem upd_e (f : Nat → Int32) (k : Nat) (v : Int32) : upd f k v k = v := if_pos rfl
theorem upd_n (f : Nat → Int32) (k : Nat) (v : Int32) {j : Nat} (h : j ≠ k) : upd f k v j = f j := if_neg h
theorem upd_self (f : Nat → Int32) (k : Nat) : upd f k (f k) = f := by
  funext j
  unfold upd
  by_cases h : j = k
  · rw [if_pos h, h]
  · rw [if_neg h]
theorem FU_v : FU = 1000 := rfl
/-- files, places, blocks, cells: what the small tests answer -/
theorem X0_isFile_y {f : Nat} (h : f < 4) : fX0_isFile (nI f) = some (nI 1) := by
  simp (disch := omega) only [fX0_isFile, nI_ltI, nI_leI, if_pos, if_neg]
theorem X0_isFile_n {x : Int32} (h : x < nI 0 ∨ nI 4 ≤ x) : fX0_isFile x = some (nI 0) := by
  unfold fX0_isFile
  by_cases h0 : x < nI 0
  · rw [if_pos h0]
  · rw [if_neg h0, if_pos (h.resolve_left h0)]
theorem X0_isPlace_y {f : Nat} (h : f < 24) : fX0_isPlace (nI f) = some (nI 1) := by
  simp (disch := omega) only [fX0_isPlace, nI_ltI, nI_leI, if_pos, if_neg]
theorem X0_isPlace_n {x : Int32} (h : x < nI 0 ∨ nI 24 ≤ x) : fX0_isPlace x = some (nI 0) := by
  unfold fX0_isPlace
  by_cases h0 : x < nI 0
  · rw [if_pos h0]
  · rw [if_neg h0, if_pos (h.resolve_left h0)]
theorem X0_isBlock_y {f : Nat} (h : f < 48) : fX0_isBlock (nI f) = some (nI 1) := by
  simp (disch := omega) only [fX0_isBlock, nI_ltI, nI_leI, if_pos, if_neg]
theorem X0_isBlock_n {x : Int32} (h : x < nI 0 ∨ nI 48 ≤ x) : fX0_isBlock x = some (nI 0) := by
  unfold fX0_isBlock
  by_cases h0 : x < nI 0
  · rw [if_pos h0]
  · rw [if_neg h0, if_pos (h.resolve_left h0)]
theorem X0_isBlock_N : fX0_isBlock nN = some (nI 0) := X0_isBlock_n (Or.inl (by decide))
theorem X1_within_y {a b c : Nat} (h : b ≤ a) (h2 : a ≤ c) (hc : c < 2 ^ 31) : fX1_within (nI a) (nI b) (nI c) = some (nI 1) := by
  simp (disch := omega) only [fX1_within, nI_ltI, if_pos, if_neg]
theorem X1_within_n {a b c : Nat} (h : a < b ∨ c < a) (ha : a < 2 ^ 31) (hb : b < 2 ^ 31) (hc : c < 2 ^ 31) : fX1_within (nI a) (nI b) (nI c) = some (nI 0) := by
  by_cases h0 : a < b
  · simp (disch := omega) only [fX1_within, nI_ltI, if_pos]
  · simp (disch := omega) only [fX1_within, nI_ltI, if_pos, if_neg]
theorem X1_within_l {x : Int32} {b : Nat} (h : x < nI 0) (hb : b < 2 ^ 31) (c : Int32) : fX1_within x (nI b) c = some (nI 0) := by
  unfold fX1_within
  rw [if_pos (Int32.lt_of_lt_of_le h ((nI_leI (by omega) hb).mpr (by omega)))]
theorem X1_within_g {x c : Int32} (b : Int32) (h : c < x) : fX1_within x b c = some (nI 0) := by
  unfold fX1_within
  by_cases h0 : x < b
  · rw [if_pos h0]
  · rw [if_neg h0, if_pos h]
theorem lt_of_le1 {x : Int32} {k : Nat} (hk : k + 1 < 2 ^ 31) (h : nI (k + 1) ≤ x) : nI k < x :=
  Int32.lt_of_lt_of_le ((nI_ltI (by omega) hk).mpr (by omega)) h
theorem X1_within_o {x : Int32} {b c k : Nat} (hk : k = c + 1) (h : x < nI 0 ∨ nI k ≤ x) (hb : b < 2 ^ 31) (hc : c + 1 < 2 ^ 31) : fX1_within x (nI b) (nI c) = some (nI 0) := by
  subst hk
  rcases h with h | h
  · exact X1_within_l h hb _
  · exact X1_within_g _ (lt_of_le1 hc h)
theorem X1_isFile_y {f : Nat} (h : f < 4) : fX1_isFile (nI f) = some (nI 1) := by
  simp (disch := omega) only [fX1_isFile, X1_within_y, bs_e]
theorem X1_isFile_n {x : Int32} (h : x < nI 0 ∨ nI 4 ≤ x) : fX1_isFile x = some (nI 0) := by
  rw [fX1_isFile, X1_within_o rfl h (by omega) (by omega)]; rfl
theorem X1_isPlace_y {f : Nat} (h : f < 24) : fX1_isPlace (nI f) = some (nI 1) := by
  simp (disch := omega) only [fX1_isPlace, X1_within_y, bs_e]
theorem X1_isPlace_n {x : Int32} (h : x < nI 0 ∨ nI 24 ≤ x) : fX1_isPlace x = some (nI 0) := by
  rw [fX1_isPlace, X1_within_o rfl h (by omega) (by omega)]; rfl
