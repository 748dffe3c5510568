/-! runs of free blocks, and how blocks are got -/
theorem runE_congr {P Q : Nat → Bool} : ∀ {k i : Nat}, (∀ j, i ≤ j → j < i + k → P j = Q j) → runE P k i = runE Q k i
  | 0, _, _ => rfl
  | k + 1, i, h => by
    show (if P i then 1 + runE P k (i + 1) else 0) = (if Q i then 1 + runE Q k (i + 1) else 0)
    rw [h i (by omega) (by omega), runE_congr (k := k) (i := i + 1) (fun j h1 h2 => h j (by omega) (by omega))]
theorem runE_all {P : Nat → Bool} : ∀ {k i j : Nat}, j < runE P k i → P (i + j) = true
  | 0, i, j, h => by cases h
  | k + 1, i, j, h => by
    have h : j < (if P i then 1 + runE P k (i + 1) else 0) := h
    by_cases h1 : P i = true
    · rw [if_pos h1] at h
      cases j with
      | zero => exact h1
      | succ j =>
        have := runE_all (P := P) (k := k) (i := i + 1) (j := j) (by omega)
        rw [show i + (j + 1) = i + 1 + j by omega]; exact this
    · rw [if_neg h1] at h; omega
def Lf (fr : Nat → Bool) (b : Nat) : Nat := runE fr (48 - b) b
theorem Lf_le (fr : Nat → Bool) (b : Nat) : Lf fr b ≤ 48 - b := runE_le fr _ _
theorem Lf_pos {fr : Nat → Bool} {b : Nat} (hb : b < 48) (h : fr b = true) : 1 ≤ Lf fr b := by
  unfold Lf
  rw [show 48 - b = (47 - b) + 1 by omega, runE_t h]; omega
def stF (fr : Nat → Bool) (b : Nat) : Bool := fr b && (decide (b = 0) || !fr (b - 1))
def pF (fr : Nat → Bool) (n : Nat) (o : Option Nat) (i : Nat) : Option Nat := match o with
  | none => if n ≤ Lf fr i then some i else none
  | some j => if n ≤ Lf fr i ∧ Lf fr i < Lf fr j then some i else some j
def pM (fr : Nat → Bool) (o : Option Nat) (i : Nat) : Option Nat := match o with
  | none => some i
  | some j => if Lf fr j < Lf fr i then some i else some j
def rf (fr : Nat → Bool) (n : Nat) : Nat → Option Nat × Option Nat
  | 0 => (none, none)
  | i + 1 => if stF fr i then (pF fr n (rf fr n i).1 i, pM fr (rf fr n i).2 i) else rf fr n i
theorem rf_t {fr : Nat → Bool} {n i : Nat} (h : stF fr i = true) : rf fr n (i + 1) = (pF fr n (rf fr n i).1 i, pM fr (rf fr n i).2 i) := if_pos h
theorem rf_f {fr : Nat → Bool} {n i : Nat} (h : ¬ stF fr i = true) : rf fr n (i + 1) = rf fr n i := if_neg h
def bp (fm : Option Nat × Option Nat) : Option Nat := match fm.1 with
  | some b => some b
  | none => fm.2
def best (fr : Nat → Bool) (n : Nat) : Option Nat := bp (rf fr n 48)
def bL (fr : Nat → Bool) (o : Option Nat) : Nat := match o with
  | none => 0
  | some b => Lf fr b
/-- what the choice of a run keeps -/
theorem rf_ok (fr : Nat → Bool) (n : Nat) : ∀ i, i ≤ 48 → (∀ b, (rf fr n i).1 = some b → b < i ∧ fr b = true ∧ n ≤ Lf fr b) ∧ (∀ m, (rf fr n i).2 = some m → m < i ∧ fr m = true) ∧ ((rf fr n i).1 = none → ∀ m, (rf fr n i).2 = some m → Lf fr m < n) ∧ ((rf fr n i).2 = none → (rf fr n i).1 = none ∧ ∀ j, j < i → stF fr j = false)
  | 0, _ => ⟨fun b h => (by cases h), fun b h => (by cases h), fun _ m h => (by cases h), fun _ => ⟨rfl, fun j h => (by omega)⟩⟩
  | i + 1, hi => by
    obtain ⟨a1, a2, a3, a4⟩ := rf_ok fr n i (by omega)
    by_cases h : stF fr i = true
    · have hfr : fr i = true := by
        unfold stF at h
        cases hq : fr i
        · rw [hq] at h; simp at h
        · rfl
      rw [rf_t h]
      refine ⟨fun b hb => ?_, fun m hm => ?_, fun hn m hm => ?_, fun hn => ?_⟩
      · cases e : (rf fr n i).1 with
        | none =>
          rw [e] at hb
          simp only [pF] at hb
          by_cases g : n ≤ Lf fr i
          · rw [if_pos g] at hb; cases hb; exact ⟨by omega, hfr, g⟩
          · rw [if_neg g] at hb; cases hb
        | some j =>
          rw [e] at hb
          simp only [pF] at hb
          obtain ⟨b1, b2, b3⟩ := a1 j e
          by_cases g : n ≤ Lf fr i ∧ Lf fr i < Lf fr j
          · rw [if_pos g] at hb; cases hb; exact ⟨by omega, hfr, g.1⟩
          · rw [if_neg g] at hb; cases hb; exact ⟨by omega, b2, b3⟩
      · cases e : (rf fr n i).2 with
        | none => rw [e] at hm; simp only [pM] at hm; cases hm; exact ⟨by omega, hfr⟩
        | some j =>
          rw [e] at hm
          simp only [pM] at hm
          obtain ⟨b1, b2⟩ := a2 j e
          by_cases g : Lf fr j < Lf fr i
          · rw [if_pos g] at hm; cases hm; exact ⟨by omega, hfr⟩
          · rw [if_neg g] at hm; cases hm; exact ⟨by omega, b2⟩
      · cases e : (rf fr n i).1 with
        | some j =>
          rw [e] at hn
          simp only [pF] at hn
          by_cases g : n ≤ Lf fr i ∧ Lf fr i < Lf fr j
          · rw [if_pos g] at hn; cases hn
          · rw [if_neg g] at hn; cases hn
        | none =>
          rw [e] at hn
          simp only [pF] at hn
          have g : ¬ n ≤ Lf fr i := by
            intro g
            rw [if_pos g] at hn; cases hn
          cases e2 : (rf fr n i).2 with
          | none => rw [e2] at hm; simp only [pM] at hm; cases hm; omega
          | some j =>
            rw [e2] at hm
            simp only [pM] at hm
            have := a3 e j e2
            by_cases g2 : Lf fr j < Lf fr i
            · rw [if_pos g2] at hm; cases hm; omega
            · rw [if_neg g2] at hm; cases hm; omega
      · cases e2 : (rf fr n i).2 with
        | none => rw [e2] at hn; simp only [pM] at hn; cases hn
        | some j =>
          rw [e2] at hn
          simp only [pM] at hn
          by_cases g2 : Lf fr j < Lf fr i
          · rw [if_pos g2] at hn; cases hn
          · rw [if_neg g2] at hn; cases hn
    · rw [rf_f h]
      refine ⟨fun b hb => ?_, fun m hm => ?_, a3, fun hn => ?_⟩
      · obtain ⟨b1, b2, b3⟩ := a1 b hb; exact ⟨by omega, b2, b3⟩
      · obtain ⟨b1, b2⟩ := a2 m hm; exact ⟨by omega, b2⟩
      · obtain ⟨b1, b2⟩ := a4 hn
        refine ⟨b1, fun j hj => ?_⟩
        by_cases e : j = i
        · subst e; simpa using h
        · exact b2 j (by omega)
theorem best_ok {fr : Nat → Bool} {n b : Nat} (h : best fr n = some b) : b < 48 ∧ fr b = true := by
  obtain ⟨a1, a2, a3, a4⟩ := rf_ok fr n 48 (Nat.le_refl _)
  unfold best bp at h
  cases e : (rf fr n 48).1 with
  | some j => rw [e] at h; cases h; exact ⟨(a1 b e).1, (a1 b e).2.1⟩
  | none => rw [e] at h; exact a2 b h
/-- no run: nothing is free -/
theorem no_start {fr : Nat → Bool} : ∀ n, (∀ j, j < n → stF fr j = false) → ∀ j, j < n → fr j = false
  | 0, _, j, h => by omega
  | n + 1, hs, j, hj => by
    have ih := no_start n (fun j h => hs j (by omega))
    by_cases e : j = n
    · subst e
      have h := hs j (by omega)
      unfold stF at h
      cases j with
      | zero => simpa using h
      | succ j =>
        have g := ih j (by omega)
        simp [g] at h
        exact h
    · exact ih j (by omega)
theorem cntP_0 {P : Nat → Bool} : ∀ {n : Nat}, (∀ j, j < n → P j = false) → cntP P n = 0
  | 0, _ => rfl
  | n + 1, h => by
    rw [cntP_f (by rw [h n (by omega)]; simp)]
    exact cntP_0 (fun j hj => h j (by omega))
theorem best_none {fr : Nat → Bool} {n : Nat} (h : best fr n = none) : cntP fr 48 = 0 := by
  obtain ⟨a1, a2, a3, a4⟩ := rf_ok fr n 48 (Nat.le_refl _)
  unfold best bp at h
  cases e : (rf fr n 48).1 with
  | some j => rw [e] at h; cases h
  | none =>
    rw [e] at h
    exact cntP_0 (no_start 48 (a4 h).2)
def rg : Nat → Nat → List Nat
  | 0, _ => []
  | k + 1, b => b :: rg k (b + 1)
theorem rg_len : ∀ k b, (rg k b).length = k
  | 0, _ => rfl
  | k + 1, b => by show (rg k (b + 1)).length + 1 = _; rw [rg_len k (b + 1)]
theorem rg_mem : ∀ {k b x : Nat}, x ∈ rg k b → b ≤ x ∧ x < b + k
  | 0, b, x, h => by cases h
  | k + 1, b, x, h => by
    rcases List.mem_cons.mp (show x ∈ b :: rg k (b + 1) from h) with rfl | h
    · omega
    · have := rg_mem h; omega
def ct : List Nat → Nat → Nat
  | [], _ => 0
  | x :: L, c => (if x = c then 1 else 0) + ct L c
theorem ct_app : ∀ (L M : List Nat) (c : Nat), ct (L ++ M) c = ct L c + ct M c
  | [], M, c => by show ct M c = 0 + ct M c; omega
  | x :: L, M, c => by
    show (if x = c then 1 else 0) + ct (L ++ M) c = (if x = c then 1 else 0) + ct L c + ct M c
    rw [ct_app L M c]; omega
theorem ct_rg : ∀ (k b c : Nat), ct (rg k b) c = if b ≤ c ∧ c < b + k then 1 else 0
  | 0, b, c => by rw [if_neg (by omega)]; rfl
  | k + 1, b, c => by
    show (if b = c then 1 else 0) + ct (rg k (b + 1)) c = _
    rw [ct_rg k (b + 1) c]
    by_cases h : b = c
    · rw [if_pos h, if_neg (by omega), if_pos (by omega)]
    · rw [if_neg h]
      by_cases h2 : b + 1 ≤ c ∧ c < b + 1 + k
      · rw [if_pos h2, if_pos (by omega)]
      · rw [if_neg h2, if_neg (by omega)]
def rm (fr : Nat → Bool) (b t : Nat) : Nat → Bool := fun c => fr c && !(decide (b ≤ c) && decide (c < b + t))
theorem cnt_rm {fr : Nat → Bool} {b t : Nat} (h : ∀ c, b ≤ c → c < b + t → fr c = true) : ∀ n, cntP (rm fr b t) n + (min n (b + t) - min n b) = cntP fr n
  | 0 => by show 0 + _ = 0; omega
  | n + 1 => by
    have ih := cnt_rm h n
    by_cases hin : b ≤ n ∧ n < b + t
    · rw [cntP_t (h n hin.1 hin.2), cntP_f (by simp [rm, hin.1, hin.2])]
      omega
    · by_cases hf : fr n = true
      · rw [cntP_t hf, cntP_t (by simp only [rm, hf]; simp; omega)]
        omega
      · rw [cntP_f hf, cntP_f (by simp [rm, hf])]
        omega
def gl : Nat → (Nat → Bool) → Nat → List Nat
  | 0, _, _ => []
  | k + 1, fr, m => if m = 0 then [] else match best fr m with
    | none => []
    | some b => rg (min m (Lf fr b)) b ++ gl k (rm fr b (min m (Lf fr b))) (m - min m (Lf fr b))
theorem gl_0 (k : Nat) (fr : Nat → Bool) : gl k fr 0 = [] := by
  cases k
  · rfl
  · exact if_pos rfl
theorem gl_s {k : Nat} {fr : Nat → Bool} {m b : Nat} (hm : m ≠ 0) (hb : best fr m = some b) : gl (k + 1) fr m = rg (min m (Lf fr b)) b ++ gl k (rm fr b (min m (Lf fr b))) (m - min m (Lf fr b)) := by
  show (if m = 0 then [] else match best fr m with
    | none => []
    | some b => rg (min m (Lf fr b)) b ++ gl k (rm fr b (min m (Lf fr b))) (m - min m (Lf fr b))) = _
  rw [if_neg hm, hb]
/-- with enough that is free, as many are got as are asked for; all of them blocks -/
theorem gl_ok : ∀ (k : Nat) (fr : Nat → Bool) (m : Nat), m ≤ k → m ≤ cntP fr 48 → (gl k fr m).length = m ∧ ∀ x ∈ gl k fr m, x < 48
  | 0, fr, m, h, _ => by
    obtain rfl : m = 0 := by omega
    exact ⟨rfl, fun x hx => by cases hx⟩
  | k + 1, fr, m, h, hc => by
    by_cases hm : m = 0
    · subst hm; rw [gl_0]; exact ⟨rfl, fun x hx => by cases hx⟩
    · cases e : best fr m with
      | none => have := best_none e; omega
      | some b =>
        obtain ⟨hb, hf⟩ := best_ok e
        have h1 := Lf_pos hb hf
        have h2 := Lf_le fr b
        have h3 := cnt_rm (fr := fr) (b := b) (t := min m (Lf fr b)) (fun c c1 c2 => by
          have := runE_all (P := fr) (k := 48 - b) (i := b) (j := c - b) (by show c - b < Lf fr b; omega)
          rwa [show b + (c - b) = c by omega] at this) 48
        obtain ⟨g1, g2⟩ := gl_ok k (rm fr b (min m (Lf fr b))) (m - min m (Lf fr b)) (by omega) (by omega)
        rw [gl_s hm e]
        refine ⟨by rw [List.length_append, rg_len, g1]; omega, fun x hx => ?_⟩
        rcases List.mem_append.mp hx with hx | hx
        · have := rg_mem hx; omega
        · exact g2 x hx
