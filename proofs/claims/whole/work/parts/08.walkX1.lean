set_option maxRecDepth 100000 in
set_option maxHeartbeats 4000000 in
theorem kX1_within (l : Launch) (D : va_G) (x0 : Int32) (x1 : Int32) (x2 : Int32) (r : Int32) (hF : fX1_within x0 x1 x2 = some r) : MI l D [] yX1_within cX1_within 3 (some .boolean) 0 0 [.int x0, .int x1, .int x2] [] [] r := by
  refine g_enterI (own := RX1) (lv := [(0, .int x0), (1, .int x1), (2, .int x2)]) (by decide +kernel) rfl (Nat.le_of_ble_eq_true rfl) rfl ?_
  intro p e s m args below meth c A C
  rw [fX1_within] at hF
  refine g_iload_n C dX1_within_0 0 rfl ?_
  refine g_iload_n C dX1_within_1 1 rfl ?_
  refine g_icmp_lt (tgt := 14) C dX1_within_2 rfl (fun hc hF => ?_) (fun hc hF => ?_) hF
  · refine g_iconst (v := (nI 0)) C dX1_within_14 rfl ?_
    exact s_zret C rfl rfl dX1_within_15 hF
  · refine g_iload_n C dX1_within_5 0 rfl ?_
    refine g_iload_n C dX1_within_6 2 rfl ?_
    refine g_icmp_gt (tgt := 14) C dX1_within_7 rfl (fun hc hF => ?_) (fun hc hF => ?_) hF
    · refine g_iconst (v := (nI 0)) C dX1_within_14 rfl ?_
      exact s_zret C rfl rfl dX1_within_15 hF
    · refine g_iconst (v := (nI 1)) C dX1_within_10 rfl ?_
      refine g_goto (tgt := 15) C dX1_within_11 rfl ?_
      exact s_zret C rfl rfl dX1_within_15 hF
set_option maxRecDepth 100000 in
set_option maxHeartbeats 4000000 in
theorem kX1_isFile (l : Launch) (D : va_G) (x0 : Int32) (r : Int32) (hF : fX1_isFile x0 = some r) : MI l D [] yX1_isFile cX1_isFile 1 (some .boolean) 1 22 [.int x0] [] [] r := by
  refine g_enterI (own := RX1) (lv := [(0, .int x0)]) (by decide +kernel) rfl (Nat.le_of_ble_eq_true rfl) rfl ?_
  intro p e s m args below meth c A C
  rw [fX1_isFile] at hF
  refine g_iload_n C dX1_isFile_0 0 rfl ?_
  refine g_iconst (v := (nI 0)) C dX1_isFile_1 rfl ?_
  refine g_iconst (v := (nI 3)) C dX1_isFile_2 rfl ?_
  obtain ⟨r1, h1, hF⟩ := bs_some hF
  refine g_callS C (kX1_within l D _ _ _ _ h1) gS_X1_within hn_X1_within rfl (Nat.le_of_ble_eq_true rfl) (Nat.le_of_ble_eq_true rfl) rfl (Nat.le_of_ble_eq_true rfl) dX1_isFile_3 ?_
  exact s_zret C rfl (zX1_within h1) dX1_isFile_6 hF
set_option maxRecDepth 100000 in
set_option maxHeartbeats 4000000 in
theorem wX1_countOf_L4 {p : Program} {l : Launch} {e : Env} {s : State} {m : MethodId} {args : Array Value} {below : List Frame} {meth : Method} {c : Code} {A : Nat → Prop} {D : va_G} {h0 : Nat} {E : EX} {σ2 : SX} {r : Int32} (C : GC p { frames := 0, cells := 0, slots := 0, locals := 0 } s m args meth c A D cX1_countOf 4 0 0 (tysX1 E) RX1 (some .int)) : ∀ (n : Nat) (x1 : Int32) (x2 : Int32) (x3 : Int32) (σ : SX), fX1_countOf_L4 n x1 x2 x3 σ = some (r, σ2) → GW p l e { frames := 0, cells := 0, slots := 0, locals := 0 } s m args below meth c (QI D (wX1 h0 E σ2) r A below args s) A D 4 0 0 (wX1 h0 E σ) 4 [(0, .ref h0), (1, .int x1), (2, .int x2), (3, .int x3)] [] := by
  intro n
  induction n with
  | zero => intro x1 x2 x3 σ hF; simp only [fX1_countOf_L4] at hF; cases hF
  | succ n ih =>
    intro x1 x2 x3 σ hF
    rw [fX1_countOf_L4] at hF
    refine g_iload_n C dX1_countOf_4 3 rfl ?_
    refine g_bipush (v := (nI 96)) C dX1_countOf_5 rfl ?_
    refine g_icmp_ge (tgt := 34) C dX1_countOf_7 rfl (fun hc hF => ?_) (fun hc hF => ?_) hF
    · refine g_iload_n C dX1_countOf_34 2 rfl ?_
      exact x1_iret C rfl dX1_countOf_35 hF
    · refine g_iload_n C dX1_countOf_10 2 rfl ?_
      refine g_aload_n C dX1_countOf_11 0 rfl ?_
      refine x1_get2 C dX1_countOf_12 ?_
      refine g_iload_n C dX1_countOf_15 3 rfl ?_
      refine x1_ld2 C dX1_countOf_16 (fun hF => ?_) hF
      refine g_iload_n C dX1_countOf_17 1 rfl ?_
      refine g_icmp_ne (tgt := 25) C dX1_countOf_18 rfl (fun hc hF => ?_) (fun hc hF => ?_) hF
      · refine g_iconst (v := (nI 0)) C dX1_countOf_25 rfl ?_
        refine g_iadd C dX1_countOf_26 ?_
        refine g_istore_n (lv2 := [(2, .int (x2 + (nI 0))), (0, .ref h0), (1, .int x1), (3, .int x3)]) C dX1_countOf_27 (Nat.le_of_ble_eq_true rfl) rfl ?_
        refine g_iinc (v := (x3 + nI 1)) (lv2 := [(3, .int (x3 + nI 1)), (2, .int (x2 + (nI 0))), (0, .ref h0), (1, .int x1)]) C dX1_countOf_28 3 rfl rfl (Nat.le_of_ble_eq_true rfl) rfl ?_
        refine g_goto (tgt := 4) C dX1_countOf_31 rfl ?_
        refine g_sub [2, 3, 1, 0] (lv2 := [(0, .ref h0), (1, .int x1), (2, .int (x2 + (nI 0))), (3, .int (x3 + nI 1))]) rfl ?_
        exact ih _ _ _ _ hF
      · refine g_iconst (v := (nI 1)) C dX1_countOf_21 rfl ?_
        refine g_goto (tgt := 26) C dX1_countOf_22 rfl ?_
        refine g_iadd C dX1_countOf_26 ?_
        refine g_istore_n (lv2 := [(2, .int (x2 + (nI 1))), (0, .ref h0), (1, .int x1), (3, .int x3)]) C dX1_countOf_27 (Nat.le_of_ble_eq_true rfl) rfl ?_
        refine g_iinc (v := (x3 + nI 1)) (lv2 := [(3, .int (x3 + nI 1)), (2, .int (x2 + (nI 1))), (0, .ref h0), (1, .int x1)]) C dX1_countOf_28 3 rfl rfl (Nat.le_of_ble_eq_true rfl) rfl ?_
        refine g_goto (tgt := 4) C dX1_countOf_31 rfl ?_
        refine g_sub [2, 3, 1, 0] (lv2 := [(0, .ref h0), (1, .int x1), (2, .int (x2 + (nI 1))), (3, .int (x3 + nI 1))]) rfl ?_
        exact ih _ _ _ _ hF
set_option maxRecDepth 100000 in
set_option maxHeartbeats 4000000 in
theorem kX1_countOf (l : Launch) (D : va_G) (h0 : Nat) (E : EX) (x1 : Int32) (σ : SX) (r : Int32) (σ2 : SX) (hF : fX1_countOf x1 σ = some (r, σ2)) : MI l D (tysX1 E) yX1_countOf cX1_countOf 4 (some .int) 0 0 [.ref h0, .int x1] (wX1 h0 E σ) (wX1 h0 E σ2) r := by
  refine g_enterI (own := RX1) (lv := [(0, .ref h0), (1, .int x1)]) (by decide +kernel) rfl (Nat.le_of_ble_eq_true rfl) rfl ?_
  intro p e s m args below meth c A C
  rw [fX1_countOf] at hF
  refine g_iconst (v := (nI 0)) C dX1_countOf_0 rfl ?_
  refine g_istore_n (lv2 := [(2, .int (nI 0)), (0, .ref h0), (1, .int x1)]) C dX1_countOf_1 (Nat.le_of_ble_eq_true rfl) rfl ?_
  refine g_iconst (v := (nI 0)) C dX1_countOf_2 rfl ?_
  refine g_istore_n (lv2 := [(3, .int (nI 0)), (2, .int (nI 0)), (0, .ref h0), (1, .int x1)]) C dX1_countOf_3 (Nat.le_of_ble_eq_true rfl) rfl ?_
  refine g_sub [2, 3, 1, 0] (lv2 := [(0, .ref h0), (1, .int x1), (2, .int (nI 0)), (3, .int (nI 0))]) rfl ?_
  exact wX1_countOf_L4 C FU _ _ _ _ hF
set_option maxRecDepth 100000 in
set_option maxHeartbeats 4000000 in
theorem kX1_isShared (l : Launch) (D : va_G) (h0 : Nat) (E : EX) (x1 : Int32) (x2 : Int32) (σ : SX) (r : Int32) (σ2 : SX) (hF : fX1_isShared x1 x2 σ = some (r, σ2)) : MI l D (tysX1 E) yX1_isShared cX1_isShared 4 (some .boolean) 1 23 [.ref h0, .int x1, .int x2] (wX1 h0 E σ) (wX1 h0 E σ2) r := by
  refine g_enterI (own := RX1) (lv := [(0, .ref h0), (1, .int x1), (2, .int x2)]) (by decide +kernel) rfl (Nat.le_of_ble_eq_true rfl) rfl ?_
  intro p e s m args below meth c A C
  rw [fX1_isShared] at hF
  refine g_aload_n C dX1_isShared_0 0 rfl ?_
  refine x1_get2 C dX1_isShared_1 ?_
  refine g_bipush (v := (nI 24)) C dX1_isShared_4 rfl ?_
  refine g_iload_n C dX1_isShared_6 1 rfl ?_
  refine g_imul C dX1_isShared_7 ?_
  refine g_iload_n C dX1_isShared_8 2 rfl ?_
  refine g_iadd C dX1_isShared_9 ?_
  refine x1_ld2 C dX1_isShared_10 (fun hF => ?_) hF
  refine g_istore_n (lv2 := [(3, .int (σ.1 2 (((nI 24) * x1) + x2).toNatClampNeg)), (0, .ref h0), (1, .int x1), (2, .int x2)]) C dX1_isShared_11 (Nat.le_of_ble_eq_true rfl) rfl ?_
  refine g_iload_n C dX1_isShared_12 0 rfl ?_
  refine g_bipush (v := nN) C dX1_isShared_13 rfl ?_
  refine g_icmp_eq (tgt := 31) C dX1_isShared_15 rfl (fun hc hF => ?_) (fun hc hF => ?_) hF
  · refine g_iconst (v := (nI 0)) C dX1_isShared_31 rfl ?_
    exact x1_zret C rfl rfl dX1_isShared_32 hF
  · refine g_aload_n C dX1_isShared_18 1 rfl ?_
    refine g_iload_n C dX1_isShared_19 0 rfl ?_
    obtain ⟨r1, s1, h1, hF⟩ := bd_some hF
    refine g_callV C (kX1_countOf l D h0 E _ _ _ _ h1) gV_X1_countOf rfl rfl hn_X1_countOf rfl (Nat.le_of_ble_eq_true rfl) (Nat.le_of_ble_eq_true rfl) rfl (Nat.le_of_ble_eq_true rfl) dX1_isShared_20 ?_
    refine g_iconst (v := (nI 1)) C dX1_isShared_23 rfl ?_
    refine g_icmp_le (tgt := 31) C dX1_isShared_24 rfl (fun hc hF => ?_) (fun hc hF => ?_) hF
    · refine g_iconst (v := (nI 0)) C dX1_isShared_31 rfl ?_
      exact x1_zret C rfl rfl dX1_isShared_32 hF
    · refine g_iconst (v := (nI 1)) C dX1_isShared_27 rfl ?_
      refine g_goto (tgt := 32) C dX1_isShared_28 rfl ?_
      exact x1_zret C rfl rfl dX1_isShared_32 hF
set_option maxRecDepth 100000 in
set_option maxHeartbeats 4000000 in
theorem wX1_findTaken_L2 {p : Program} {l : Launch} {e : Env} {s : State} {m : MethodId} {args : Array Value} {below : List Frame} {meth : Method} {c : Code} {A : Nat → Prop} {D : va_G} {h0 : Nat} {E : EX} {σ2 : SX} {r : Int32} (C : GC p { frames := 1, cells := 0, slots := 0, locals := 23 } s m args meth c A D cX1_findTaken 2 0 0 (tysX1 E) RX1 none) : ∀ (n : Nat) (x1 : Int32) (σ : SX), fX1_findTaken_L2 n x1 σ = some (r, σ2) → GW p l e { frames := 1, cells := 0, slots := 0, locals := 23 } s m args below meth c (QV D (wX1 h0 E σ2) A below args s) A D 2 0 0 (wX1 h0 E σ) 2 [(0, .ref h0), (1, .int x1)] [] := by
  intro n
  induction n with
  | zero => intro x1 σ hF; simp only [fX1_findTaken_L2] at hF; cases hF
  | succ n ih =>
    intro x1 σ hF
    rw [fX1_findTaken_L2] at hF
    refine g_iload_n C dX1_findTaken_2 1 rfl ?_
    refine g_bipush (v := (nI 48)) C dX1_findTaken_3 rfl ?_
    refine g_icmp_ge (tgt := 33) C dX1_findTaken_5 rfl (fun hc hF => ?_) (fun hc hF => ?_) hF
    · exact x1_vret C rfl dX1_findTaken_33 hF
    · refine g_aload_n C dX1_findTaken_8 0 rfl ?_
      refine x1_get6 C dX1_findTaken_9 ?_
      refine g_iload_n C dX1_findTaken_12 1 rfl ?_
      refine g_aload_n C dX1_findTaken_13 0 rfl ?_
      refine g_iload_n C dX1_findTaken_14 1 rfl ?_
      obtain ⟨r1, s1, h1, hF⟩ := bd_some hF
      refine g_callV C (kX1_countOf l D h0 E _ _ _ _ h1) gV_X1_countOf rfl rfl hn_X1_countOf rfl (Nat.le_of_ble_eq_true rfl) (Nat.le_of_ble_eq_true rfl) rfl (Nat.le_of_ble_eq_true rfl) dX1_findTaken_15 ?_
      refine g_if_le (tgt := 25) C dX1_findTaken_18 rfl (fun hc hF => ?_) (fun hc hF => ?_) hF
      · refine g_iconst (v := (nI 0)) C dX1_findTaken_25 rfl ?_
        refine x1_st6 C rfl dX1_findTaken_26 (fun hF => ?_) hF
        refine g_iinc (v := (x1 + nI 1)) (lv2 := [(1, .int (x1 + nI 1)), (0, .ref h0)]) C dX1_findTaken_27 1 rfl rfl (Nat.le_of_ble_eq_true rfl) rfl ?_
        refine g_goto (tgt := 2) C dX1_findTaken_30 rfl ?_
        refine g_sub [1, 0] (lv2 := [(0, .ref h0), (1, .int (x1 + nI 1))]) rfl ?_
        exact ih _ _ hF
      · refine g_iconst (v := (nI 1)) C dX1_findTaken_21 rfl ?_
        refine g_goto (tgt := 26) C dX1_findTaken_22 rfl ?_
        refine x1_st6 C rfl dX1_findTaken_26 (fun hF => ?_) hF
        refine g_iinc (v := (x1 + nI 1)) (lv2 := [(1, .int (x1 + nI 1)), (0, .ref h0)]) C dX1_findTaken_27 1 rfl rfl (Nat.le_of_ble_eq_true rfl) rfl ?_
        refine g_goto (tgt := 2) C dX1_findTaken_30 rfl ?_
        refine g_sub [1, 0] (lv2 := [(0, .ref h0), (1, .int (x1 + nI 1))]) rfl ?_
        exact ih _ _ hF
set_option maxRecDepth 100000 in
set_option maxHeartbeats 4000000 in
theorem kX1_findTaken (l : Launch) (D : va_G) (h0 : Nat) (E : EX) (σ : SX) (r : Int32) (σ2 : SX) (hF : fX1_findTaken σ = some (r, σ2)) : MV l D (tysX1 E) yX1_findTaken cX1_findTaken 2 none 1 23 [.ref h0] (wX1 h0 E σ) (wX1 h0 E σ2) := by
  refine g_enterV (own := RX1) (lv := [(0, .ref h0)]) (by decide +kernel) rfl (Nat.le_of_ble_eq_true rfl) rfl ?_
  intro p e s m args below meth c A C
  rw [fX1_findTaken] at hF
  refine g_iconst (v := (nI 0)) C dX1_findTaken_0 rfl ?_
  refine g_istore_n (lv2 := [(1, .int (nI 0)), (0, .ref h0)]) C dX1_findTaken_1 (Nat.le_of_ble_eq_true rfl) rfl ?_
  refine g_sub [1, 0] (lv2 := [(0, .ref h0), (1, .int (nI 0))]) rfl ?_
  exact wX1_findTaken_L2 C FU _ _ hF
set_option maxRecDepth 100000 in
set_option maxHeartbeats 4000000 in
theorem wX1_freeFrom_L2 {p : Program} {l : Launch} {e : Env} {s : State} {m : MethodId} {args : Array Value} {below : List Frame} {meth : Method} {c : Code} {A : Nat → Prop} {D : va_G} {h0 : Nat} {E : EX} {σ2 : SX} {r : Int32} (C : GC p { frames := 0, cells := 0, slots := 0, locals := 0 } s m args meth c A D cX1_freeFrom 3 0 0 (tysX1 E) RX1 (some .int)) : ∀ (n : Nat) (x1 : Int32) (x2 : Int32) (σ : SX), fX1_freeFrom_L2 n x1 x2 σ = some (r, σ2) → GW p l e { frames := 0, cells := 0, slots := 0, locals := 0 } s m args below meth c (QI D (wX1 h0 E σ2) r A below args s) A D 3 0 0 (wX1 h0 E σ) 2 [(0, .ref h0), (1, .int x1), (2, .int x2)] [] := by
  intro n
  induction n with
  | zero => intro x1 x2 σ hF; simp only [fX1_freeFrom_L2] at hF; cases hF
  | succ n ih =>
    intro x1 x2 σ hF
    rw [fX1_freeFrom_L2] at hF
    refine g_iload_n C dX1_freeFrom_2 1 rfl ?_
    refine g_iload_n C dX1_freeFrom_3 2 rfl ?_
    refine g_iadd C dX1_freeFrom_4 ?_
    refine g_bipush (v := (nI 48)) C dX1_freeFrom_5 rfl ?_
    refine g_icmp_ge (tgt := 27) C dX1_freeFrom_7 rfl (fun hc hF => ?_) (fun hc hF => ?_) hF
    · refine g_iload_n C dX1_freeFrom_27 2 rfl ?_
      exact x1_iret C rfl dX1_freeFrom_28 hF
    · refine g_aload_n C dX1_freeFrom_10 0 rfl ?_
      refine x1_get6 C dX1_freeFrom_11 ?_
      refine g_iload_n C dX1_freeFrom_14 1 rfl ?_
      refine g_iload_n C dX1_freeFrom_15 2 rfl ?_
      refine g_iadd C dX1_freeFrom_16 ?_
      refine x1_ld6 C dX1_freeFrom_17 (fun hF => ?_) hF
      refine g_if_ne (tgt := 27) C dX1_freeFrom_18 rfl (fun hc hF => ?_) (fun hc hF => ?_) hF
      · refine g_iload_n C dX1_freeFrom_27 2 rfl ?_
        exact x1_iret C rfl dX1_freeFrom_28 hF
      · refine g_iinc (v := (x2 + nI 1)) (lv2 := [(2, .int (x2 + nI 1)), (0, .ref h0), (1, .int x1)]) C dX1_freeFrom_21 2 rfl rfl (Nat.le_of_ble_eq_true rfl) rfl ?_
        refine g_goto (tgt := 2) C dX1_freeFrom_24 rfl ?_
        refine g_sub [1, 2, 0] (lv2 := [(0, .ref h0), (1, .int x1), (2, .int (x2 + nI 1))]) rfl ?_
        exact ih _ _ _ hF
set_option maxRecDepth 100000 in
set_option maxHeartbeats 4000000 in
theorem kX1_freeFrom (l : Launch) (D : va_G) (h0 : Nat) (E : EX) (x1 : Int32) (σ : SX) (r : Int32) (σ2 : SX) (hF : fX1_freeFrom x1 σ = some (r, σ2)) : MI l D (tysX1 E) yX1_freeFrom cX1_freeFrom 3 (some .int) 0 0 [.ref h0, .int x1] (wX1 h0 E σ) (wX1 h0 E σ2) r := by
  refine g_enterI (own := RX1) (lv := [(0, .ref h0), (1, .int x1)]) (by decide +kernel) rfl (Nat.le_of_ble_eq_true rfl) rfl ?_
  intro p e s m args below meth c A C
  rw [fX1_freeFrom] at hF
  refine g_iconst (v := (nI 0)) C dX1_freeFrom_0 rfl ?_
  refine g_istore_n (lv2 := [(2, .int (nI 0)), (0, .ref h0), (1, .int x1)]) C dX1_freeFrom_1 (Nat.le_of_ble_eq_true rfl) rfl ?_
  refine g_sub [1, 2, 0] (lv2 := [(0, .ref h0), (1, .int x1), (2, .int (nI 0))]) rfl ?_
  exact wX1_freeFrom_L2 C FU _ _ _ hF
set_option maxRecDepth 100000 in
set_option maxHeartbeats 4000000 in
theorem kX1_beginsRun (l : Launch) (D : va_G) (h0 : Nat) (E : EX) (x1 : Int32) (σ : SX) (r : Int32) (σ2 : SX) (hF : fX1_beginsRun x1 σ = some (r, σ2)) : MI l D (tysX1 E) yX1_beginsRun cX1_beginsRun 2 (some .boolean) 0 0 [.ref h0, .int x1] (wX1 h0 E σ) (wX1 h0 E σ2) r := by
  refine g_enterI (own := RX1) (lv := [(0, .ref h0), (1, .int x1)]) (by decide +kernel) rfl (Nat.le_of_ble_eq_true rfl) rfl ?_
  intro p e s m args below meth c A C
  rw [fX1_beginsRun] at hF
  refine g_aload_n C dX1_beginsRun_0 0 rfl ?_
  refine x1_get6 C dX1_beginsRun_1 ?_
  refine g_iload_n C dX1_beginsRun_4 1 rfl ?_
  refine x1_ld6 C dX1_beginsRun_5 (fun hF => ?_) hF
  refine g_if_ne (tgt := 28) C dX1_beginsRun_6 rfl (fun hc hF => ?_) (fun hc hF => ?_) hF
  · refine g_iconst (v := (nI 0)) C dX1_beginsRun_28 rfl ?_
    exact x1_zret C rfl rfl dX1_beginsRun_29 hF
  · refine g_iload_n C dX1_beginsRun_9 1 rfl ?_
    refine g_if_eq (tgt := 24) C dX1_beginsRun_10 rfl (fun hc hF => ?_) (fun hc hF => ?_) hF
    · refine g_iconst (v := (nI 1)) C dX1_beginsRun_24 rfl ?_
      refine g_goto (tgt := 29) C dX1_beginsRun_25 rfl ?_
      exact x1_zret C rfl rfl dX1_beginsRun_29 hF
    · refine g_aload_n C dX1_beginsRun_13 0 rfl ?_
      refine x1_get6 C dX1_beginsRun_14 ?_
      refine g_iload_n C dX1_beginsRun_17 1 rfl ?_
      refine g_iconst (v := (nI 1)) C dX1_beginsRun_18 rfl ?_
      refine g_isub C dX1_beginsRun_19 ?_
      refine x1_ld6 C dX1_beginsRun_20 (fun hF => ?_) hF
      refine g_if_eq (tgt := 28) C dX1_beginsRun_21 rfl (fun hc hF => ?_) (fun hc hF => ?_) hF
      · refine g_iconst (v := (nI 0)) C dX1_beginsRun_28 rfl ?_
        exact x1_zret C rfl rfl dX1_beginsRun_29 hF
      · refine g_iconst (v := (nI 1)) C dX1_beginsRun_24 rfl ?_
        refine g_goto (tgt := 29) C dX1_beginsRun_25 rfl ?_
        exact x1_zret C rfl rfl dX1_beginsRun_29 hF
set_option maxRecDepth 100000 in
set_option maxHeartbeats 4000000 in
theorem wX1_runFor_L9 {p : Program} {l : Launch} {e : Env} {s : State} {m : MethodId} {args : Array Value} {below : List Frame} {meth : Method} {c : Code} {A : Nat → Prop} {D : va_G} {h0 : Nat} {E : EX} {σ2 : SX} {r : Int32} (C : GC p { frames := 1, cells := 0, slots := 0, locals := 22 } s m args meth c A D cX1_runFor 6 0 0 (tysX1 E) RX1 (some .int)) : ∀ (n : Nat) (x1 : Int32) (x2 : Int32) (x3 : Int32) (x4 : Int32) (σ : SX), fX1_runFor_L9 n x1 x2 x3 x4 σ = some (r, σ2) → GW p l e { frames := 1, cells := 0, slots := 0, locals := 22 } s m args below meth c (QI D (wX1 h0 E σ2) r A below args s) A D 6 0 0 (wX1 h0 E σ) 9 [(0, .ref h0), (1, .int x1), (2, .int x2), (3, .int x3), (4, .int x4)] [] := by
  intro n
  induction n with
  | zero => intro x1 x2 x3 x4 σ hF; simp only [fX1_runFor_L9] at hF; cases hF
  | succ n ih =>
    intro x1 x2 x3 x4 σ hF
    rw [fX1_runFor_L9] at hF
    refine g_iload C dX1_runFor_9 4 rfl ?_
    refine g_bipush (v := (nI 48)) C dX1_runFor_11 rfl ?_
    refine g_icmp_ge (tgt := 91) C dX1_runFor_13 rfl (fun hc hF => ?_) (fun hc hF => ?_) hF
    · refine g_iload_n C dX1_runFor_91 2 rfl ?_
      refine g_bipush (v := nN) C dX1_runFor_92 rfl ?_
      refine g_icmp_eq (tgt := 101) C dX1_runFor_94 rfl (fun hc hF => ?_) (fun hc hF => ?_) hF
      · refine g_iload_n C dX1_runFor_101 3 rfl ?_
        exact x1_iret C rfl dX1_runFor_102 hF
      · refine g_iload_n C dX1_runFor_97 2 rfl ?_
        refine g_goto (tgt := 102) C dX1_runFor_98 rfl ?_
        exact x1_iret C rfl dX1_runFor_102 hF
    · refine g_aload_n C dX1_runFor_16 0 rfl ?_
      refine g_iload C dX1_runFor_17 4 rfl ?_
      obtain ⟨r1, s1, h1, hF⟩ := bd_some hF
      refine g_callV C (kX1_beginsRun l D h0 E _ _ _ _ h1) gV_X1_beginsRun rfl rfl hn_X1_beginsRun rfl (Nat.le_of_ble_eq_true rfl) (Nat.le_of_ble_eq_true rfl) rfl (Nat.le_of_ble_eq_true rfl) dX1_runFor_19 ?_
      refine g_if_eq (tgt := 85) C dX1_runFor_22 rfl (fun hc hF => ?_) (fun hc hF => ?_) hF
      · refine g_iinc (v := (x4 + nI 1)) (lv2 := [(4, .int (x4 + nI 1)), (0, .ref h0), (1, .int x1), (2, .int x2), (3, .int x3)]) C dX1_runFor_85 4 rfl rfl (Nat.le_of_ble_eq_true rfl) rfl ?_
        refine g_goto (tgt := 9) C dX1_runFor_88 rfl ?_
        refine g_sub [1, 2, 3, 4, 0] (lv2 := [(0, .ref h0), (1, .int x1), (2, .int x2), (3, .int x3), (4, .int (x4 + nI 1))]) rfl ?_
        exact ih _ _ _ _ _ hF
      · refine g_aload_n C dX1_runFor_25 0 rfl ?_
        refine g_iload C dX1_runFor_26 4 rfl ?_
        obtain ⟨r2, s2, h2, hF⟩ := bd_some hF
        refine g_callV C (kX1_freeFrom l D h0 E _ _ _ _ h2) gV_X1_freeFrom rfl rfl hn_X1_freeFrom rfl (Nat.le_of_ble_eq_true rfl) (Nat.le_of_ble_eq_true rfl) rfl (Nat.le_of_ble_eq_true rfl) dX1_runFor_28 ?_
        refine g_istore (lv2 := [(5, .int r2), (0, .ref h0), (1, .int x1), (2, .int x2), (3, .int x3), (4, .int x4)]) C dX1_runFor_31 (Nat.le_of_ble_eq_true rfl) rfl ?_
        refine g_iload C dX1_runFor_33 0 rfl ?_
        refine g_iload_n C dX1_runFor_35 2 rfl ?_
        refine g_icmp_lt (tgt := 60) C dX1_runFor_36 rfl (fun hc hF => ?_) (fun hc hF => ?_) hF
        · refine g_iload_n C dX1_runFor_60 3 rfl ?_
          refine g_istore_n (lv2 := [(2, .int x2), (5, .int r2), (0, .ref h0), (1, .int x1), (3, .int x3), (4, .int x4)]) C dX1_runFor_61 (Nat.le_of_ble_eq_true rfl) rfl ?_
          refine g_iload_n C dX1_runFor_62 4 rfl ?_
          refine g_bipush (v := nN) C dX1_runFor_63 rfl ?_
          refine g_icmp_eq (tgt := 78) C dX1_runFor_65 rfl (fun hc hF => ?_) (fun hc hF => ?_) hF
          · refine g_iload C dX1_runFor_78 5 rfl ?_
            refine g_goto (tgt := 84) C dX1_runFor_80 rfl ?_
            refine g_istore_n (lv2 := [(3, .int x4), (2, .int x2), (5, .int r2), (0, .ref h0), (1, .int x1), (4, .int x4)]) C dX1_runFor_84 (Nat.le_of_ble_eq_true rfl) rfl ?_
            refine g_iinc (v := (x4 + nI 1)) (lv2 := [(4, .int (x4 + nI 1)), (3, .int x4), (2, .int x2), (5, .int r2), (0, .ref h0), (1, .int x1)]) C dX1_runFor_85 5 rfl rfl (Nat.le_of_ble_eq_true rfl) rfl ?_
            refine g_goto (tgt := 9) C dX1_runFor_88 rfl ?_
            refine g_sub [4, 5, 2, 1, 0] (lv2 := [(0, .ref h0), (1, .int x1), (2, .int x2), (3, .int x4), (4, .int (x4 + nI 1))]) rfl ?_
            exact ih _ _ _ _ _ hF
          · refine g_iload C dX1_runFor_68 1 rfl ?_
            refine g_aload_n C dX1_runFor_70 2 rfl ?_
            refine g_iload_n C dX1_runFor_71 4 rfl ?_
            obtain ⟨r3, s3, h3, hF⟩ := bd_some hF
            refine g_callV C (kX1_freeFrom l D h0 E _ _ _ _ h3) gV_X1_freeFrom rfl rfl hn_X1_freeFrom rfl (Nat.le_of_ble_eq_true rfl) (Nat.le_of_ble_eq_true rfl) rfl (Nat.le_of_ble_eq_true rfl) dX1_runFor_72 ?_
            refine g_icmp_le (tgt := 83) C dX1_runFor_75 rfl (fun hc hF => ?_) (fun hc hF => ?_) hF
            · refine g_iload_n C dX1_runFor_83 4 rfl ?_
              refine g_istore_n (lv2 := [(3, .int x3), (2, .int x2), (5, .int r2), (0, .ref h0), (1, .int x1), (4, .int x4)]) C dX1_runFor_84 (Nat.le_of_ble_eq_true rfl) rfl ?_
              refine g_iinc (v := (x4 + nI 1)) (lv2 := [(4, .int (x4 + nI 1)), (3, .int x3), (2, .int x2), (5, .int r2), (0, .ref h0), (1, .int x1)]) C dX1_runFor_85 5 rfl rfl (Nat.le_of_ble_eq_true rfl) rfl ?_
              refine g_goto (tgt := 9) C dX1_runFor_88 rfl ?_
              refine g_sub [4, 5, 2, 1, 0] (lv2 := [(0, .ref h0), (1, .int x1), (2, .int x2), (3, .int x3), (4, .int (x4 + nI 1))]) rfl ?_
              exact ih _ _ _ _ _ hF
            · refine g_iload C dX1_runFor_78 5 rfl ?_
              refine g_goto (tgt := 84) C dX1_runFor_80 rfl ?_
              refine g_istore_n (lv2 := [(3, .int x4), (2, .int x2), (5, .int r2), (0, .ref h0), (1, .int x1), (4, .int x4)]) C dX1_runFor_84 (Nat.le_of_ble_eq_true rfl) rfl ?_
              refine g_iinc (v := (x4 + nI 1)) (lv2 := [(4, .int (x4 + nI 1)), (3, .int x4), (2, .int x2), (5, .int r2), (0, .ref h0), (1, .int x1)]) C dX1_runFor_85 5 rfl rfl (Nat.le_of_ble_eq_true rfl) rfl ?_
              refine g_goto (tgt := 9) C dX1_runFor_88 rfl ?_
              refine g_sub [4, 5, 2, 1, 0] (lv2 := [(0, .ref h0), (1, .int x1), (2, .int x2), (3, .int x4), (4, .int (x4 + nI 1))]) rfl ?_
              exact ih _ _ _ _ _ hF
        · refine g_iload_n C dX1_runFor_39 3 rfl ?_
          refine g_bipush (v := nN) C dX1_runFor_40 rfl ?_
          refine g_icmp_eq (tgt := 55) C dX1_runFor_42 rfl (fun hc hF => ?_) (fun hc hF => ?_) hF
          · refine g_iload C dX1_runFor_55 5 rfl ?_
            refine g_goto (tgt := 61) C dX1_runFor_57 rfl ?_
            refine g_istore_n (lv2 := [(2, .int x4), (5, .int r2), (0, .ref h0), (1, .int x1), (3, .int x3), (4, .int x4)]) C dX1_runFor_61 (Nat.le_of_ble_eq_true rfl) rfl ?_
            refine g_iload_n C dX1_runFor_62 4 rfl ?_
            refine g_bipush (v := nN) C dX1_runFor_63 rfl ?_
            refine g_icmp_eq (tgt := 78) C dX1_runFor_65 rfl (fun hc hF => ?_) (fun hc hF => ?_) hF
            · refine g_iload C dX1_runFor_78 5 rfl ?_
              refine g_goto (tgt := 84) C dX1_runFor_80 rfl ?_
              refine g_istore_n (lv2 := [(3, .int x4), (2, .int x4), (5, .int r2), (0, .ref h0), (1, .int x1), (4, .int x4)]) C dX1_runFor_84 (Nat.le_of_ble_eq_true rfl) rfl ?_
              refine g_iinc (v := (x4 + nI 1)) (lv2 := [(4, .int (x4 + nI 1)), (3, .int x4), (2, .int x4), (5, .int r2), (0, .ref h0), (1, .int x1)]) C dX1_runFor_85 5 rfl rfl (Nat.le_of_ble_eq_true rfl) rfl ?_
              refine g_goto (tgt := 9) C dX1_runFor_88 rfl ?_
              refine g_sub [4, 5, 2, 1, 0] (lv2 := [(0, .ref h0), (1, .int x1), (2, .int x4), (3, .int x4), (4, .int (x4 + nI 1))]) rfl ?_
              exact ih _ _ _ _ _ hF
            · refine g_iload C dX1_runFor_68 1 rfl ?_
              refine g_aload_n C dX1_runFor_70 2 rfl ?_
              refine g_iload_n C dX1_runFor_71 4 rfl ?_
              obtain ⟨r4, s4, h4, hF⟩ := bd_some hF
              refine g_callV C (kX1_freeFrom l D h0 E _ _ _ _ h4) gV_X1_freeFrom rfl rfl hn_X1_freeFrom rfl (Nat.le_of_ble_eq_true rfl) (Nat.le_of_ble_eq_true rfl) rfl (Nat.le_of_ble_eq_true rfl) dX1_runFor_72 ?_
              refine g_icmp_le (tgt := 83) C dX1_runFor_75 rfl (fun hc hF => ?_) (fun hc hF => ?_) hF
              · refine g_iload_n C dX1_runFor_83 4 rfl ?_
                refine g_istore_n (lv2 := [(3, .int x3), (2, .int x4), (5, .int r2), (0, .ref h0), (1, .int x1), (4, .int x4)]) C dX1_runFor_84 (Nat.le_of_ble_eq_true rfl) rfl ?_
                refine g_iinc (v := (x4 + nI 1)) (lv2 := [(4, .int (x4 + nI 1)), (3, .int x3), (2, .int x4), (5, .int r2), (0, .ref h0), (1, .int x1)]) C dX1_runFor_85 5 rfl rfl (Nat.le_of_ble_eq_true rfl) rfl ?_
                refine g_goto (tgt := 9) C dX1_runFor_88 rfl ?_
                refine g_sub [4, 5, 2, 1, 0] (lv2 := [(0, .ref h0), (1, .int x1), (2, .int x4), (3, .int x3), (4, .int (x4 + nI 1))]) rfl ?_
                exact ih _ _ _ _ _ hF
              · refine g_iload C dX1_runFor_78 5 rfl ?_
                refine g_goto (tgt := 84) C dX1_runFor_80 rfl ?_
                refine g_istore_n (lv2 := [(3, .int x4), (2, .int x4), (5, .int r2), (0, .ref h0), (1, .int x1), (4, .int x4)]) C dX1_runFor_84 (Nat.le_of_ble_eq_true rfl) rfl ?_
                refine g_iinc (v := (x4 + nI 1)) (lv2 := [(4, .int (x4 + nI 1)), (3, .int x4), (2, .int x4), (5, .int r2), (0, .ref h0), (1, .int x1)]) C dX1_runFor_85 5 rfl rfl (Nat.le_of_ble_eq_true rfl) rfl ?_
                refine g_goto (tgt := 9) C dX1_runFor_88 rfl ?_
                refine g_sub [4, 5, 2, 1, 0] (lv2 := [(0, .ref h0), (1, .int x1), (2, .int x4), (3, .int x4), (4, .int (x4 + nI 1))]) rfl ?_
                exact ih _ _ _ _ _ hF
          · refine g_iload C dX1_runFor_45 0 rfl ?_
            refine g_aload_n C dX1_runFor_47 1 rfl ?_
            refine g_iload_n C dX1_runFor_48 3 rfl ?_
            obtain ⟨r5, s5, h5, hF⟩ := bd_some hF
            refine g_callV C (kX1_freeFrom l D h0 E _ _ _ _ h5) gV_X1_freeFrom rfl rfl hn_X1_freeFrom rfl (Nat.le_of_ble_eq_true rfl) (Nat.le_of_ble_eq_true rfl) rfl (Nat.le_of_ble_eq_true rfl) dX1_runFor_49 ?_
            refine g_icmp_ge (tgt := 60) C dX1_runFor_52 rfl (fun hc hF => ?_) (fun hc hF => ?_) hF
            · refine g_iload_n C dX1_runFor_60 3 rfl ?_
              refine g_istore_n (lv2 := [(2, .int x2), (5, .int r2), (0, .ref h0), (1, .int x1), (3, .int x3), (4, .int x4)]) C dX1_runFor_61 (Nat.le_of_ble_eq_true rfl) rfl ?_
              refine g_iload_n C dX1_runFor_62 4 rfl ?_
              refine g_bipush (v := nN) C dX1_runFor_63 rfl ?_
              refine g_icmp_eq (tgt := 78) C dX1_runFor_65 rfl (fun hc hF => ?_) (fun hc hF => ?_) hF
              · refine g_iload C dX1_runFor_78 5 rfl ?_
                refine g_goto (tgt := 84) C dX1_runFor_80 rfl ?_
                refine g_istore_n (lv2 := [(3, .int x4), (2, .int x2), (5, .int r2), (0, .ref h0), (1, .int x1), (4, .int x4)]) C dX1_runFor_84 (Nat.le_of_ble_eq_true rfl) rfl ?_
                refine g_iinc (v := (x4 + nI 1)) (lv2 := [(4, .int (x4 + nI 1)), (3, .int x4), (2, .int x2), (5, .int r2), (0, .ref h0), (1, .int x1)]) C dX1_runFor_85 5 rfl rfl (Nat.le_of_ble_eq_true rfl) rfl ?_
                refine g_goto (tgt := 9) C dX1_runFor_88 rfl ?_
                refine g_sub [4, 5, 2, 1, 0] (lv2 := [(0, .ref h0), (1, .int x1), (2, .int x2), (3, .int x4), (4, .int (x4 + nI 1))]) rfl ?_
                exact ih _ _ _ _ _ hF
              · refine g_iload C dX1_runFor_68 1 rfl ?_
                refine g_aload_n C dX1_runFor_70 2 rfl ?_
                refine g_iload_n C dX1_runFor_71 4 rfl ?_
                obtain ⟨r6, s6, h6, hF⟩ := bd_some hF
                refine g_callV C (kX1_freeFrom l D h0 E _ _ _ _ h6) gV_X1_freeFrom rfl rfl hn_X1_freeFrom rfl (Nat.le_of_ble_eq_true rfl) (Nat.le_of_ble_eq_true rfl) rfl (Nat.le_of_ble_eq_true rfl) dX1_runFor_72 ?_
                refine g_icmp_le (tgt := 83) C dX1_runFor_75 rfl (fun hc hF => ?_) (fun hc hF => ?_) hF
                · refine g_iload_n C dX1_runFor_83 4 rfl ?_
                  refine g_istore_n (lv2 := [(3, .int x3), (2, .int x2), (5, .int r2), (0, .ref h0), (1, .int x1), (4, .int x4)]) C dX1_runFor_84 (Nat.le_of_ble_eq_true rfl) rfl ?_
                  refine g_iinc (v := (x4 + nI 1)) (lv2 := [(4, .int (x4 + nI 1)), (3, .int x3), (2, .int x2), (5, .int r2), (0, .ref h0), (1, .int x1)]) C dX1_runFor_85 5 rfl rfl (Nat.le_of_ble_eq_true rfl) rfl ?_
                  refine g_goto (tgt := 9) C dX1_runFor_88 rfl ?_
                  refine g_sub [4, 5, 2, 1, 0] (lv2 := [(0, .ref h0), (1, .int x1), (2, .int x2), (3, .int x3), (4, .int (x4 + nI 1))]) rfl ?_
                  exact ih _ _ _ _ _ hF
                · refine g_iload C dX1_runFor_78 5 rfl ?_
                  refine g_goto (tgt := 84) C dX1_runFor_80 rfl ?_
                  refine g_istore_n (lv2 := [(3, .int x4), (2, .int x2), (5, .int r2), (0, .ref h0), (1, .int x1), (4, .int x4)]) C dX1_runFor_84 (Nat.le_of_ble_eq_true rfl) rfl ?_
                  refine g_iinc (v := (x4 + nI 1)) (lv2 := [(4, .int (x4 + nI 1)), (3, .int x4), (2, .int x2), (5, .int r2), (0, .ref h0), (1, .int x1)]) C dX1_runFor_85 5 rfl rfl (Nat.le_of_ble_eq_true rfl) rfl ?_
                  refine g_goto (tgt := 9) C dX1_runFor_88 rfl ?_
                  refine g_sub [4, 5, 2, 1, 0] (lv2 := [(0, .ref h0), (1, .int x1), (2, .int x2), (3, .int x4), (4, .int (x4 + nI 1))]) rfl ?_
                  exact ih _ _ _ _ _ hF
            · refine g_iload C dX1_runFor_55 5 rfl ?_
              refine g_goto (tgt := 61) C dX1_runFor_57 rfl ?_
              refine g_istore_n (lv2 := [(2, .int x4), (5, .int r2), (0, .ref h0), (1, .int x1), (3, .int x3), (4, .int x4)]) C dX1_runFor_61 (Nat.le_of_ble_eq_true rfl) rfl ?_
              refine g_iload_n C dX1_runFor_62 4 rfl ?_
              refine g_bipush (v := nN) C dX1_runFor_63 rfl ?_
              refine g_icmp_eq (tgt := 78) C dX1_runFor_65 rfl (fun hc hF => ?_) (fun hc hF => ?_) hF
              · refine g_iload C dX1_runFor_78 5 rfl ?_
                refine g_goto (tgt := 84) C dX1_runFor_80 rfl ?_
                refine g_istore_n (lv2 := [(3, .int x4), (2, .int x4), (5, .int r2), (0, .ref h0), (1, .int x1), (4, .int x4)]) C dX1_runFor_84 (Nat.le_of_ble_eq_true rfl) rfl ?_
                refine g_iinc (v := (x4 + nI 1)) (lv2 := [(4, .int (x4 + nI 1)), (3, .int x4), (2, .int x4), (5, .int r2), (0, .ref h0), (1, .int x1)]) C dX1_runFor_85 5 rfl rfl (Nat.le_of_ble_eq_true rfl) rfl ?_
                refine g_goto (tgt := 9) C dX1_runFor_88 rfl ?_
                refine g_sub [4, 5, 2, 1, 0] (lv2 := [(0, .ref h0), (1, .int x1), (2, .int x4), (3, .int x4), (4, .int (x4 + nI 1))]) rfl ?_
                exact ih _ _ _ _ _ hF
              · refine g_iload C dX1_runFor_68 1 rfl ?_
                refine g_aload_n C dX1_runFor_70 2 rfl ?_
                refine g_iload_n C dX1_runFor_71 4 rfl ?_
                obtain ⟨r7, s7, h7, hF⟩ := bd_some hF
                refine g_callV C (kX1_freeFrom l D h0 E _ _ _ _ h7) gV_X1_freeFrom rfl rfl hn_X1_freeFrom rfl (Nat.le_of_ble_eq_true rfl) (Nat.le_of_ble_eq_true rfl) rfl (Nat.le_of_ble_eq_true rfl) dX1_runFor_72 ?_
                refine g_icmp_le (tgt := 83) C dX1_runFor_75 rfl (fun hc hF => ?_) (fun hc hF => ?_) hF
                · refine g_iload_n C dX1_runFor_83 4 rfl ?_
                  refine g_istore_n (lv2 := [(3, .int x3), (2, .int x4), (5, .int r2), (0, .ref h0), (1, .int x1), (4, .int x4)]) C dX1_runFor_84 (Nat.le_of_ble_eq_true rfl) rfl ?_
                  refine g_iinc (v := (x4 + nI 1)) (lv2 := [(4, .int (x4 + nI 1)), (3, .int x3), (2, .int x4), (5, .int r2), (0, .ref h0), (1, .int x1)]) C dX1_runFor_85 5 rfl rfl (Nat.le_of_ble_eq_true rfl) rfl ?_
                  refine g_goto (tgt := 9) C dX1_runFor_88 rfl ?_
                  refine g_sub [4, 5, 2, 1, 0] (lv2 := [(0, .ref h0), (1, .int x1), (2, .int x4), (3, .int x3), (4, .int (x4 + nI 1))]) rfl ?_
                  exact ih _ _ _ _ _ hF
                · refine g_iload C dX1_runFor_78 5 rfl ?_
                  refine g_goto (tgt := 84) C dX1_runFor_80 rfl ?_
                  refine g_istore_n (lv2 := [(3, .int x4), (2, .int x4), (5, .int r2), (0, .ref h0), (1, .int x1), (4, .int x4)]) C dX1_runFor_84 (Nat.le_of_ble_eq_true rfl) rfl ?_
                  refine g_iinc (v := (x4 + nI 1)) (lv2 := [(4, .int (x4 + nI 1)), (3, .int x4), (2, .int x4), (5, .int r2), (0, .ref h0), (1, .int x1)]) C dX1_runFor_85 5 rfl rfl (Nat.le_of_ble_eq_true rfl) rfl ?_
                  refine g_goto (tgt := 9) C dX1_runFor_88 rfl ?_
                  refine g_sub [4, 5, 2, 1, 0] (lv2 := [(0, .ref h0), (1, .int x1), (2, .int x4), (3, .int x4), (4, .int (x4 + nI 1))]) rfl ?_
                  exact ih _ _ _ _ _ hF
set_option maxRecDepth 100000 in
set_option maxHeartbeats 4000000 in
theorem kX1_runFor (l : Launch) (D : va_G) (h0 : Nat) (E : EX) (x1 : Int32) (σ : SX) (r : Int32) (σ2 : SX) (hF : fX1_runFor x1 σ = some (r, σ2)) : MI l D (tysX1 E) yX1_runFor cX1_runFor 6 (some .int) 1 22 [.ref h0, .int x1] (wX1 h0 E σ) (wX1 h0 E σ2) r := by
  refine g_enterI (own := RX1) (lv := [(0, .ref h0), (1, .int x1)]) (by decide +kernel) rfl (Nat.le_of_ble_eq_true rfl) rfl ?_
  intro p e s m args below meth c A C
  rw [fX1_runFor] at hF
  refine g_bipush (v := nN) C dX1_runFor_0 rfl ?_
  refine g_istore_n (lv2 := [(2, .int nN), (0, .ref h0), (1, .int x1)]) C dX1_runFor_2 (Nat.le_of_ble_eq_true rfl) rfl ?_
  refine g_bipush (v := nN) C dX1_runFor_3 rfl ?_
  refine g_istore_n (lv2 := [(3, .int nN), (2, .int nN), (0, .ref h0), (1, .int x1)]) C dX1_runFor_5 (Nat.le_of_ble_eq_true rfl) rfl ?_
  refine g_iconst (v := (nI 0)) C dX1_runFor_6 rfl ?_
  refine g_istore (lv2 := [(4, .int (nI 0)), (3, .int nN), (2, .int nN), (0, .ref h0), (1, .int x1)]) C dX1_runFor_7 (Nat.le_of_ble_eq_true rfl) rfl ?_
  refine g_sub [3, 4, 2, 1, 0] (lv2 := [(0, .ref h0), (1, .int x1), (2, .int nN), (3, .int nN), (4, .int (nI 0))]) rfl ?_
  exact wX1_runFor_L9 C FU _ _ _ _ _ hF
set_option maxRecDepth 100000 in
set_option maxHeartbeats 4000000 in
theorem wX1_gets_L45 {p : Program} {l : Launch} {e : Env} {s : State} {m : MethodId} {args : Array Value} {below : List Frame} {meth : Method} {c : Code} {A : Nat → Prop} {D : va_G} {h0 : Nat} {E : EX} {σ2 : SX} {r : Int32} (C : GC p { frames := 2, cells := 0, slots := 0, locals := 47 } s m args meth c A D cX1_gets 5 0 0 (tysX1 E) RX1 (some .boolean)) (K9 : Int32 → SX → Option (Int32 × SX)) (hK9 : ∀ (x1 : Int32) (σ : SX), K9 x1 σ = some (r, σ2) → GW p l e { frames := 2, cells := 0, slots := 0, locals := 47 } s m args below meth c (QI D (wX1 h0 E σ2) r A below args s) A D 5 0 0 (wX1 h0 E σ) 9 [(0, .ref h0), (1, .int x1)] []) : ∀ (n : Nat) (x1 : Int32) (x2 : Int32) (x3 : Int32) (x4 : Int32) (σ : SX), fX1_gets_L45 K9 n x1 x2 x3 x4 σ = some (r, σ2) → GW p l e { frames := 2, cells := 0, slots := 0, locals := 47 } s m args below meth c (QI D (wX1 h0 E σ2) r A below args s) A D 5 0 0 (wX1 h0 E σ) 45 [(0, .ref h0), (1, .int x1), (2, .int x2), (3, .int x3), (4, .int x4)] [] := by
  intro n
  induction n with
  | zero => intro x1 x2 x3 x4 σ hF; simp only [fX1_gets_L45] at hF; cases hF
  | succ n ih =>
    intro x1 x2 x3 x4 σ hF
    rw [fX1_gets_L45] at hF
    refine g_iload C dX1_gets_45 4 rfl ?_
    refine g_iload_n C dX1_gets_47 3 rfl ?_
    refine g_icmp_ge (tgt := 98) C dX1_gets_48 rfl (fun hc hF => ?_) (fun hc hF => ?_) hF
    · refine g_goto (tgt := 9) C dX1_gets_98 rfl ?_
      refine g_sub [0, 1] (lv2 := [(0, .ref h0), (1, .int x1)]) rfl ?_
      exact hK9 _ _ hF
    · refine g_aload_n C dX1_gets_51 0 rfl ?_
      refine x1_get4 C dX1_gets_52 ?_
      refine g_iload_n C dX1_gets_55 1 rfl ?_
      refine g_icmp_ge (tgt := 98) C dX1_gets_56 rfl (fun hc hF => ?_) (fun hc hF => ?_) hF
      · refine g_goto (tgt := 9) C dX1_gets_98 rfl ?_
        refine g_sub [0, 1] (lv2 := [(0, .ref h0), (1, .int x1)]) rfl ?_
        exact hK9 _ _ hF
      · refine g_aload_n C dX1_gets_59 0 rfl ?_
        refine x1_get5 C dX1_gets_60 ?_
        refine g_aload_n C dX1_gets_63 0 rfl ?_
        refine x1_get4 C dX1_gets_64 ?_
        refine g_iload_n C dX1_gets_67 2 rfl ?_
        refine g_iload C dX1_gets_68 4 rfl ?_
        refine g_iadd C dX1_gets_70 ?_
        refine x1_st5 C dX1_gets_71 (fun hF => ?_) hF
        refine g_aload_n C dX1_gets_72 0 rfl ?_
        refine x1_get6 C dX1_gets_73 ?_
        refine g_iload_n C dX1_gets_76 2 rfl ?_
        refine g_iload C dX1_gets_77 4 rfl ?_
        refine g_iadd C dX1_gets_79 ?_
        refine g_iconst (v := (nI 1)) C dX1_gets_80 rfl ?_
        refine x1_st6 C rfl dX1_gets_81 (fun hF => ?_) hF
        refine g_aload_n C dX1_gets_82 0 rfl ?_
        refine g_dup C dX1_gets_83 rfl ?_
        refine x1_get4 C dX1_gets_84 ?_
        refine g_iconst (v := (nI 1)) C dX1_gets_87 rfl ?_
        refine g_iadd C dX1_gets_88 ?_
        refine x1_put4 C dX1_gets_89 ?_
        refine g_iinc (v := (x4 + nI 1)) (lv2 := [(4, .int (x4 + nI 1)), (0, .ref h0), (1, .int x1), (2, .int x2), (3, .int x3)]) C dX1_gets_92 4 rfl rfl (Nat.le_of_ble_eq_true rfl) rfl ?_
        refine g_goto (tgt := 45) C dX1_gets_95 rfl ?_
        refine g_sub [1, 2, 3, 4, 0] (lv2 := [(0, .ref h0), (1, .int x1), (2, .int x2), (3, .int x3), (4, .int (x4 + nI 1))]) rfl ?_
        exact ih _ _ _ _ _ hF
set_option maxRecDepth 100000 in
set_option maxHeartbeats 4000000 in
theorem wX1_gets_L9 {p : Program} {l : Launch} {e : Env} {s : State} {m : MethodId} {args : Array Value} {below : List Frame} {meth : Method} {c : Code} {A : Nat → Prop} {D : va_G} {h0 : Nat} {E : EX} {σ2 : SX} {r : Int32} (C : GC p { frames := 2, cells := 0, slots := 0, locals := 47 } s m args meth c A D cX1_gets 5 0 0 (tysX1 E) RX1 (some .boolean)) : ∀ (n : Nat) (x1 : Int32) (σ : SX), fX1_gets_L9 n x1 σ = some (r, σ2) → GW p l e { frames := 2, cells := 0, slots := 0, locals := 47 } s m args below meth c (QI D (wX1 h0 E σ2) r A below args s) A D 5 0 0 (wX1 h0 E σ) 9 [(0, .ref h0), (1, .int x1)] [] := by
  intro n
  induction n with
  | zero => intro x1 σ hF; simp only [fX1_gets_L9] at hF; cases hF
  | succ n ih =>
    intro x1 σ hF
    rw [fX1_gets_L9] at hF
    refine g_aload_n C dX1_gets_9 0 rfl ?_
    refine x1_get4 C dX1_gets_10 ?_
    refine g_iload_n C dX1_gets_13 1 rfl ?_
    refine g_icmp_ge (tgt := 101) C dX1_gets_14 rfl (fun hc hF => ?_) (fun hc hF => ?_) hF
    · refine g_iconst (v := (nI 1)) C dX1_gets_101 rfl ?_
      exact x1_zret C rfl rfl dX1_gets_102 hF
    · refine g_aload_n C dX1_gets_17 0 rfl ?_
      refine g_iload_n C dX1_gets_18 1 rfl ?_
      refine g_aload_n C dX1_gets_19 0 rfl ?_
      refine x1_get4 C dX1_gets_20 ?_
      refine g_isub C dX1_gets_23 ?_
      obtain ⟨r1, s1, h1, hF⟩ := bd_some hF
      refine g_callV C (kX1_runFor l D h0 E _ _ _ _ h1) gV_X1_runFor rfl rfl hn_X1_runFor rfl (Nat.le_of_ble_eq_true rfl) (Nat.le_of_ble_eq_true rfl) rfl (Nat.le_of_ble_eq_true rfl) dX1_gets_24 ?_
      refine g_istore_n (lv2 := [(2, .int r1), (0, .ref h0), (1, .int x1)]) C dX1_gets_27 (Nat.le_of_ble_eq_true rfl) rfl ?_
      refine g_iload_n C dX1_gets_28 0 rfl ?_
      refine g_bipush (v := nN) C dX1_gets_29 rfl ?_
      refine g_icmp_ne (tgt := 36) C dX1_gets_31 rfl (fun hc hF => ?_) (fun hc hF => ?_) hF
      · refine g_aload_n C dX1_gets_36 1 rfl ?_
        refine g_iload_n C dX1_gets_37 0 rfl ?_
        obtain ⟨r2, s2, h2, hF⟩ := bd_some hF
        refine g_callV C (kX1_freeFrom l D h0 E _ _ _ _ h2) gV_X1_freeFrom rfl rfl hn_X1_freeFrom rfl (Nat.le_of_ble_eq_true rfl) (Nat.le_of_ble_eq_true rfl) rfl (Nat.le_of_ble_eq_true rfl) dX1_gets_38 ?_
        refine g_istore_n (lv2 := [(3, .int r2), (2, .int r1), (0, .ref h0), (1, .int x1)]) C dX1_gets_41 (Nat.le_of_ble_eq_true rfl) rfl ?_
        refine g_iconst (v := (nI 0)) C dX1_gets_42 rfl ?_
        refine g_istore (lv2 := [(4, .int (nI 0)), (3, .int r2), (2, .int r1), (0, .ref h0), (1, .int x1)]) C dX1_gets_43 (Nat.le_of_ble_eq_true rfl) rfl ?_
        refine g_sub [3, 4, 2, 1, 0] (lv2 := [(0, .ref h0), (1, .int x1), (2, .int r1), (3, .int r2), (4, .int (nI 0))]) rfl ?_
        exact wX1_gets_L45 C (fX1_gets_L9 n) ih FU _ _ _ _ _ hF
      · refine g_iconst (v := (nI 0)) C dX1_gets_34 rfl ?_
        exact x1_zret C rfl rfl dX1_gets_35 hF
set_option maxRecDepth 100000 in
set_option maxHeartbeats 4000000 in
theorem kX1_gets (l : Launch) (D : va_G) (h0 : Nat) (E : EX) (x1 : Int32) (σ : SX) (r : Int32) (σ2 : SX) (hF : fX1_gets x1 σ = some (r, σ2)) : MI l D (tysX1 E) yX1_gets cX1_gets 5 (some .boolean) 2 47 [.ref h0, .int x1] (wX1 h0 E σ) (wX1 h0 E σ2) r := by
  refine g_enterI (own := RX1) (lv := [(0, .ref h0), (1, .int x1)]) (by decide +kernel) rfl (Nat.le_of_ble_eq_true rfl) rfl ?_
  intro p e s m args below meth c A C
  rw [fX1_gets] at hF
  refine g_aload_n C dX1_gets_0 0 rfl ?_
  obtain ⟨r1, s1, h1, hF⟩ := bd_some hF
  refine g_callVv C (kX1_findTaken l D h0 E _ _ _ h1) gV_X1_findTaken rfl rfl hn_X1_findTaken rfl (Nat.le_of_ble_eq_true rfl) (Nat.le_of_ble_eq_true rfl) rfl (Nat.le_of_ble_eq_true rfl) dX1_gets_1 ?_
  refine g_aload_n C dX1_gets_4 0 rfl ?_
  refine g_iconst (v := (nI 0)) C dX1_gets_5 rfl ?_
  refine x1_put4 C dX1_gets_6 ?_
  refine g_sub [0, 1] (lv2 := [(0, .ref h0), (1, .int x1)]) rfl ?_
  exact wX1_gets_L9 C FU _ _ hF
set_option maxRecDepth 100000 in
set_option maxHeartbeats 4000000 in
theorem kX1_wants (l : Launch) (D : va_G) (h0 : Nat) (E : EX) (x1 : Int32) (x2 : Int32) (x3 : Int32) (σ : SX) (r : Int32) (σ2 : SX) (hF : fX1_wants x1 x2 x3 σ = some (r, σ2)) : MV l D (tysX1 E) yX1_wants cX1_wants 4 none 2 46 [.ref h0, .int x1, .int x2, .int x3] (wX1 h0 E σ) (wX1 h0 E σ2) := by
  refine g_enterV (own := RX1) (lv := [(0, .ref h0), (1, .int x1), (2, .int x2), (3, .int x3)]) (by decide +kernel) rfl (Nat.le_of_ble_eq_true rfl) rfl ?_
  intro p e s m args below meth c A C
  rw [fX1_wants] at hF
  refine g_aload_n C dX1_wants_0 0 rfl ?_
  refine g_iload_n C dX1_wants_1 1 rfl ?_
  refine g_iload_n C dX1_wants_2 2 rfl ?_
  obtain ⟨r1, s1, h1, hF⟩ := bd_some hF
  refine g_callV C (kX1_isShared l D h0 E _ _ _ _ _ h1) gV_X1_isShared rfl rfl hn_X1_isShared rfl (Nat.le_of_ble_eq_true rfl) (Nat.le_of_ble_eq_true rfl) rfl (Nat.le_of_ble_eq_true rfl) dX1_wants_3 ?_
  refine g_if_ne (tgt := 29) C dX1_wants_6 rfl (fun hc hF => ?_) (fun hc hF => ?_) hF
  · refine g_aload_n C dX1_wants_29 0 rfl ?_
    refine x1_get8 C dX1_wants_30 ?_
    refine g_aload_n C dX1_wants_33 0 rfl ?_
    refine x1_get7 C dX1_wants_34 ?_
    refine g_iload_n C dX1_wants_37 2 rfl ?_
    refine x1_st8 C dX1_wants_38 (fun hF => ?_) hF
    refine g_aload_n C dX1_wants_39 0 rfl ?_
    refine g_dup C dX1_wants_40 rfl ?_
    refine x1_get7 C dX1_wants_41 ?_
    refine g_iconst (v := (nI 1)) C dX1_wants_44 rfl ?_
    refine g_iadd C dX1_wants_45 ?_
    refine x1_put7 C dX1_wants_46 ?_
    exact x1_vret C rfl dX1_wants_49 hF
  · refine g_iload_n C dX1_wants_9 3 rfl ?_
    refine g_if_eq (tgt := 49) C dX1_wants_10 rfl (fun hc hF => ?_) (fun hc hF => ?_) hF
    · exact x1_vret C rfl dX1_wants_49 hF
    · refine g_aload_n C dX1_wants_13 0 rfl ?_
      refine x1_get2 C dX1_wants_14 ?_
      refine g_bipush (v := (nI 24)) C dX1_wants_17 rfl ?_
      refine g_iload_n C dX1_wants_19 1 rfl ?_
      refine g_imul C dX1_wants_20 ?_
      refine g_iload_n C dX1_wants_21 2 rfl ?_
      refine g_iadd C dX1_wants_22 ?_
      refine x1_ld2 C dX1_wants_23 (fun hF => ?_) hF
      refine g_bipush (v := nN) C dX1_wants_24 rfl ?_
      refine g_icmp_ne (tgt := 49) C dX1_wants_26 rfl (fun hc hF => ?_) (fun hc hF => ?_) hF
      · exact x1_vret C rfl dX1_wants_49 hF
      · refine g_aload_n C dX1_wants_29 0 rfl ?_
        refine x1_get8 C dX1_wants_30 ?_
        refine g_aload_n C dX1_wants_33 0 rfl ?_
        refine x1_get7 C dX1_wants_34 ?_
        refine g_iload_n C dX1_wants_37 2 rfl ?_
        refine x1_st8 C dX1_wants_38 (fun hF => ?_) hF
        refine g_aload_n C dX1_wants_39 0 rfl ?_
        refine g_dup C dX1_wants_40 rfl ?_
        refine x1_get7 C dX1_wants_41 ?_
        refine g_iconst (v := (nI 1)) C dX1_wants_44 rfl ?_
        refine g_iadd C dX1_wants_45 ?_
        refine x1_put7 C dX1_wants_46 ?_
        exact x1_vret C rfl dX1_wants_49 hF
set_option maxRecDepth 100000 in
set_option maxHeartbeats 4000000 in
theorem wX1_copies_L2 {p : Program} {l : Launch} {e : Env} {s : State} {m : MethodId} {args : Array Value} {below : List Frame} {meth : Method} {c : Code} {A : Nat → Prop} {D : va_G} {h0 : Nat} {E : EX} {σ2 : SX} {r : Int32} (C : GC p { frames := 0, cells := 0, slots := 0, locals := 0 } s m args meth c A D cX1_copies 4 0 0 (tysX1 E) RX1 none) : ∀ (n : Nat) (x1 : Int32) (x2 : Int32) (x3 : Int32) (σ : SX), fX1_copies_L2 n x1 x2 x3 σ = some (r, σ2) → GW p l e { frames := 0, cells := 0, slots := 0, locals := 0 } s m args below meth c (QV D (wX1 h0 E σ2) A below args s) A D 4 0 0 (wX1 h0 E σ) 2 [(0, .ref h0), (1, .int x1), (2, .int x2), (3, .int x3)] [] := by
  intro n
  induction n with
  | zero => intro x1 x2 x3 σ hF; simp only [fX1_copies_L2] at hF; cases hF
  | succ n ih =>
    intro x1 x2 x3 σ hF
    rw [fX1_copies_L2] at hF
    refine g_iload_n C dX1_copies_2 3 rfl ?_
    refine g_iconst (v := (nI 4)) C dX1_copies_3 rfl ?_
    refine g_icmp_ge (tgt := 43) C dX1_copies_4 rfl (fun hc hF => ?_) (fun hc hF => ?_) hF
    · exact x1_vret C rfl dX1_copies_43 hF
    · refine g_aload_n C dX1_copies_7 0 rfl ?_
      refine x1_get0 C dX1_copies_8 ?_
      refine g_iconst (v := (nI 4)) C dX1_copies_11 rfl ?_
      refine g_iload_n C dX1_copies_12 2 rfl ?_
      refine g_imul C dX1_copies_13 ?_
      refine g_iload_n C dX1_copies_14 3 rfl ?_
      refine g_iadd C dX1_copies_15 ?_
      refine g_iload_n C dX1_copies_16 1 rfl ?_
      refine g_bipush (v := nN) C dX1_copies_17 rfl ?_
      refine g_icmp_ne (tgt := 26) C dX1_copies_19 rfl (fun hc hF => ?_) (fun hc hF => ?_) hF
      · refine g_aload_n C dX1_copies_26 0 rfl ?_
        refine x1_get0 C dX1_copies_27 ?_
        refine g_iconst (v := (nI 4)) C dX1_copies_30 rfl ?_
        refine g_iload_n C dX1_copies_31 1 rfl ?_
        refine g_imul C dX1_copies_32 ?_
        refine g_iload_n C dX1_copies_33 3 rfl ?_
        refine g_iadd C dX1_copies_34 ?_
        refine x1_ld0 C dX1_copies_35 (fun hF => ?_) hF
        refine x1_st0 C dX1_copies_36 (fun hF => ?_) hF
        refine g_iinc (v := (x3 + nI 1)) (lv2 := [(3, .int (x3 + nI 1)), (0, .ref h0), (1, .int x1), (2, .int x2)]) C dX1_copies_37 3 rfl rfl (Nat.le_of_ble_eq_true rfl) rfl ?_
        refine g_goto (tgt := 2) C dX1_copies_40 rfl ?_
        refine g_sub [1, 2, 3, 0] (lv2 := [(0, .ref h0), (1, .int x1), (2, .int x2), (3, .int (x3 + nI 1))]) rfl ?_
        exact ih _ _ _ _ hF
      · refine g_iconst (v := (nI 0)) C dX1_copies_22 rfl ?_
        refine g_goto (tgt := 36) C dX1_copies_23 rfl ?_
        refine x1_st0 C dX1_copies_36 (fun hF => ?_) hF
        refine g_iinc (v := (x3 + nI 1)) (lv2 := [(3, .int (x3 + nI 1)), (0, .ref h0), (1, .int x1), (2, .int x2)]) C dX1_copies_37 3 rfl rfl (Nat.le_of_ble_eq_true rfl) rfl ?_
        refine g_goto (tgt := 2) C dX1_copies_40 rfl ?_
        refine g_sub [1, 2, 3, 0] (lv2 := [(0, .ref h0), (1, .int x1), (2, .int x2), (3, .int (x3 + nI 1))]) rfl ?_
        exact ih _ _ _ _ hF
set_option maxRecDepth 100000 in
set_option maxHeartbeats 4000000 in
theorem kX1_copies (l : Launch) (D : va_G) (h0 : Nat) (E : EX) (x1 : Int32) (x2 : Int32) (σ : SX) (r : Int32) (σ2 : SX) (hF : fX1_copies x1 x2 σ = some (r, σ2)) : MV l D (tysX1 E) yX1_copies cX1_copies 4 none 0 0 [.ref h0, .int x1, .int x2] (wX1 h0 E σ) (wX1 h0 E σ2) := by
  refine g_enterV (own := RX1) (lv := [(0, .ref h0), (1, .int x1), (2, .int x2)]) (by decide +kernel) rfl (Nat.le_of_ble_eq_true rfl) rfl ?_
  intro p e s m args below meth c A C
  rw [fX1_copies] at hF
  refine g_iconst (v := (nI 0)) C dX1_copies_0 rfl ?_
  refine g_istore_n (lv2 := [(3, .int (nI 0)), (0, .ref h0), (1, .int x1), (2, .int x2)]) C dX1_copies_1 (Nat.le_of_ble_eq_true rfl) rfl ?_
  refine g_sub [1, 2, 3, 0] (lv2 := [(0, .ref h0), (1, .int x1), (2, .int x2), (3, .int (nI 0))]) rfl ?_
  exact wX1_copies_L2 C FU _ _ _ _ hF
set_option maxRecDepth 100000 in
set_option maxHeartbeats 4000000 in
theorem wX1_owns_L15 {p : Program} {l : Launch} {e : Env} {s : State} {m : MethodId} {args : Array Value} {below : List Frame} {meth : Method} {c : Code} {A : Nat → Prop} {D : va_G} {h0 : Nat} {E : EX} {σ2 : SX} {r : Int32} (C : GC p { frames := 3, cells := 0, slots := 0, locals := 71 } s m args meth c A D cX1_owns 4 0 0 (tysX1 E) RX1 (some .boolean)) : ∀ (n : Nat) (x1 : Int32) (x2 : Int32) (σ : SX), fX1_owns_L15 n x1 x2 σ = some (r, σ2) → GW p l e { frames := 3, cells := 0, slots := 0, locals := 71 } s m args below meth c (QI D (wX1 h0 E σ2) r A below args s) A D 4 0 0 (wX1 h0 E σ) 15 [(0, .ref h0), (1, .int x1), (2, .int x2)] [] := by
  intro n
  induction n with
  | zero => intro x1 x2 σ hF; simp only [fX1_owns_L15] at hF; cases hF
  | succ n ih =>
    intro x1 x2 σ hF
    rw [fX1_owns_L15] at hF
    refine g_iload_n C dX1_owns_15 2 rfl ?_
    refine g_aload_n C dX1_owns_16 0 rfl ?_
    refine x1_get7 C dX1_owns_17 ?_
    refine g_icmp_ge (tgt := 69) C dX1_owns_20 rfl (fun hc hF => ?_) (fun hc hF => ?_) hF
    · refine g_iconst (v := (nI 1)) C dX1_owns_69 rfl ?_
      exact x1_zret C rfl rfl dX1_owns_70 hF
    · refine g_bipush (v := (nI 24)) C dX1_owns_23 rfl ?_
      refine g_iload_n C dX1_owns_25 1 rfl ?_
      refine g_imul C dX1_owns_26 ?_
      refine g_aload_n C dX1_owns_27 0 rfl ?_
      refine x1_get8 C dX1_owns_28 ?_
      refine g_iload_n C dX1_owns_31 2 rfl ?_
      refine x1_ld8 C dX1_owns_32 (fun hF => ?_) hF
      refine g_iadd C dX1_owns_33 ?_
      refine g_istore_n (lv2 := [(3, .int (((nI 24) * x1) + (σ.1 8 x2.toNatClampNeg))), (0, .ref h0), (1, .int x1), (2, .int x2)]) C dX1_owns_34 (Nat.le_of_ble_eq_true rfl) rfl ?_
      refine g_aload_n C dX1_owns_35 1 rfl ?_
      refine g_aload_n C dX1_owns_36 1 rfl ?_
      refine x1_get2 C dX1_owns_37 ?_
      refine g_iload_n C dX1_owns_40 0 rfl ?_
      refine x1_ld2 C dX1_owns_41 (fun hF => ?_) hF
      refine g_aload_n C dX1_owns_42 1 rfl ?_
      refine x1_get5 C dX1_owns_43 ?_
      refine g_iload_n C dX1_owns_46 3 rfl ?_
      refine x1_ld5 C dX1_owns_47 (fun hF => ?_) hF
      obtain ⟨r1, s1, h1, hF⟩ := bd_some hF
      refine g_callVv C (kX1_copies l D h0 E _ _ _ _ _ h1) gV_X1_copies rfl rfl hn_X1_copies rfl (Nat.le_of_ble_eq_true rfl) (Nat.le_of_ble_eq_true rfl) rfl (Nat.le_of_ble_eq_true rfl) dX1_owns_48 ?_
      refine g_aload_n C dX1_owns_51 1 rfl ?_
      refine x1_get2 C dX1_owns_52 ?_
      refine g_iload_n C dX1_owns_55 0 rfl ?_
      refine g_aload_n C dX1_owns_56 1 rfl ?_
      refine x1_get5 C dX1_owns_57 ?_
      refine g_iload_n C dX1_owns_60 3 rfl ?_
      refine x1_ld5 C dX1_owns_61 (fun hF => ?_) hF
      refine x1_st2 C dX1_owns_62 (fun hF => ?_) hF
      refine g_iinc (v := (x2 + nI 1)) (lv2 := [(2, .int (x2 + nI 1)), (3, .int (((nI 24) * x1) + (σ.1 8 x2.toNatClampNeg))), (0, .ref h0), (1, .int x1)]) C dX1_owns_63 3 rfl rfl (Nat.le_of_ble_eq_true rfl) rfl ?_
      refine g_goto (tgt := 15) C dX1_owns_66 rfl ?_
      refine g_sub [2, 3, 0] (lv2 := [(0, .ref h0), (1, .int x1), (2, .int (x2 + nI 1))]) rfl ?_
      exact ih _ _ _ hF
set_option maxRecDepth 100000 in
set_option maxHeartbeats 4000000 in
theorem kX1_owns (l : Launch) (D : va_G) (h0 : Nat) (E : EX) (x1 : Int32) (σ : SX) (r : Int32) (σ2 : SX) (hF : fX1_owns x1 σ = some (r, σ2)) : MI l D (tysX1 E) yX1_owns cX1_owns 4 (some .boolean) 3 71 [.ref h0, .int x1] (wX1 h0 E σ) (wX1 h0 E σ2) r := by
  refine g_enterI (own := RX1) (lv := [(0, .ref h0), (1, .int x1)]) (by decide +kernel) rfl (Nat.le_of_ble_eq_true rfl) rfl ?_
  intro p e s m args below meth c A C
  rw [fX1_owns] at hF
  refine g_aload_n C dX1_owns_0 0 rfl ?_
  refine g_aload_n C dX1_owns_1 0 rfl ?_
  refine x1_get7 C dX1_owns_2 ?_
  obtain ⟨r1, s1, h1, hF⟩ := bd_some hF
  refine g_callV C (kX1_gets l D h0 E _ _ _ _ h1) gV_X1_gets rfl rfl hn_X1_gets rfl (Nat.le_of_ble_eq_true rfl) (Nat.le_of_ble_eq_true rfl) rfl (Nat.le_of_ble_eq_true rfl) dX1_owns_5 ?_
  refine g_if_ne (tgt := 13) C dX1_owns_8 rfl (fun hc hF => ?_) (fun hc hF => ?_) hF
  · refine g_iconst (v := (nI 0)) C dX1_owns_13 rfl ?_
    refine g_istore_n (lv2 := [(2, .int (nI 0)), (0, .ref h0), (1, .int x1)]) C dX1_owns_14 (Nat.le_of_ble_eq_true rfl) rfl ?_
    refine g_sub [1, 2, 0] (lv2 := [(0, .ref h0), (1, .int x1), (2, .int (nI 0))]) rfl ?_
    exact wX1_owns_L15 C FU _ _ _ hF
  · refine g_iconst (v := (nI 0)) C dX1_owns_11 rfl ?_
    exact x1_zret C rfl rfl dX1_owns_12 hF
set_option maxRecDepth 100000 in
set_option maxHeartbeats 4000000 in
theorem kX1_read (l : Launch) (D : va_G) (h0 : Nat) (E : EX) (x1 : Int32) (x2 : Int32) (σ : SX) (r : Int32) (σ2 : SX) (hF : fX1_read x1 x2 σ = some (r, σ2)) : MI l D (tysX1 E) yX1_read cX1_read 4 (some .int) 2 42 [.ref h0, .int x1, .int x2] (wX1 h0 E σ) (wX1 h0 E σ2) r := by
  refine g_enterI (own := RX1) (lv := [(0, .ref h0), (1, .int x1), (2, .int x2)]) (by decide +kernel) rfl (Nat.le_of_ble_eq_true rfl) rfl ?_
  intro p e s m args below meth c A C
  rw [fX1_read] at hF
  refine g_iload_n C dX1_read_0 1 rfl ?_
  obtain ⟨r1, h1, hF⟩ := bs_some hF
  refine g_callS C (kX1_isFile l D _ _ h1) gS_X1_isFile hn_X1_isFile rfl (Nat.le_of_ble_eq_true rfl) (Nat.le_of_ble_eq_true rfl) rfl (Nat.le_of_ble_eq_true rfl) dX1_read_1 ?_
  refine g_if_ne (tgt := 9) C dX1_read_4 rfl (fun hc hF => ?_) (fun hc hF => ?_) hF
  · refine g_iload_n C dX1_read_9 2 rfl ?_
    refine g_iconst (v := (nI 0)) C dX1_read_10 rfl ?_
    refine g_aload_n C dX1_read_11 0 rfl ?_
    refine x1_get1 C dX1_read_12 ?_
    refine g_iload_n C dX1_read_15 1 rfl ?_
    refine x1_ld1 C dX1_read_16 (fun hF => ?_) hF
    refine g_iconst (v := (nI 1)) C dX1_read_17 rfl ?_
    refine g_isub C dX1_read_18 ?_
    obtain ⟨r2, h2, hF⟩ := bs_some hF
    refine g_callS C (kX1_within l D _ _ _ _ h2) gS_X1_within hn_X1_within rfl (Nat.le_of_ble_eq_true rfl) (Nat.le_of_ble_eq_true rfl) rfl (Nat.le_of_ble_eq_true rfl) dX1_read_19 ?_
    refine g_if_ne (tgt := 28) C dX1_read_22 rfl (fun hc hF => ?_) (fun hc hF => ?_) hF
    · refine g_aload_n C dX1_read_28 0 rfl ?_
      refine x1_get2 C dX1_read_29 ?_
      refine g_bipush (v := (nI 24)) C dX1_read_32 rfl ?_
      refine g_iload_n C dX1_read_34 1 rfl ?_
      refine g_imul C dX1_read_35 ?_
      refine g_iload_n C dX1_read_36 2 rfl ?_
      refine g_iconst (v := (nI 4)) C dX1_read_37 rfl ?_
      refine g_idiv C dX1_read_38 (by decide) ?_
      refine g_iadd C dX1_read_39 ?_
      refine x1_ld2 C dX1_read_40 (fun hF => ?_) hF
      refine g_istore_n (lv2 := [(3, .int (σ.1 2 (((nI 24) * x1) + (x2 / (nI 4))).toNatClampNeg)), (0, .ref h0), (1, .int x1), (2, .int x2)]) C dX1_read_41 (Nat.le_of_ble_eq_true rfl) rfl ?_
      refine g_iload_n C dX1_read_42 0 rfl ?_
      refine g_bipush (v := nN) C dX1_read_43 rfl ?_
      refine g_icmp_ne (tgt := 52) C dX1_read_45 rfl (fun hc hF => ?_) (fun hc hF => ?_) hF
      · refine g_aload_n C dX1_read_52 1 rfl ?_
        refine x1_get0 C dX1_read_53 ?_
        refine g_iconst (v := (nI 4)) C dX1_read_56 rfl ?_
        refine g_iload_n C dX1_read_57 0 rfl ?_
        refine g_imul C dX1_read_58 ?_
        refine g_iload_n C dX1_read_59 3 rfl ?_
        refine g_iconst (v := (nI 4)) C dX1_read_60 rfl ?_
        refine g_irem C dX1_read_61 (by decide) ?_
        refine g_iadd C dX1_read_62 ?_
        refine x1_ld0 C dX1_read_63 (fun hF => ?_) hF
        exact x1_iret C rfl dX1_read_64 hF
      · refine g_iconst (v := (nI 0)) C dX1_read_48 rfl ?_
        refine g_goto (tgt := 64) C dX1_read_49 rfl ?_
        exact x1_iret C rfl dX1_read_64 hF
    · refine g_bipush (v := (-2)) C dX1_read_25 rfl ?_
      exact x1_iret C rfl dX1_read_27 hF
  · refine g_iconst (v := (-1)) C dX1_read_7 rfl ?_
    exact x1_iret C rfl dX1_read_8 hF
set_option maxRecDepth 100000 in
set_option maxHeartbeats 4000000 in
theorem wX1_write_L106 {p : Program} {l : Launch} {e : Env} {s : State} {m : MethodId} {args : Array Value} {below : List Frame} {meth : Method} {c : Code} {A : Nat → Prop} {D : va_G} {h0 : Nat} {E : EX} {σ2 : SX} {r : Int32} (C : GC p { frames := 4, cells := 0, slots := 0, locals := 94 } s m args meth c A D cX1_write 6 0 0 (tysX1 E) RX1 (some .int)) : ∀ (n : Nat) (x1 : Int32) (x2 : Int32) (x3 : Int32) (x4 : Int32) (x5 : Int32) (σ : SX), fX1_write_L106 n x1 x2 x3 x4 x5 σ = some (r, σ2) → GW p l e { frames := 4, cells := 0, slots := 0, locals := 94 } s m args below meth c (QI D (wX1 h0 E σ2) r A below args s) A D 6 0 0 (wX1 h0 E σ) 106 [(0, .ref h0), (1, .int x1), (2, .int x2), (3, .int x3), (4, .int x4), (5, .int x5)] [] := by
  intro n
  induction n with
  | zero => intro x1 x2 x3 x4 x5 σ hF; simp only [fX1_write_L106] at hF; cases hF
  | succ n ih =>
    intro x1 x2 x3 x4 x5 σ hF
    rw [fX1_write_L106] at hF
    refine g_iload C dX1_write_106 5 rfl ?_
    refine g_iload_n C dX1_write_108 2 rfl ?_
    refine g_iload_n C dX1_write_109 3 rfl ?_
    refine g_iadd C dX1_write_110 ?_
    refine g_icmp_ge (tgt := 148) C dX1_write_111 rfl (fun hc hF => ?_) (fun hc hF => ?_) hF
    · refine g_aload_n C dX1_write_148 0 rfl ?_
      refine x1_get1 C dX1_write_149 ?_
      refine g_iload_n C dX1_write_152 1 rfl ?_
      refine g_iload_n C dX1_write_153 2 rfl ?_
      refine g_iload_n C dX1_write_154 3 rfl ?_
      refine g_iadd C dX1_write_155 ?_
      refine g_aload_n C dX1_write_156 0 rfl ?_
      refine x1_get1 C dX1_write_157 ?_
      refine g_iload_n C dX1_write_160 1 rfl ?_
      refine x1_ld1 C dX1_write_161 (fun hF => ?_) hF
      refine g_icmp_le (tgt := 171) C dX1_write_162 rfl (fun hc hF => ?_) (fun hc hF => ?_) hF
      · refine g_aload_n C dX1_write_171 0 rfl ?_
        refine x1_get1 C dX1_write_172 ?_
        refine g_iload_n C dX1_write_175 1 rfl ?_
        refine x1_ld1 C dX1_write_176 (fun hF => ?_) hF
        refine x1_st1 C dX1_write_177 (fun hF => ?_) hF
        refine g_aload_n C dX1_write_178 0 rfl ?_
        refine x1_get1 C dX1_write_179 ?_
        refine g_iload_n C dX1_write_182 1 rfl ?_
        refine x1_ld1 C dX1_write_183 (fun hF => ?_) hF
        exact x1_iret C rfl dX1_write_184 hF
      · refine g_iload_n C dX1_write_165 2 rfl ?_
        refine g_iload_n C dX1_write_166 3 rfl ?_
        refine g_iadd C dX1_write_167 ?_
        refine g_goto (tgt := 177) C dX1_write_168 rfl ?_
        refine x1_st1 C dX1_write_177 (fun hF => ?_) hF
        refine g_aload_n C dX1_write_178 0 rfl ?_
        refine x1_get1 C dX1_write_179 ?_
        refine g_iload_n C dX1_write_182 1 rfl ?_
        refine x1_ld1 C dX1_write_183 (fun hF => ?_) hF
        exact x1_iret C rfl dX1_write_184 hF
    · refine g_aload_n C dX1_write_114 0 rfl ?_
      refine x1_get0 C dX1_write_115 ?_
      refine g_iconst (v := (nI 4)) C dX1_write_118 rfl ?_
      refine g_aload_n C dX1_write_119 0 rfl ?_
      refine x1_get2 C dX1_write_120 ?_
      refine g_bipush (v := (nI 24)) C dX1_write_123 rfl ?_
      refine g_iload_n C dX1_write_125 1 rfl ?_
      refine g_imul C dX1_write_126 ?_
      refine g_iload C dX1_write_127 5 rfl ?_
      refine g_iconst (v := (nI 4)) C dX1_write_129 rfl ?_
      refine g_idiv C dX1_write_130 (by decide) ?_
      refine g_iadd C dX1_write_131 ?_
      refine x1_ld2 C dX1_write_132 (fun hF => ?_) hF
      refine g_imul C dX1_write_133 ?_
      refine g_iload C dX1_write_134 5 rfl ?_
      refine g_iconst (v := (nI 4)) C dX1_write_136 rfl ?_
      refine g_irem C dX1_write_137 (by decide) ?_
      refine g_iadd C dX1_write_138 ?_
      refine g_iload C dX1_write_139 4 rfl ?_
      refine x1_st0 C dX1_write_141 (fun hF => ?_) hF
      refine g_iinc (v := (x5 + nI 1)) (lv2 := [(5, .int (x5 + nI 1)), (0, .ref h0), (1, .int x1), (2, .int x2), (3, .int x3), (4, .int x4)]) C dX1_write_142 5 rfl rfl (Nat.le_of_ble_eq_true rfl) rfl ?_
      refine g_goto (tgt := 106) C dX1_write_145 rfl ?_
      refine g_sub [1, 2, 3, 4, 5, 0] (lv2 := [(0, .ref h0), (1, .int x1), (2, .int x2), (3, .int x3), (4, .int x4), (5, .int (x5 + nI 1))]) rfl ?_
      exact ih _ _ _ _ _ _ hF
set_option maxRecDepth 100000 in
set_option maxHeartbeats 4000000 in
theorem wX1_write_L66 {p : Program} {l : Launch} {e : Env} {s : State} {m : MethodId} {args : Array Value} {below : List Frame} {meth : Method} {c : Code} {A : Nat → Prop} {D : va_G} {h0 : Nat} {E : EX} {σ2 : SX} {r : Int32} (C : GC p { frames := 4, cells := 0, slots := 0, locals := 94 } s m args meth c A D cX1_write 6 0 0 (tysX1 E) RX1 (some .int)) : ∀ (n : Nat) (x1 : Int32) (x2 : Int32) (x3 : Int32) (x4 : Int32) (x5 : Int32) (σ : SX), fX1_write_L66 n x1 x2 x3 x4 x5 σ = some (r, σ2) → GW p l e { frames := 4, cells := 0, slots := 0, locals := 94 } s m args below meth c (QI D (wX1 h0 E σ2) r A below args s) A D 6 0 0 (wX1 h0 E σ) 66 [(0, .ref h0), (1, .int x1), (2, .int x2), (3, .int x3), (4, .int x4), (5, .int x5)] [] := by
  intro n
  induction n with
  | zero => intro x1 x2 x3 x4 x5 σ hF; simp only [fX1_write_L66] at hF; cases hF
  | succ n ih =>
    intro x1 x2 x3 x4 x5 σ hF
    rw [fX1_write_L66] at hF
    refine g_iload C dX1_write_66 5 rfl ?_
    refine g_iload_n C dX1_write_68 2 rfl ?_
    refine g_iload_n C dX1_write_69 3 rfl ?_
    refine g_iadd C dX1_write_70 ?_
    refine g_iconst (v := (nI 1)) C dX1_write_71 rfl ?_
    refine g_isub C dX1_write_72 ?_
    refine g_iconst (v := (nI 4)) C dX1_write_73 rfl ?_
    refine g_idiv C dX1_write_74 (by decide) ?_
    refine g_icmp_gt (tgt := 92) C dX1_write_75 rfl (fun hc hF => ?_) (fun hc hF => ?_) hF
    · refine g_aload_n C dX1_write_92 0 rfl ?_
      refine g_iload_n C dX1_write_93 1 rfl ?_
      obtain ⟨r1, s1, h1, hF⟩ := bd_some hF
      refine g_callV C (kX1_owns l D h0 E _ _ _ _ h1) gV_X1_owns rfl rfl hn_X1_owns rfl (Nat.le_of_ble_eq_true rfl) (Nat.le_of_ble_eq_true rfl) rfl (Nat.le_of_ble_eq_true rfl) dX1_write_94 ?_
      refine g_if_ne (tgt := 103) C dX1_write_97 rfl (fun hc hF => ?_) (fun hc hF => ?_) hF
      · refine g_iload_n C dX1_write_103 2 rfl ?_
        refine g_istore (lv2 := [(5, .int x2), (0, .ref h0), (1, .int x1), (2, .int x2), (3, .int x3), (4, .int x4)]) C dX1_write_104 (Nat.le_of_ble_eq_true rfl) rfl ?_
        refine g_sub [1, 2, 3, 4, 5, 0] (lv2 := [(0, .ref h0), (1, .int x1), (2, .int x2), (3, .int x3), (4, .int x4), (5, .int x2)]) rfl ?_
        exact wX1_write_L106 C FU _ _ _ _ _ _ hF
      · refine g_bipush (v := (-6)) C dX1_write_100 rfl ?_
        exact x1_iret C rfl dX1_write_102 hF
    · refine g_aload_n C dX1_write_78 0 rfl ?_
      refine g_iload_n C dX1_write_79 1 rfl ?_
      refine g_iload C dX1_write_80 5 rfl ?_
      refine g_iconst (v := (nI 1)) C dX1_write_82 rfl ?_
      obtain ⟨r2, s2, h2, hF⟩ := bd_some hF
      refine g_callVv C (kX1_wants l D h0 E _ _ _ _ _ _ h2) gV_X1_wants rfl rfl hn_X1_wants rfl (Nat.le_of_ble_eq_true rfl) (Nat.le_of_ble_eq_true rfl) rfl (Nat.le_of_ble_eq_true rfl) dX1_write_83 ?_
      refine g_iinc (v := (x5 + nI 1)) (lv2 := [(5, .int (x5 + nI 1)), (0, .ref h0), (1, .int x1), (2, .int x2), (3, .int x3), (4, .int x4)]) C dX1_write_86 5 rfl rfl (Nat.le_of_ble_eq_true rfl) rfl ?_
      refine g_goto (tgt := 66) C dX1_write_89 rfl ?_
      refine g_sub [1, 2, 3, 4, 5, 0] (lv2 := [(0, .ref h0), (1, .int x1), (2, .int x2), (3, .int x3), (4, .int x4), (5, .int (x5 + nI 1))]) rfl ?_
      exact ih _ _ _ _ _ _ hF
set_option maxRecDepth 100000 in
set_option maxHeartbeats 4000000 in
theorem kX1_write (l : Launch) (D : va_G) (h0 : Nat) (E : EX) (x1 : Int32) (x2 : Int32) (x3 : Int32) (x4 : Int32) (σ : SX) (r : Int32) (σ2 : SX) (hF : fX1_write x1 x2 x3 x4 σ = some (r, σ2)) : MI l D (tysX1 E) yX1_write cX1_write 6 (some .int) 4 94 [.ref h0, .int x1, .int x2, .int x3, .int x4] (wX1 h0 E σ) (wX1 h0 E σ2) r := by
  refine g_enterI (own := RX1) (lv := [(0, .ref h0), (1, .int x1), (2, .int x2), (3, .int x3), (4, .int x4)]) (by decide +kernel) rfl (Nat.le_of_ble_eq_true rfl) rfl ?_
  intro p e s m args below meth c A C
  rw [fX1_write] at hF
  refine g_iload_n C dX1_write_0 1 rfl ?_
  obtain ⟨r1, h1, hF⟩ := bs_some hF
  refine g_callS C (kX1_isFile l D _ _ h1) gS_X1_isFile hn_X1_isFile rfl (Nat.le_of_ble_eq_true rfl) (Nat.le_of_ble_eq_true rfl) rfl (Nat.le_of_ble_eq_true rfl) dX1_write_1 ?_
  refine g_if_ne (tgt := 9) C dX1_write_4 rfl (fun hc hF => ?_) (fun hc hF => ?_) hF
  · refine g_iload_n C dX1_write_9 2 rfl ?_
    refine g_iconst (v := (nI 0)) C dX1_write_10 rfl ?_
    refine g_bipush (v := (nI 95)) C dX1_write_11 rfl ?_
    obtain ⟨r2, h2, hF⟩ := bs_some hF
    refine g_callS C (kX1_within l D _ _ _ _ h2) gS_X1_within hn_X1_within rfl (Nat.le_of_ble_eq_true rfl) (Nat.le_of_ble_eq_true rfl) rfl (Nat.le_of_ble_eq_true rfl) dX1_write_13 ?_
    refine g_if_eq (tgt := 43) C dX1_write_16 rfl (fun hc hF => ?_) (fun hc hF => ?_) hF
    · refine g_bipush (v := (-2)) C dX1_write_43 rfl ?_
      exact x1_iret C rfl dX1_write_45 hF
    · refine g_iload_n C dX1_write_19 3 rfl ?_
      refine g_iconst (v := (nI 1)) C dX1_write_20 rfl ?_
      refine g_bipush (v := (nI 96)) C dX1_write_21 rfl ?_
      refine g_iload_n C dX1_write_23 2 rfl ?_
      refine g_isub C dX1_write_24 ?_
      obtain ⟨r3, h3, hF⟩ := bs_some hF
      refine g_callS C (kX1_within l D _ _ _ _ h3) gS_X1_within hn_X1_within rfl (Nat.le_of_ble_eq_true rfl) (Nat.le_of_ble_eq_true rfl) rfl (Nat.le_of_ble_eq_true rfl) dX1_write_25 ?_
      refine g_if_eq (tgt := 43) C dX1_write_28 rfl (fun hc hF => ?_) (fun hc hF => ?_) hF
      · refine g_bipush (v := (-2)) C dX1_write_43 rfl ?_
        exact x1_iret C rfl dX1_write_45 hF
      · refine g_iload C dX1_write_31 4 rfl ?_
        refine g_iconst (v := (nI 0)) C dX1_write_33 rfl ?_
        refine g_sipush (v := (nI 255)) C dX1_write_34 rfl ?_
        obtain ⟨r4, h4, hF⟩ := bs_some hF
        refine g_callS C (kX1_within l D _ _ _ _ h4) gS_X1_within hn_X1_within rfl (Nat.le_of_ble_eq_true rfl) (Nat.le_of_ble_eq_true rfl) rfl (Nat.le_of_ble_eq_true rfl) dX1_write_37 ?_
        refine g_if_ne (tgt := 46) C dX1_write_40 rfl (fun hc hF => ?_) (fun hc hF => ?_) hF
        · refine g_aload_n C dX1_write_46 0 rfl ?_
          refine x1_get3 C dX1_write_47 ?_
          refine g_if_eq (tgt := 56) C dX1_write_50 rfl (fun hc hF => ?_) (fun hc hF => ?_) hF
          · refine g_aload_n C dX1_write_56 0 rfl ?_
            refine g_iconst (v := (nI 0)) C dX1_write_57 rfl ?_
            refine x1_put7 C dX1_write_58 ?_
            refine g_iload_n C dX1_write_61 2 rfl ?_
            refine g_iconst (v := (nI 4)) C dX1_write_62 rfl ?_
            refine g_idiv C dX1_write_63 (by decide) ?_
            refine g_istore (lv2 := [(5, .int (x2 / (nI 4))), (0, .ref h0), (1, .int x1), (2, .int x2), (3, .int x3), (4, .int x4)]) C dX1_write_64 (Nat.le_of_ble_eq_true rfl) rfl ?_
            refine g_sub [1, 2, 3, 4, 5, 0] (lv2 := [(0, .ref h0), (1, .int x1), (2, .int x2), (3, .int x3), (4, .int x4), (5, .int (x2 / (nI 4)))]) rfl ?_
            exact wX1_write_L66 C FU _ _ _ _ _ _ hF
          · refine g_bipush (v := (-3)) C dX1_write_53 rfl ?_
            exact x1_iret C rfl dX1_write_55 hF
        · refine g_bipush (v := (-2)) C dX1_write_43 rfl ?_
          exact x1_iret C rfl dX1_write_45 hF
  · refine g_iconst (v := (-1)) C dX1_write_7 rfl ?_
    exact x1_iret C rfl dX1_write_8 hF
set_option maxRecDepth 100000 in
set_option maxHeartbeats 4000000 in
theorem kX1_isWhole (l : Launch) (D : va_G) (h0 : Nat) (E : EX) (x1 : Int32) (x2 : Int32) (x3 : Int32) (x4 : Int32) (σ : SX) (r : Int32) (σ2 : SX) (hF : fX1_isWhole x1 x2 x3 x4 σ = some (r, σ2)) : MI l D (tysX1 E) yX1_isWhole cX1_isWhole 7 (some .boolean) 0 0 [.ref h0, .int x1, .int x2, .int x3, .int x4] (wX1 h0 E σ) (wX1 h0 E σ2) r := by
  refine g_enterI (own := RX1) (lv := [(0, .ref h0), (1, .int x1), (2, .int x2), (3, .int x3), (4, .int x4)]) (by decide +kernel) rfl (Nat.le_of_ble_eq_true rfl) rfl ?_
  intro p e s m args below meth c A C
  rw [fX1_isWhole] at hF
  refine g_iconst (v := (nI 4)) C dX1_isWhole_0 rfl ?_
  refine g_iload_n C dX1_isWhole_1 2 rfl ?_
  refine g_imul C dX1_isWhole_2 ?_
  refine g_istore (lv2 := [(5, .int ((nI 4) * x2)), (0, .ref h0), (1, .int x1), (2, .int x2), (3, .int x3), (4, .int x4)]) C dX1_isWhole_3 (Nat.le_of_ble_eq_true rfl) rfl ?_
  refine g_iconst (v := (nI 4)) C dX1_isWhole_5 rfl ?_
  refine g_iload_n C dX1_isWhole_6 3 rfl ?_
  refine g_imul C dX1_isWhole_7 ?_
  refine g_iconst (v := (nI 4)) C dX1_isWhole_8 rfl ?_
  refine g_iadd C dX1_isWhole_9 ?_
  refine g_aload_n C dX1_isWhole_10 1 rfl ?_
  refine x1_get1 C dX1_isWhole_11 ?_
  refine g_iload_n C dX1_isWhole_14 2 rfl ?_
  refine x1_ld1 C dX1_isWhole_15 (fun hF => ?_) hF
  refine g_icmp_ge (tgt := 27) C dX1_isWhole_16 rfl (fun hc hF => ?_) (fun hc hF => ?_) hF
  · refine g_aload_n C dX1_isWhole_27 1 rfl ?_
    refine x1_get1 C dX1_isWhole_28 ?_
    refine g_iload_n C dX1_isWhole_31 2 rfl ?_
    refine x1_ld1 C dX1_isWhole_32 (fun hF => ?_) hF
    refine g_istore (lv2 := [(6, .int (σ.1 1 x1.toNatClampNeg)), (5, .int ((nI 4) * x2)), (0, .ref h0), (1, .int x1), (2, .int x2), (3, .int x3), (4, .int x4)]) C dX1_isWhole_33 (Nat.le_of_ble_eq_true rfl) rfl ?_
    refine g_iload_n C dX1_isWhole_35 5 rfl ?_
    refine g_iload C dX1_isWhole_36 1 rfl ?_
    refine g_icmp_gt (tgt := 52) C dX1_isWhole_38 rfl (fun hc hF => ?_) (fun hc hF => ?_) hF
    · refine g_iconst (v := (nI 0)) C dX1_isWhole_52 rfl ?_
      exact x1_zret C rfl rfl dX1_isWhole_53 hF
    · refine g_iload C dX1_isWhole_41 6 rfl ?_
      refine g_iload C dX1_isWhole_43 0 rfl ?_
      refine g_icmp_lt (tgt := 52) C dX1_isWhole_45 rfl (fun hc hF => ?_) (fun hc hF => ?_) hF
      · refine g_iconst (v := (nI 0)) C dX1_isWhole_52 rfl ?_
        exact x1_zret C rfl rfl dX1_isWhole_53 hF
      · refine g_iconst (v := (nI 1)) C dX1_isWhole_48 rfl ?_
        refine g_goto (tgt := 53) C dX1_isWhole_49 rfl ?_
        exact x1_zret C rfl rfl dX1_isWhole_53 hF
  · refine g_iconst (v := (nI 4)) C dX1_isWhole_19 rfl ?_
    refine g_iload_n C dX1_isWhole_20 3 rfl ?_
    refine g_imul C dX1_isWhole_21 ?_
    refine g_iconst (v := (nI 4)) C dX1_isWhole_22 rfl ?_
    refine g_iadd C dX1_isWhole_23 ?_
    refine g_goto (tgt := 33) C dX1_isWhole_24 rfl ?_
    refine g_istore (lv2 := [(6, .int (((nI 4) * x2) + (nI 4))), (5, .int ((nI 4) * x2)), (0, .ref h0), (1, .int x1), (2, .int x2), (3, .int x3), (4, .int x4)]) C dX1_isWhole_33 (Nat.le_of_ble_eq_true rfl) rfl ?_
    refine g_iload_n C dX1_isWhole_35 5 rfl ?_
    refine g_iload C dX1_isWhole_36 1 rfl ?_
    refine g_icmp_gt (tgt := 52) C dX1_isWhole_38 rfl (fun hc hF => ?_) (fun hc hF => ?_) hF
    · refine g_iconst (v := (nI 0)) C dX1_isWhole_52 rfl ?_
      exact x1_zret C rfl rfl dX1_isWhole_53 hF
    · refine g_iload C dX1_isWhole_41 6 rfl ?_
      refine g_iload C dX1_isWhole_43 0 rfl ?_
      refine g_icmp_lt (tgt := 52) C dX1_isWhole_45 rfl (fun hc hF => ?_) (fun hc hF => ?_) hF
      · refine g_iconst (v := (nI 0)) C dX1_isWhole_52 rfl ?_
        exact x1_zret C rfl rfl dX1_isWhole_53 hF
      · refine g_iconst (v := (nI 1)) C dX1_isWhole_48 rfl ?_
        refine g_goto (tgt := 53) C dX1_isWhole_49 rfl ?_
        exact x1_zret C rfl rfl dX1_isWhole_53 hF
set_option maxRecDepth 100000 in
set_option maxHeartbeats 4000000 in
theorem wX1_clears_L73 {p : Program} {l : Launch} {e : Env} {s : State} {m : MethodId} {args : Array Value} {below : List Frame} {meth : Method} {c : Code} {A : Nat → Prop} {D : va_G} {h0 : Nat} {E : EX} {σ2 : SX} {r : Int32} (C : GC p { frames := 1, cells := 0, slots := 0, locals := 26 } s m args meth c A D cX1_clears 8 0 0 (tysX1 E) RX1 none) : ∀ (n : Nat) (x2 : Int32) (x3 : Int32) (x4 : Int32) (x5 : Int32) (x6 : Int32) (σ : SX), fX1_clears_L73 n x2 x3 x4 x5 x6 σ = some (r, σ2) → GW p l e { frames := 1, cells := 0, slots := 0, locals := 26 } s m args below meth c (QV D (wX1 h0 E σ2) A below args s) A D 8 0 0 (wX1 h0 E σ) 73 [(0, .ref h0), (2, .int x2), (3, .int x3), (4, .int x4), (5, .int x5), (6, .int x6)] [] := by
  intro n
  induction n with
  | zero => intro x2 x3 x4 x5 x6 σ hF; simp only [fX1_clears_L73] at hF; cases hF
  | succ n ih =>
    intro x2 x3 x4 x5 x6 σ hF
    rw [fX1_clears_L73] at hF
    refine g_iload C dX1_clears_73 5 rfl ?_
    refine g_iconst (v := (nI 4)) C dX1_clears_75 rfl ?_
    refine g_icmp_ge (tgt := 144) C dX1_clears_76 rfl (fun hc hF => ?_) (fun hc hF => ?_) hF
    · exact x1_vret C rfl dX1_clears_144 hF
    · refine g_iconst (v := (nI 4)) C dX1_clears_79 rfl ?_
      refine g_iload_n C dX1_clears_80 1 rfl ?_
      refine g_imul C dX1_clears_81 ?_
      refine g_iload C dX1_clears_82 5 rfl ?_
      refine g_iadd C dX1_clears_84 ?_
      refine g_iload_n C dX1_clears_85 2 rfl ?_
      refine g_iload C dX1_clears_86 3 rfl ?_
      refine g_iconst (v := (nI 1)) C dX1_clears_88 rfl ?_
      refine g_isub C dX1_clears_89 ?_
      obtain ⟨r1, h1, hF⟩ := bs_some hF
      refine g_callS C (kX1_within l D _ _ _ _ h1) gS_X1_within hn_X1_within rfl (Nat.le_of_ble_eq_true rfl) (Nat.le_of_ble_eq_true rfl) rfl (Nat.le_of_ble_eq_true rfl) dX1_clears_90 ?_
      refine g_istore (lv2 := [(7, .int r1), (0, .ref h0), (2, .int x2), (3, .int x3), (4, .int x4), (5, .int x5), (6, .int x6)]) C dX1_clears_93 (Nat.le_of_ble_eq_true rfl) rfl ?_
      refine g_aload_n C dX1_clears_95 1 rfl ?_
      refine x1_get0 C dX1_clears_96 ?_
      refine g_iconst (v := (nI 4)) C dX1_clears_99 rfl ?_
      refine g_aload_n C dX1_clears_100 1 rfl ?_
      refine x1_get2 C dX1_clears_101 ?_
      refine g_iload C dX1_clears_104 5 rfl ?_
      refine x1_ld2 C dX1_clears_106 (fun hF => ?_) hF
      refine g_imul C dX1_clears_107 ?_
      refine g_iload C dX1_clears_108 6 rfl ?_
      refine g_iadd C dX1_clears_110 ?_
      refine g_iload C dX1_clears_111 0 rfl ?_
      refine g_if_eq (tgt := 120) C dX1_clears_113 rfl (fun hc hF => ?_) (fun hc hF => ?_) hF
      · refine g_aload_n C dX1_clears_120 1 rfl ?_
        refine x1_get0 C dX1_clears_121 ?_
        refine g_iconst (v := (nI 4)) C dX1_clears_124 rfl ?_
        refine g_aload_n C dX1_clears_125 1 rfl ?_
        refine x1_get2 C dX1_clears_126 ?_
        refine g_iload C dX1_clears_129 5 rfl ?_
        refine x1_ld2 C dX1_clears_131 (fun hF => ?_) hF
        refine g_imul C dX1_clears_132 ?_
        refine g_iload C dX1_clears_133 6 rfl ?_
        refine g_iadd C dX1_clears_135 ?_
        refine x1_ld0 C dX1_clears_136 (fun hF => ?_) hF
        refine x1_st0 C dX1_clears_137 (fun hF => ?_) hF
        refine g_iinc (v := (x6 + nI 1)) (lv2 := [(6, .int (x6 + nI 1)), (7, .int r1), (0, .ref h0), (2, .int x2), (3, .int x3), (4, .int x4), (5, .int x5)]) C dX1_clears_138 6 rfl rfl (Nat.le_of_ble_eq_true rfl) rfl ?_
        refine g_goto (tgt := 73) C dX1_clears_141 rfl ?_
        refine g_sub [2, 3, 4, 5, 6, 0] (lv2 := [(0, .ref h0), (2, .int x2), (3, .int x3), (4, .int x4), (5, .int x5), (6, .int (x6 + nI 1))]) rfl ?_
        exact ih _ _ _ _ _ _ hF
      · refine g_iconst (v := (nI 0)) C dX1_clears_116 rfl ?_
        refine g_goto (tgt := 137) C dX1_clears_117 rfl ?_
        refine x1_st0 C dX1_clears_137 (fun hF => ?_) hF
        refine g_iinc (v := (x6 + nI 1)) (lv2 := [(6, .int (x6 + nI 1)), (7, .int r1), (0, .ref h0), (2, .int x2), (3, .int x3), (4, .int x4), (5, .int x5)]) C dX1_clears_138 6 rfl rfl (Nat.le_of_ble_eq_true rfl) rfl ?_
        refine g_goto (tgt := 73) C dX1_clears_141 rfl ?_
        refine g_sub [2, 3, 4, 5, 6, 0] (lv2 := [(0, .ref h0), (2, .int x2), (3, .int x3), (4, .int x4), (5, .int x5), (6, .int (x6 + nI 1))]) rfl ?_
        exact ih _ _ _ _ _ _ hF
set_option maxRecDepth 100000 in
set_option maxHeartbeats 4000000 in
theorem kX1_clears (l : Launch) (D : va_G) (h0 : Nat) (E : EX) (x1 : Int32) (x2 : Int32) (x3 : Int32) (x4 : Int32) (σ : SX) (r : Int32) (σ2 : SX) (hF : fX1_clears x1 x2 x3 x4 σ = some (r, σ2)) : MV l D (tysX1 E) yX1_clears cX1_clears 8 none 1 26 [.ref h0, .int x1, .int x2, .int x3, .int x4] (wX1 h0 E σ) (wX1 h0 E σ2) := by
  refine g_enterV (own := RX1) (lv := [(0, .ref h0), (1, .int x1), (2, .int x2), (3, .int x3), (4, .int x4)]) (by decide +kernel) rfl (Nat.le_of_ble_eq_true rfl) rfl ?_
  intro p e s m args below meth c A C
  rw [fX1_clears] at hF
  refine g_bipush (v := (nI 24)) C dX1_clears_0 rfl ?_
  refine g_iload_n C dX1_clears_2 1 rfl ?_
  refine g_imul C dX1_clears_3 ?_
  refine g_iload_n C dX1_clears_4 2 rfl ?_
  refine g_iadd C dX1_clears_5 ?_
  refine g_istore (lv2 := [(5, .int (((nI 24) * x1) + x2)), (0, .ref h0), (1, .int x1), (2, .int x2), (3, .int x3), (4, .int x4)]) C dX1_clears_6 (Nat.le_of_ble_eq_true rfl) rfl ?_
  refine g_aload_n C dX1_clears_8 1 rfl ?_
  refine g_iload_n C dX1_clears_9 2 rfl ?_
  refine g_iload_n C dX1_clears_10 3 rfl ?_
  refine g_iload_n C dX1_clears_11 4 rfl ?_
  refine g_iload C dX1_clears_12 5 rfl ?_
  obtain ⟨r1, s1, h1, hF⟩ := bd_some hF
  refine g_callV C (kX1_isWhole l D h0 E _ _ _ _ _ _ _ h1) gV_X1_isWhole rfl rfl hn_X1_isWhole rfl (Nat.le_of_ble_eq_true rfl) (Nat.le_of_ble_eq_true rfl) rfl (Nat.le_of_ble_eq_true rfl) dX1_clears_14 ?_
  refine g_if_eq (tgt := 58) C dX1_clears_17 rfl (fun hc hF => ?_) (fun hc hF => ?_) hF
  · refine g_aload_n C dX1_clears_58 1 rfl ?_
    refine x1_get2 C dX1_clears_59 ?_
    refine g_iload C dX1_clears_62 0 rfl ?_
    refine x1_ld2 C dX1_clears_64 (fun hF => ?_) hF
    refine g_bipush (v := nN) C dX1_clears_65 rfl ?_
    refine g_icmp_eq (tgt := 144) C dX1_clears_67 rfl (fun hc hF => ?_) (fun hc hF => ?_) hF
    · exact x1_vret C rfl dX1_clears_144 hF
    · refine g_iconst (v := (nI 0)) C dX1_clears_70 rfl ?_
      refine g_istore (lv2 := [(6, .int (nI 0)), (5, .int (((nI 24) * x1) + x2)), (0, .ref h0), (1, .int x1), (2, .int x2), (3, .int x3), (4, .int x4)]) C dX1_clears_71 (Nat.le_of_ble_eq_true rfl) rfl ?_
      refine g_sub [2, 4, 5, 6, 1, 0] (lv2 := [(0, .ref h0), (2, .int x2), (3, .int x3), (4, .int x4), (5, .int (((nI 24) * x1) + x2)), (6, .int (nI 0))]) rfl ?_
      exact wX1_clears_L73 C FU _ _ _ _ _ _ hF
  · refine g_aload_n C dX1_clears_20 1 rfl ?_
    refine g_dup C dX1_clears_21 rfl ?_
    refine x1_get9 C dX1_clears_22 ?_
    refine g_aload_n C dX1_clears_25 1 rfl ?_
    refine x1_get2 C dX1_clears_26 ?_
    refine g_iload C dX1_clears_29 0 rfl ?_
    refine x1_ld2 C dX1_clears_31 (fun hF => ?_) hF
    refine g_bipush (v := nN) C dX1_clears_32 rfl ?_
    refine g_icmp_eq (tgt := 41) C dX1_clears_34 rfl (fun hc hF => ?_) (fun hc hF => ?_) hF
    · refine g_iconst (v := (nI 0)) C dX1_clears_41 rfl ?_
      refine g_iadd C dX1_clears_42 ?_
      refine x1_put9 C dX1_clears_43 ?_
      refine g_aload_n C dX1_clears_46 1 rfl ?_
      refine x1_get2 C dX1_clears_47 ?_
      refine g_iload C dX1_clears_50 0 rfl ?_
      refine g_bipush (v := nN) C dX1_clears_52 rfl ?_
      refine x1_st2 C dX1_clears_54 (fun hF => ?_) hF
      refine g_goto (tgt := 144) C dX1_clears_55 rfl ?_
      exact x1_vret C rfl dX1_clears_144 hF
    · refine g_iconst (v := (nI 1)) C dX1_clears_37 rfl ?_
      refine g_goto (tgt := 42) C dX1_clears_38 rfl ?_
      refine g_iadd C dX1_clears_42 ?_
      refine x1_put9 C dX1_clears_43 ?_
      refine g_aload_n C dX1_clears_46 1 rfl ?_
      refine x1_get2 C dX1_clears_47 ?_
      refine g_iload C dX1_clears_50 0 rfl ?_
      refine g_bipush (v := nN) C dX1_clears_52 rfl ?_
      refine x1_st2 C dX1_clears_54 (fun hF => ?_) hF
      refine g_goto (tgt := 144) C dX1_clears_55 rfl ?_
      exact x1_vret C rfl dX1_clears_144 hF
set_option maxRecDepth 100000 in
set_option maxHeartbeats 4000000 in
theorem wX1_punches_L64 {p : Program} {l : Launch} {e : Env} {s : State} {m : MethodId} {args : Array Value} {below : List Frame} {meth : Method} {c : Code} {A : Nat → Prop} {D : va_G} {h0 : Nat} {E : EX} {σ2 : SX} {r : Int32} (C : GC p { frames := 4, cells := 0, slots := 0, locals := 94 } s m args meth c A D cX1_punches 5 0 0 (tysX1 E) RX1 (some .boolean)) : ∀ (n : Nat) (x1 : Int32) (x2 : Int32) (x3 : Int32) (x4 : Int32) (σ : SX), fX1_punches_L64 n x1 x2 x3 x4 σ = some (r, σ2) → GW p l e { frames := 4, cells := 0, slots := 0, locals := 94 } s m args below meth c (QI D (wX1 h0 E σ2) r A below args s) A D 5 0 0 (wX1 h0 E σ) 64 [(0, .ref h0), (1, .int x1), (2, .int x2), (3, .int x3), (4, .int x4)] [] := by
  intro n
  induction n with
  | zero => intro x1 x2 x3 x4 σ hF; simp only [fX1_punches_L64] at hF; cases hF
  | succ n ih =>
    intro x1 x2 x3 x4 σ hF
    rw [fX1_punches_L64] at hF
    refine g_iconst (v := (nI 4)) C dX1_punches_64 rfl ?_
    refine g_iload C dX1_punches_65 4 rfl ?_
    refine g_imul C dX1_punches_67 ?_
    refine g_iload_n C dX1_punches_68 3 rfl ?_
    refine g_icmp_ge (tgt := 87) C dX1_punches_69 rfl (fun hc hF => ?_) (fun hc hF => ?_) hF
    · refine g_iconst (v := (nI 1)) C dX1_punches_87 rfl ?_
      exact x1_zret C rfl rfl dX1_punches_88 hF
    · refine g_aload_n C dX1_punches_72 0 rfl ?_
      refine g_iload_n C dX1_punches_73 1 rfl ?_
      refine g_iload C dX1_punches_74 4 rfl ?_
      refine g_iload_n C dX1_punches_76 2 rfl ?_
      refine g_iload_n C dX1_punches_77 3 rfl ?_
      obtain ⟨r1, s1, h1, hF⟩ := bd_some hF
      refine g_callVv C (kX1_clears l D h0 E _ _ _ _ _ _ _ h1) gV_X1_clears rfl rfl hn_X1_clears rfl (Nat.le_of_ble_eq_true rfl) (Nat.le_of_ble_eq_true rfl) rfl (Nat.le_of_ble_eq_true rfl) dX1_punches_78 ?_
      refine g_iinc (v := (x4 + nI 1)) (lv2 := [(4, .int (x4 + nI 1)), (0, .ref h0), (1, .int x1), (2, .int x2), (3, .int x3)]) C dX1_punches_81 4 rfl rfl (Nat.le_of_ble_eq_true rfl) rfl ?_
      refine g_goto (tgt := 64) C dX1_punches_84 rfl ?_
      refine g_sub [1, 2, 3, 4, 0] (lv2 := [(0, .ref h0), (1, .int x1), (2, .int x2), (3, .int x3), (4, .int (x4 + nI 1))]) rfl ?_
      exact ih _ _ _ _ _ hF
set_option maxRecDepth 100000 in
set_option maxHeartbeats 4000000 in
theorem wX1_punches_L15 {p : Program} {l : Launch} {e : Env} {s : State} {m : MethodId} {args : Array Value} {below : List Frame} {meth : Method} {c : Code} {A : Nat → Prop} {D : va_G} {h0 : Nat} {E : EX} {σ2 : SX} {r : Int32} (C : GC p { frames := 4, cells := 0, slots := 0, locals := 94 } s m args meth c A D cX1_punches 5 0 0 (tysX1 E) RX1 (some .boolean)) : ∀ (n : Nat) (x1 : Int32) (x2 : Int32) (x3 : Int32) (x4 : Int32) (σ : SX), fX1_punches_L15 n x1 x2 x3 x4 σ = some (r, σ2) → GW p l e { frames := 4, cells := 0, slots := 0, locals := 94 } s m args below meth c (QI D (wX1 h0 E σ2) r A below args s) A D 5 0 0 (wX1 h0 E σ) 15 [(0, .ref h0), (1, .int x1), (2, .int x2), (3, .int x3), (4, .int x4)] [] := by
  intro n
  induction n with
  | zero => intro x1 x2 x3 x4 σ hF; simp only [fX1_punches_L15] at hF; cases hF
  | succ n ih =>
    intro x1 x2 x3 x4 σ hF
    rw [fX1_punches_L15] at hF
    refine g_iconst (v := (nI 4)) C dX1_punches_15 rfl ?_
    refine g_iload C dX1_punches_16 4 rfl ?_
    refine g_imul C dX1_punches_18 ?_
    refine g_iload_n C dX1_punches_19 3 rfl ?_
    refine g_icmp_ge (tgt := 49) C dX1_punches_20 rfl (fun hc hF => ?_) (fun hc hF => ?_) hF
    · refine g_aload_n C dX1_punches_49 0 rfl ?_
      refine g_iload_n C dX1_punches_50 1 rfl ?_
      obtain ⟨r1, s1, h1, hF⟩ := bd_some hF
      refine g_callV C (kX1_owns l D h0 E _ _ _ _ h1) gV_X1_owns rfl rfl hn_X1_owns rfl (Nat.le_of_ble_eq_true rfl) (Nat.le_of_ble_eq_true rfl) rfl (Nat.le_of_ble_eq_true rfl) dX1_punches_51 ?_
      refine g_if_ne (tgt := 59) C dX1_punches_54 rfl (fun hc hF => ?_) (fun hc hF => ?_) hF
      · refine g_iload_n C dX1_punches_59 2 rfl ?_
        refine g_iconst (v := (nI 4)) C dX1_punches_60 rfl ?_
        refine g_idiv C dX1_punches_61 (by decide) ?_
        refine g_istore (lv2 := [(4, .int (x2 / (nI 4))), (0, .ref h0), (1, .int x1), (2, .int x2), (3, .int x3)]) C dX1_punches_62 (Nat.le_of_ble_eq_true rfl) rfl ?_
        refine g_sub [1, 2, 3, 4, 0] (lv2 := [(0, .ref h0), (1, .int x1), (2, .int x2), (3, .int x3), (4, .int (x2 / (nI 4)))]) rfl ?_
        exact wX1_punches_L64 C FU _ _ _ _ _ hF
      · refine g_iconst (v := (nI 0)) C dX1_punches_57 rfl ?_
        exact x1_zret C rfl rfl dX1_punches_58 hF
    · refine g_aload_n C dX1_punches_23 0 rfl ?_
      refine g_iload_n C dX1_punches_24 1 rfl ?_
      refine g_iload C dX1_punches_25 4 rfl ?_
      refine g_iload_n C dX1_punches_27 2 rfl ?_
      refine g_iload_n C dX1_punches_28 3 rfl ?_
      obtain ⟨r2, s2, h2, hF⟩ := bd_some hF
      refine g_callV C (kX1_isWhole l D h0 E _ _ _ _ _ _ _ h2) gV_X1_isWhole rfl rfl hn_X1_isWhole rfl (Nat.le_of_ble_eq_true rfl) (Nat.le_of_ble_eq_true rfl) rfl (Nat.le_of_ble_eq_true rfl) dX1_punches_29 ?_
      refine g_if_ne (tgt := 43) C dX1_punches_32 rfl (fun hc hF => ?_) (fun hc hF => ?_) hF
      · refine g_iinc (v := (x4 + nI 1)) (lv2 := [(4, .int (x4 + nI 1)), (0, .ref h0), (1, .int x1), (2, .int x2), (3, .int x3)]) C dX1_punches_43 4 rfl rfl (Nat.le_of_ble_eq_true rfl) rfl ?_
        refine g_goto (tgt := 15) C dX1_punches_46 rfl ?_
        refine g_sub [1, 2, 3, 4, 0] (lv2 := [(0, .ref h0), (1, .int x1), (2, .int x2), (3, .int x3), (4, .int (x4 + nI 1))]) rfl ?_
        exact ih _ _ _ _ _ hF
      · refine g_aload_n C dX1_punches_35 0 rfl ?_
        refine g_iload_n C dX1_punches_36 1 rfl ?_
        refine g_iload C dX1_punches_37 4 rfl ?_
        refine g_iconst (v := (nI 0)) C dX1_punches_39 rfl ?_
        obtain ⟨r3, s3, h3, hF⟩ := bd_some hF
        refine g_callVv C (kX1_wants l D h0 E _ _ _ _ _ _ h3) gV_X1_wants rfl rfl hn_X1_wants rfl (Nat.le_of_ble_eq_true rfl) (Nat.le_of_ble_eq_true rfl) rfl (Nat.le_of_ble_eq_true rfl) dX1_punches_40 ?_
        refine g_iinc (v := (x4 + nI 1)) (lv2 := [(4, .int (x4 + nI 1)), (0, .ref h0), (1, .int x1), (2, .int x2), (3, .int x3)]) C dX1_punches_43 4 rfl rfl (Nat.le_of_ble_eq_true rfl) rfl ?_
        refine g_goto (tgt := 15) C dX1_punches_46 rfl ?_
        refine g_sub [1, 2, 3, 4, 0] (lv2 := [(0, .ref h0), (1, .int x1), (2, .int x2), (3, .int x3), (4, .int (x4 + nI 1))]) rfl ?_
        exact ih _ _ _ _ _ hF
set_option maxRecDepth 100000 in
set_option maxHeartbeats 4000000 in
theorem kX1_punches (l : Launch) (D : va_G) (h0 : Nat) (E : EX) (x1 : Int32) (x2 : Int32) (x3 : Int32) (σ : SX) (r : Int32) (σ2 : SX) (hF : fX1_punches x1 x2 x3 σ = some (r, σ2)) : MI l D (tysX1 E) yX1_punches cX1_punches 5 (some .boolean) 4 94 [.ref h0, .int x1, .int x2, .int x3] (wX1 h0 E σ) (wX1 h0 E σ2) r := by
  refine g_enterI (own := RX1) (lv := [(0, .ref h0), (1, .int x1), (2, .int x2), (3, .int x3)]) (by decide +kernel) rfl (Nat.le_of_ble_eq_true rfl) rfl ?_
  intro p e s m args below meth c A C
  rw [fX1_punches] at hF
  refine g_aload_n C dX1_punches_0 0 rfl ?_
  refine g_iconst (v := (nI 0)) C dX1_punches_1 rfl ?_
  refine x1_put9 C dX1_punches_2 ?_
  refine g_aload_n C dX1_punches_5 0 rfl ?_
  refine g_iconst (v := (nI 0)) C dX1_punches_6 rfl ?_
  refine x1_put7 C dX1_punches_7 ?_
  refine g_iload_n C dX1_punches_10 2 rfl ?_
  refine g_iconst (v := (nI 4)) C dX1_punches_11 rfl ?_
  refine g_idiv C dX1_punches_12 (by decide) ?_
  refine g_istore (lv2 := [(4, .int (x2 / (nI 4))), (0, .ref h0), (1, .int x1), (2, .int x2), (3, .int x3)]) C dX1_punches_13 (Nat.le_of_ble_eq_true rfl) rfl ?_
  refine g_sub [1, 2, 3, 4, 0] (lv2 := [(0, .ref h0), (1, .int x1), (2, .int x2), (3, .int x3), (4, .int (x2 / (nI 4)))]) rfl ?_
  exact wX1_punches_L15 C FU _ _ _ _ _ hF
set_option maxRecDepth 100000 in
set_option maxHeartbeats 4000000 in
theorem kX1_cut (l : Launch) (D : va_G) (h0 : Nat) (E : EX) (x1 : Int32) (x2 : Int32) (σ : SX) (r : Int32) (σ2 : SX) (hF : fX1_cut x1 x2 σ = some (r, σ2)) : MI l D (tysX1 E) yX1_cut cX1_cut 4 (some .int) 5 118 [.ref h0, .int x1, .int x2] (wX1 h0 E σ) (wX1 h0 E σ2) r := by
  refine g_enterI (own := RX1) (lv := [(0, .ref h0), (1, .int x1), (2, .int x2)]) (by decide +kernel) rfl (Nat.le_of_ble_eq_true rfl) rfl ?_
  intro p e s m args below meth c A C
  rw [fX1_cut] at hF
  refine g_iload_n C dX1_cut_0 1 rfl ?_
  obtain ⟨r1, h1, hF⟩ := bs_some hF
  refine g_callS C (kX1_isFile l D _ _ h1) gS_X1_isFile hn_X1_isFile rfl (Nat.le_of_ble_eq_true rfl) (Nat.le_of_ble_eq_true rfl) rfl (Nat.le_of_ble_eq_true rfl) dX1_cut_1 ?_
  refine g_if_ne (tgt := 9) C dX1_cut_4 rfl (fun hc hF => ?_) (fun hc hF => ?_) hF
  · refine g_iload_n C dX1_cut_9 2 rfl ?_
    refine g_iconst (v := (nI 0)) C dX1_cut_10 rfl ?_
    refine g_bipush (v := (nI 96)) C dX1_cut_11 rfl ?_
    obtain ⟨r2, h2, hF⟩ := bs_some hF
    refine g_callS C (kX1_within l D _ _ _ _ h2) gS_X1_within hn_X1_within rfl (Nat.le_of_ble_eq_true rfl) (Nat.le_of_ble_eq_true rfl) rfl (Nat.le_of_ble_eq_true rfl) dX1_cut_13 ?_
    refine g_if_ne (tgt := 22) C dX1_cut_16 rfl (fun hc hF => ?_) (fun hc hF => ?_) hF
    · refine g_aload_n C dX1_cut_22 0 rfl ?_
      refine x1_get3 C dX1_cut_23 ?_
      refine g_if_eq (tgt := 32) C dX1_cut_26 rfl (fun hc hF => ?_) (fun hc hF => ?_) hF
      · refine g_aload_n C dX1_cut_32 0 rfl ?_
        refine x1_get1 C dX1_cut_33 ?_
        refine g_iload_n C dX1_cut_36 1 rfl ?_
        refine x1_ld1 C dX1_cut_37 (fun hF => ?_) hF
        refine g_istore_n (lv2 := [(3, .int (σ.1 1 x1.toNatClampNeg)), (0, .ref h0), (1, .int x1), (2, .int x2)]) C dX1_cut_38 (Nat.le_of_ble_eq_true rfl) rfl ?_
        refine g_iload_n C dX1_cut_39 3 rfl ?_
        refine g_iload_n C dX1_cut_40 0 rfl ?_
        refine g_icmp_ge (tgt := 57) C dX1_cut_41 rfl (fun hc hF => ?_) (fun hc hF => ?_) hF
        · refine g_aload_n C dX1_cut_57 1 rfl ?_
          refine x1_get1 C dX1_cut_58 ?_
          refine g_iload_n C dX1_cut_61 2 rfl ?_
          refine g_iload_n C dX1_cut_62 3 rfl ?_
          refine x1_st1 C dX1_cut_63 (fun hF => ?_) hF
          refine g_iload_n C dX1_cut_64 0 rfl ?_
          exact x1_iret C rfl dX1_cut_65 hF
        · refine g_aload_n C dX1_cut_44 1 rfl ?_
          refine g_iload_n C dX1_cut_45 2 rfl ?_
          refine g_iload_n C dX1_cut_46 3 rfl ?_
          refine g_iload_n C dX1_cut_47 0 rfl ?_
          obtain ⟨r3, s3, h3, hF⟩ := bd_some hF
          refine g_callV C (kX1_punches l D h0 E _ _ _ _ _ _ h3) gV_X1_punches rfl rfl hn_X1_punches rfl (Nat.le_of_ble_eq_true rfl) (Nat.le_of_ble_eq_true rfl) rfl (Nat.le_of_ble_eq_true rfl) dX1_cut_48 ?_
          refine g_if_ne (tgt := 57) C dX1_cut_51 rfl (fun hc hF => ?_) (fun hc hF => ?_) hF
          · refine g_aload_n C dX1_cut_57 1 rfl ?_
            refine x1_get1 C dX1_cut_58 ?_
            refine g_iload_n C dX1_cut_61 2 rfl ?_
            refine g_iload_n C dX1_cut_62 3 rfl ?_
            refine x1_st1 C dX1_cut_63 (fun hF => ?_) hF
            refine g_iload_n C dX1_cut_64 0 rfl ?_
            exact x1_iret C rfl dX1_cut_65 hF
          · refine g_bipush (v := (-6)) C dX1_cut_54 rfl ?_
            exact x1_iret C rfl dX1_cut_56 hF
      · refine g_bipush (v := (-3)) C dX1_cut_29 rfl ?_
        exact x1_iret C rfl dX1_cut_31 hF
    · refine g_bipush (v := (-2)) C dX1_cut_19 rfl ?_
      exact x1_iret C rfl dX1_cut_21 hF
  · refine g_iconst (v := (-1)) C dX1_cut_7 rfl ?_
    exact x1_iret C rfl dX1_cut_8 hF
set_option maxRecDepth 100000 in
set_option maxHeartbeats 4000000 in
theorem kX1_punch (l : Launch) (D : va_G) (h0 : Nat) (E : EX) (x1 : Int32) (x2 : Int32) (x3 : Int32) (σ : SX) (r : Int32) (σ2 : SX) (hF : fX1_punch x1 x2 x3 σ = some (r, σ2)) : MI l D (tysX1 E) yX1_punch cX1_punch 5 (some .int) 5 118 [.ref h0, .int x1, .int x2, .int x3] (wX1 h0 E σ) (wX1 h0 E σ2) r := by
  refine g_enterI (own := RX1) (lv := [(0, .ref h0), (1, .int x1), (2, .int x2), (3, .int x3)]) (by decide +kernel) rfl (Nat.le_of_ble_eq_true rfl) rfl ?_
  intro p e s m args below meth c A C
  rw [fX1_punch] at hF
  refine g_iload_n C dX1_punch_0 1 rfl ?_
  obtain ⟨r1, h1, hF⟩ := bs_some hF
  refine g_callS C (kX1_isFile l D _ _ h1) gS_X1_isFile hn_X1_isFile rfl (Nat.le_of_ble_eq_true rfl) (Nat.le_of_ble_eq_true rfl) rfl (Nat.le_of_ble_eq_true rfl) dX1_punch_1 ?_
  refine g_if_ne (tgt := 9) C dX1_punch_4 rfl (fun hc hF => ?_) (fun hc hF => ?_) hF
  · refine g_iload_n C dX1_punch_9 2 rfl ?_
    refine g_iconst (v := (nI 0)) C dX1_punch_10 rfl ?_
    refine g_bipush (v := (nI 95)) C dX1_punch_11 rfl ?_
    obtain ⟨r2, h2, hF⟩ := bs_some hF
    refine g_callS C (kX1_within l D _ _ _ _ h2) gS_X1_within hn_X1_within rfl (Nat.le_of_ble_eq_true rfl) (Nat.le_of_ble_eq_true rfl) rfl (Nat.le_of_ble_eq_true rfl) dX1_punch_13 ?_
    refine g_if_eq (tgt := 31) C dX1_punch_16 rfl (fun hc hF => ?_) (fun hc hF => ?_) hF
    · refine g_bipush (v := (-2)) C dX1_punch_31 rfl ?_
      exact x1_iret C rfl dX1_punch_33 hF
    · refine g_iload_n C dX1_punch_19 3 rfl ?_
      refine g_iconst (v := (nI 1)) C dX1_punch_20 rfl ?_
      refine g_bipush (v := (nI 96)) C dX1_punch_21 rfl ?_
      refine g_iload_n C dX1_punch_23 2 rfl ?_
      refine g_isub C dX1_punch_24 ?_
      obtain ⟨r3, h3, hF⟩ := bs_some hF
      refine g_callS C (kX1_within l D _ _ _ _ h3) gS_X1_within hn_X1_within rfl (Nat.le_of_ble_eq_true rfl) (Nat.le_of_ble_eq_true rfl) rfl (Nat.le_of_ble_eq_true rfl) dX1_punch_25 ?_
      refine g_if_ne (tgt := 34) C dX1_punch_28 rfl (fun hc hF => ?_) (fun hc hF => ?_) hF
      · refine g_aload_n C dX1_punch_34 0 rfl ?_
        refine x1_get3 C dX1_punch_35 ?_
        refine g_if_eq (tgt := 44) C dX1_punch_38 rfl (fun hc hF => ?_) (fun hc hF => ?_) hF
        · refine g_iload_n C dX1_punch_44 2 rfl ?_
          refine g_iload_n C dX1_punch_45 3 rfl ?_
          refine g_iadd C dX1_punch_46 ?_
          refine g_aload_n C dX1_punch_47 0 rfl ?_
          refine x1_get1 C dX1_punch_48 ?_
          refine g_iload_n C dX1_punch_51 1 rfl ?_
          refine x1_ld1 C dX1_punch_52 (fun hF => ?_) hF
          refine g_icmp_ge (tgt := 62) C dX1_punch_53 rfl (fun hc hF => ?_) (fun hc hF => ?_) hF
          · refine g_aload_n C dX1_punch_62 0 rfl ?_
            refine x1_get1 C dX1_punch_63 ?_
            refine g_iload_n C dX1_punch_66 1 rfl ?_
            refine x1_ld1 C dX1_punch_67 (fun hF => ?_) hF
            refine g_istore (lv2 := [(4, .int (σ.1 1 x1.toNatClampNeg)), (0, .ref h0), (1, .int x1), (2, .int x2), (3, .int x3)]) C dX1_punch_68 (Nat.le_of_ble_eq_true rfl) rfl ?_
            refine g_iload_n C dX1_punch_70 3 rfl ?_
            refine g_iload C dX1_punch_71 0 rfl ?_
            refine g_icmp_lt (tgt := 78) C dX1_punch_73 rfl (fun hc hF => ?_) (fun hc hF => ?_) hF
            · refine g_aload_n C dX1_punch_78 1 rfl ?_
              refine g_iload_n C dX1_punch_79 2 rfl ?_
              refine g_iload_n C dX1_punch_80 3 rfl ?_
              refine g_iload C dX1_punch_81 0 rfl ?_
              obtain ⟨r4, s4, h4, hF⟩ := bd_some hF
              refine g_callV C (kX1_punches l D h0 E _ _ _ _ _ _ h4) gV_X1_punches rfl rfl hn_X1_punches rfl (Nat.le_of_ble_eq_true rfl) (Nat.le_of_ble_eq_true rfl) rfl (Nat.le_of_ble_eq_true rfl) dX1_punch_83 ?_
              refine g_if_eq (tgt := 96) C dX1_punch_86 rfl (fun hc hF => ?_) (fun hc hF => ?_) hF
              · refine g_bipush (v := (-6)) C dX1_punch_96 rfl ?_
                exact x1_iret C rfl dX1_punch_98 hF
              · refine g_aload_n C dX1_punch_89 1 rfl ?_
                refine x1_get9 C dX1_punch_90 ?_
                refine g_goto (tgt := 98) C dX1_punch_93 rfl ?_
                exact x1_iret C rfl dX1_punch_98 hF
            · refine g_iconst (v := (nI 0)) C dX1_punch_76 rfl ?_
              exact x1_iret C rfl dX1_punch_77 hF
          · refine g_iload_n C dX1_punch_56 2 rfl ?_
            refine g_iload_n C dX1_punch_57 3 rfl ?_
            refine g_iadd C dX1_punch_58 ?_
            refine g_goto (tgt := 68) C dX1_punch_59 rfl ?_
            refine g_istore (lv2 := [(4, .int (x2 + x3)), (0, .ref h0), (1, .int x1), (2, .int x2), (3, .int x3)]) C dX1_punch_68 (Nat.le_of_ble_eq_true rfl) rfl ?_
            refine g_iload_n C dX1_punch_70 3 rfl ?_
            refine g_iload C dX1_punch_71 0 rfl ?_
            refine g_icmp_lt (tgt := 78) C dX1_punch_73 rfl (fun hc hF => ?_) (fun hc hF => ?_) hF
            · refine g_aload_n C dX1_punch_78 1 rfl ?_
              refine g_iload_n C dX1_punch_79 2 rfl ?_
              refine g_iload_n C dX1_punch_80 3 rfl ?_
              refine g_iload C dX1_punch_81 0 rfl ?_
              obtain ⟨r5, s5, h5, hF⟩ := bd_some hF
              refine g_callV C (kX1_punches l D h0 E _ _ _ _ _ _ h5) gV_X1_punches rfl rfl hn_X1_punches rfl (Nat.le_of_ble_eq_true rfl) (Nat.le_of_ble_eq_true rfl) rfl (Nat.le_of_ble_eq_true rfl) dX1_punch_83 ?_
              refine g_if_eq (tgt := 96) C dX1_punch_86 rfl (fun hc hF => ?_) (fun hc hF => ?_) hF
              · refine g_bipush (v := (-6)) C dX1_punch_96 rfl ?_
                exact x1_iret C rfl dX1_punch_98 hF
              · refine g_aload_n C dX1_punch_89 1 rfl ?_
                refine x1_get9 C dX1_punch_90 ?_
                refine g_goto (tgt := 98) C dX1_punch_93 rfl ?_
                exact x1_iret C rfl dX1_punch_98 hF
            · refine g_iconst (v := (nI 0)) C dX1_punch_76 rfl ?_
              exact x1_iret C rfl dX1_punch_77 hF
        · refine g_bipush (v := (-3)) C dX1_punch_41 rfl ?_
          exact x1_iret C rfl dX1_punch_43 hF
      · refine g_bipush (v := (-2)) C dX1_punch_31 rfl ?_
        exact x1_iret C rfl dX1_punch_33 hF
  · refine g_iconst (v := (-1)) C dX1_punch_7 rfl ?_
    exact x1_iret C rfl dX1_punch_8 hF
set_option maxRecDepth 100000 in
set_option maxHeartbeats 4000000 in
theorem kX1_isPlace (l : Launch) (D : va_G) (x0 : Int32) (r : Int32) (hF : fX1_isPlace x0 = some r) : MI l D [] yX1_isPlace cX1_isPlace 1 (some .boolean) 1 22 [.int x0] [] [] r := by
  refine g_enterI (own := RX1) (lv := [(0, .int x0)]) (by decide +kernel) rfl (Nat.le_of_ble_eq_true rfl) rfl ?_
  intro p e s m args below meth c A C
  rw [fX1_isPlace] at hF
  refine g_iload_n C dX1_isPlace_0 0 rfl ?_
  refine g_iconst (v := (nI 0)) C dX1_isPlace_1 rfl ?_
  refine g_bipush (v := (nI 23)) C dX1_isPlace_2 rfl ?_
  obtain ⟨r1, h1, hF⟩ := bs_some hF
  refine g_callS C (kX1_within l D _ _ _ _ h1) gS_X1_within hn_X1_within rfl (Nat.le_of_ble_eq_true rfl) (Nat.le_of_ble_eq_true rfl) rfl (Nat.le_of_ble_eq_true rfl) dX1_isPlace_4 ?_
  exact s_zret C rfl (zX1_within h1) dX1_isPlace_7 hF
set_option maxRecDepth 100000 in
set_option maxHeartbeats 4000000 in
theorem wX1_collapse_L58 {p : Program} {l : Launch} {e : Env} {s : State} {m : MethodId} {args : Array Value} {below : List Frame} {meth : Method} {c : Code} {A : Nat → Prop} {D : va_G} {h0 : Nat} {E : EX} {σ2 : SX} {r : Int32} (C : GC p { frames := 2, cells := 0, slots := 0, locals := 42 } s m args meth c A D cX1_collapse 5 0 0 (tysX1 E) RX1 (some .int)) : ∀ (n : Nat) (x1 : Int32) (x3 : Int32) (x4 : Int32) (σ : SX), fX1_collapse_L58 n x1 x3 x4 σ = some (r, σ2) → GW p l e { frames := 2, cells := 0, slots := 0, locals := 42 } s m args below meth c (QI D (wX1 h0 E σ2) r A below args s) A D 5 0 0 (wX1 h0 E σ) 58 [(0, .ref h0), (1, .int x1), (3, .int x3), (4, .int x4)] [] := by
  intro n
  induction n with
  | zero => intro x1 x3 x4 σ hF; simp only [fX1_collapse_L58] at hF; cases hF
  | succ n ih =>
    intro x1 x3 x4 σ hF
    rw [fX1_collapse_L58] at hF
    refine g_iload C dX1_collapse_58 3 rfl ?_
    refine g_bipush (v := (nI 24)) C dX1_collapse_60 rfl ?_
    refine g_icmp_ge (tgt := 111) C dX1_collapse_62 rfl (fun hc hF => ?_) (fun hc hF => ?_) hF
    · refine g_aload_n C dX1_collapse_111 0 rfl ?_
      refine x1_get1 C dX1_collapse_112 ?_
      refine g_iload_n C dX1_collapse_115 1 rfl ?_
      refine g_dup2 C dX1_collapse_116 rfl rfl ?_
      refine x1_ld1 C dX1_collapse_117 (fun hF => ?_) hF
      refine g_iconst (v := (nI 4)) C dX1_collapse_118 rfl ?_
      refine g_iload_n C dX1_collapse_119 2 rfl ?_
      refine g_imul C dX1_collapse_120 ?_
      refine g_isub C dX1_collapse_121 ?_
      refine x1_st1 C dX1_collapse_122 (fun hF => ?_) hF
      refine g_aload_n C dX1_collapse_123 0 rfl ?_
      refine x1_get1 C dX1_collapse_124 ?_
      refine g_iload_n C dX1_collapse_127 1 rfl ?_
      refine x1_ld1 C dX1_collapse_128 (fun hF => ?_) hF
      exact x1_iret C rfl dX1_collapse_129 hF
    · refine g_aload_n C dX1_collapse_65 0 rfl ?_
      refine x1_get2 C dX1_collapse_66 ?_
      refine g_bipush (v := (nI 24)) C dX1_collapse_69 rfl ?_
      refine g_iload_n C dX1_collapse_71 1 rfl ?_
      refine g_imul C dX1_collapse_72 ?_
      refine g_iload C dX1_collapse_73 3 rfl ?_
      refine g_iadd C dX1_collapse_75 ?_
      refine g_iload C dX1_collapse_76 3 rfl ?_
      refine g_iload_n C dX1_collapse_78 2 rfl ?_
      refine g_iadd C dX1_collapse_79 ?_
      refine g_bipush (v := (nI 24)) C dX1_collapse_80 rfl ?_
      refine g_icmp_ge (tgt := 102) C dX1_collapse_82 rfl (fun hc hF => ?_) (fun hc hF => ?_) hF
      · refine g_bipush (v := nN) C dX1_collapse_102 rfl ?_
        refine x1_st2 C dX1_collapse_104 (fun hF => ?_) hF
        refine g_iinc (v := (x4 + nI 1)) (lv2 := [(4, .int (x4 + nI 1)), (0, .ref h0), (1, .int x1), (3, .int x3)]) C dX1_collapse_105 3 rfl rfl (Nat.le_of_ble_eq_true rfl) rfl ?_
        refine g_goto (tgt := 58) C dX1_collapse_108 rfl ?_
        refine g_sub [1, 2, 3, 0] (lv2 := [(0, .ref h0), (1, .int x1), (3, .int x3), (4, .int (x4 + nI 1))]) rfl ?_
        exact ih _ _ _ _ hF
      · refine g_aload_n C dX1_collapse_85 0 rfl ?_
        refine x1_get2 C dX1_collapse_86 ?_
        refine g_bipush (v := (nI 24)) C dX1_collapse_89 rfl ?_
        refine g_iload_n C dX1_collapse_91 1 rfl ?_
        refine g_imul C dX1_collapse_92 ?_
        refine g_iload C dX1_collapse_93 3 rfl ?_
        refine g_iadd C dX1_collapse_95 ?_
        refine g_iload_n C dX1_collapse_96 2 rfl ?_
        refine g_iadd C dX1_collapse_97 ?_
        refine x1_ld2 C dX1_collapse_98 (fun hF => ?_) hF
        refine g_goto (tgt := 104) C dX1_collapse_99 rfl ?_
        refine x1_st2 C dX1_collapse_104 (fun hF => ?_) hF
        refine g_iinc (v := (x4 + nI 1)) (lv2 := [(4, .int (x4 + nI 1)), (0, .ref h0), (1, .int x1), (3, .int x3)]) C dX1_collapse_105 3 rfl rfl (Nat.le_of_ble_eq_true rfl) rfl ?_
        refine g_goto (tgt := 58) C dX1_collapse_108 rfl ?_
        refine g_sub [1, 2, 3, 0] (lv2 := [(0, .ref h0), (1, .int x1), (3, .int x3), (4, .int (x4 + nI 1))]) rfl ?_
        exact ih _ _ _ _ hF
set_option maxRecDepth 100000 in
set_option maxHeartbeats 4000000 in
theorem kX1_collapse (l : Launch) (D : va_G) (h0 : Nat) (E : EX) (x1 : Int32) (x2 : Int32) (x3 : Int32) (σ : SX) (r : Int32) (σ2 : SX) (hF : fX1_collapse x1 x2 x3 σ = some (r, σ2)) : MI l D (tysX1 E) yX1_collapse cX1_collapse 5 (some .int) 2 42 [.ref h0, .int x1, .int x2, .int x3] (wX1 h0 E σ) (wX1 h0 E σ2) r := by
  refine g_enterI (own := RX1) (lv := [(0, .ref h0), (1, .int x1), (2, .int x2), (3, .int x3)]) (by decide +kernel) rfl (Nat.le_of_ble_eq_true rfl) rfl ?_
  intro p e s m args below meth c A C
  rw [fX1_collapse] at hF
  refine g_iload_n C dX1_collapse_0 1 rfl ?_
  obtain ⟨r1, h1, hF⟩ := bs_some hF
  refine g_callS C (kX1_isFile l D _ _ h1) gS_X1_isFile hn_X1_isFile rfl (Nat.le_of_ble_eq_true rfl) (Nat.le_of_ble_eq_true rfl) rfl (Nat.le_of_ble_eq_true rfl) dX1_collapse_1 ?_
  refine g_if_ne (tgt := 9) C dX1_collapse_4 rfl (fun hc hF => ?_) (fun hc hF => ?_) hF
  · refine g_iload_n C dX1_collapse_9 2 rfl ?_
    obtain ⟨r2, h2, hF⟩ := bs_some hF
    refine g_callS C (kX1_isPlace l D _ _ h2) gS_X1_isPlace hn_X1_isPlace rfl (Nat.le_of_ble_eq_true rfl) (Nat.le_of_ble_eq_true rfl) rfl (Nat.le_of_ble_eq_true rfl) dX1_collapse_10 ?_
    refine g_if_eq (tgt := 28) C dX1_collapse_13 rfl (fun hc hF => ?_) (fun hc hF => ?_) hF
    · refine g_bipush (v := (-2)) C dX1_collapse_28 rfl ?_
      exact x1_iret C rfl dX1_collapse_30 hF
    · refine g_iload_n C dX1_collapse_16 3 rfl ?_
      refine g_iconst (v := (nI 1)) C dX1_collapse_17 rfl ?_
      refine g_bipush (v := (nI 24)) C dX1_collapse_18 rfl ?_
      refine g_iload_n C dX1_collapse_20 2 rfl ?_
      refine g_isub C dX1_collapse_21 ?_
      obtain ⟨r3, h3, hF⟩ := bs_some hF
      refine g_callS C (kX1_within l D _ _ _ _ h3) gS_X1_within hn_X1_within rfl (Nat.le_of_ble_eq_true rfl) (Nat.le_of_ble_eq_true rfl) rfl (Nat.le_of_ble_eq_true rfl) dX1_collapse_22 ?_
      refine g_if_ne (tgt := 31) C dX1_collapse_25 rfl (fun hc hF => ?_) (fun hc hF => ?_) hF
      · refine g_aload_n C dX1_collapse_31 0 rfl ?_
        refine x1_get3 C dX1_collapse_32 ?_
        refine g_if_ne (tgt := 52) C dX1_collapse_35 rfl (fun hc hF => ?_) (fun hc hF => ?_) hF
        · refine g_bipush (v := (-3)) C dX1_collapse_52 rfl ?_
          exact x1_iret C rfl dX1_collapse_54 hF
        · refine g_iconst (v := (nI 4)) C dX1_collapse_38 rfl ?_
          refine g_iload_n C dX1_collapse_39 2 rfl ?_
          refine g_iload_n C dX1_collapse_40 3 rfl ?_
          refine g_iadd C dX1_collapse_41 ?_
          refine g_imul C dX1_collapse_42 ?_
          refine g_aload_n C dX1_collapse_43 0 rfl ?_
          refine x1_get1 C dX1_collapse_44 ?_
          refine g_iload_n C dX1_collapse_47 1 rfl ?_
          refine x1_ld1 C dX1_collapse_48 (fun hF => ?_) hF
          refine g_icmp_lt (tgt := 55) C dX1_collapse_49 rfl (fun hc hF => ?_) (fun hc hF => ?_) hF
          · refine g_iload_n C dX1_collapse_55 2 rfl ?_
            refine g_istore (lv2 := [(4, .int x2), (0, .ref h0), (1, .int x1), (2, .int x2), (3, .int x3)]) C dX1_collapse_56 (Nat.le_of_ble_eq_true rfl) rfl ?_
            refine g_sub [1, 2, 4, 0] (lv2 := [(0, .ref h0), (1, .int x1), (3, .int x3), (4, .int x2)]) rfl ?_
            exact wX1_collapse_L58 C FU _ _ _ _ hF
          · refine g_bipush (v := (-3)) C dX1_collapse_52 rfl ?_
            exact x1_iret C rfl dX1_collapse_54 hF
      · refine g_bipush (v := (-2)) C dX1_collapse_28 rfl ?_
        exact x1_iret C rfl dX1_collapse_30 hF
  · refine g_iconst (v := (-1)) C dX1_collapse_7 rfl ?_
    exact x1_iret C rfl dX1_collapse_8 hF
set_option maxRecDepth 100000 in
set_option maxHeartbeats 4000000 in
theorem wX1_insert_L73 {p : Program} {l : Launch} {e : Env} {s : State} {m : MethodId} {args : Array Value} {below : List Frame} {meth : Method} {c : Code} {A : Nat → Prop} {D : va_G} {h0 : Nat} {E : EX} {σ2 : SX} {r : Int32} (C : GC p { frames := 2, cells := 0, slots := 0, locals := 42 } s m args meth c A D cX1_insert 5 0 0 (tysX1 E) RX1 (some .int)) : ∀ (n : Nat) (x1 : Int32) (x2 : Int32) (x3 : Int32) (x4 : Int32) (σ : SX), fX1_insert_L73 n x1 x2 x3 x4 σ = some (r, σ2) → GW p l e { frames := 2, cells := 0, slots := 0, locals := 42 } s m args below meth c (QI D (wX1 h0 E σ2) r A below args s) A D 5 0 0 (wX1 h0 E σ) 73 [(0, .ref h0), (1, .int x1), (2, .int x2), (3, .int x3), (4, .int x4)] [] := by
  intro n
  induction n with
  | zero => intro x1 x2 x3 x4 σ hF; simp only [fX1_insert_L73] at hF; cases hF
  | succ n ih =>
    intro x1 x2 x3 x4 σ hF
    rw [fX1_insert_L73] at hF
    refine g_iload C dX1_insert_73 4 rfl ?_
    refine g_iload_n C dX1_insert_75 2 rfl ?_
    refine g_icmp_lt (tgt := 124) C dX1_insert_76 rfl (fun hc hF => ?_) (fun hc hF => ?_) hF
    · refine g_aload_n C dX1_insert_124 0 rfl ?_
      refine x1_get1 C dX1_insert_125 ?_
      refine g_iload_n C dX1_insert_128 1 rfl ?_
      refine g_dup2 C dX1_insert_129 rfl rfl ?_
      refine x1_ld1 C dX1_insert_130 (fun hF => ?_) hF
      refine g_iconst (v := (nI 4)) C dX1_insert_131 rfl ?_
      refine g_iload_n C dX1_insert_132 3 rfl ?_
      refine g_imul C dX1_insert_133 ?_
      refine g_iadd C dX1_insert_134 ?_
      refine x1_st1 C dX1_insert_135 (fun hF => ?_) hF
      refine g_aload_n C dX1_insert_136 0 rfl ?_
      refine x1_get1 C dX1_insert_137 ?_
      refine g_iload_n C dX1_insert_140 1 rfl ?_
      refine x1_ld1 C dX1_insert_141 (fun hF => ?_) hF
      exact x1_iret C rfl dX1_insert_142 hF
    · refine g_aload_n C dX1_insert_79 0 rfl ?_
      refine x1_get2 C dX1_insert_80 ?_
      refine g_bipush (v := (nI 24)) C dX1_insert_83 rfl ?_
      refine g_iload_n C dX1_insert_85 1 rfl ?_
      refine g_imul C dX1_insert_86 ?_
      refine g_iload C dX1_insert_87 4 rfl ?_
      refine g_iadd C dX1_insert_89 ?_
      refine g_iload C dX1_insert_90 4 rfl ?_
      refine g_iload_n C dX1_insert_92 3 rfl ?_
      refine g_isub C dX1_insert_93 ?_
      refine g_iload_n C dX1_insert_94 2 rfl ?_
      refine g_icmp_lt (tgt := 115) C dX1_insert_95 rfl (fun hc hF => ?_) (fun hc hF => ?_) hF
      · refine g_bipush (v := nN) C dX1_insert_115 rfl ?_
        refine x1_st2 C dX1_insert_117 (fun hF => ?_) hF
        refine g_iinc (v := (x4 - nI 1)) (lv2 := [(4, .int (x4 - nI 1)), (0, .ref h0), (1, .int x1), (2, .int x2), (3, .int x3)]) C dX1_insert_118 4 rfl (iinc_m1 _) (Nat.le_of_ble_eq_true rfl) rfl ?_
        refine g_goto (tgt := 73) C dX1_insert_121 rfl ?_
        refine g_sub [1, 2, 3, 4, 0] (lv2 := [(0, .ref h0), (1, .int x1), (2, .int x2), (3, .int x3), (4, .int (x4 - nI 1))]) rfl ?_
        exact ih _ _ _ _ _ hF
      · refine g_aload_n C dX1_insert_98 0 rfl ?_
        refine x1_get2 C dX1_insert_99 ?_
        refine g_bipush (v := (nI 24)) C dX1_insert_102 rfl ?_
        refine g_iload_n C dX1_insert_104 1 rfl ?_
        refine g_imul C dX1_insert_105 ?_
        refine g_iload C dX1_insert_106 4 rfl ?_
        refine g_iadd C dX1_insert_108 ?_
        refine g_iload_n C dX1_insert_109 3 rfl ?_
        refine g_isub C dX1_insert_110 ?_
        refine x1_ld2 C dX1_insert_111 (fun hF => ?_) hF
        refine g_goto (tgt := 117) C dX1_insert_112 rfl ?_
        refine x1_st2 C dX1_insert_117 (fun hF => ?_) hF
        refine g_iinc (v := (x4 - nI 1)) (lv2 := [(4, .int (x4 - nI 1)), (0, .ref h0), (1, .int x1), (2, .int x2), (3, .int x3)]) C dX1_insert_118 4 rfl (iinc_m1 _) (Nat.le_of_ble_eq_true rfl) rfl ?_
        refine g_goto (tgt := 73) C dX1_insert_121 rfl ?_
        refine g_sub [1, 2, 3, 4, 0] (lv2 := [(0, .ref h0), (1, .int x1), (2, .int x2), (3, .int x3), (4, .int (x4 - nI 1))]) rfl ?_
        exact ih _ _ _ _ _ hF
set_option maxRecDepth 100000 in
set_option maxHeartbeats 4000000 in
theorem kX1_insert (l : Launch) (D : va_G) (h0 : Nat) (E : EX) (x1 : Int32) (x2 : Int32) (x3 : Int32) (σ : SX) (r : Int32) (σ2 : SX) (hF : fX1_insert x1 x2 x3 σ = some (r, σ2)) : MI l D (tysX1 E) yX1_insert cX1_insert 5 (some .int) 2 42 [.ref h0, .int x1, .int x2, .int x3] (wX1 h0 E σ) (wX1 h0 E σ2) r := by
  refine g_enterI (own := RX1) (lv := [(0, .ref h0), (1, .int x1), (2, .int x2), (3, .int x3)]) (by decide +kernel) rfl (Nat.le_of_ble_eq_true rfl) rfl ?_
  intro p e s m args below meth c A C
  rw [fX1_insert] at hF
  refine g_iload_n C dX1_insert_0 1 rfl ?_
  obtain ⟨r1, h1, hF⟩ := bs_some hF
  refine g_callS C (kX1_isFile l D _ _ h1) gS_X1_isFile hn_X1_isFile rfl (Nat.le_of_ble_eq_true rfl) (Nat.le_of_ble_eq_true rfl) rfl (Nat.le_of_ble_eq_true rfl) dX1_insert_1 ?_
  refine g_if_ne (tgt := 9) C dX1_insert_4 rfl (fun hc hF => ?_) (fun hc hF => ?_) hF
  · refine g_iload_n C dX1_insert_9 2 rfl ?_
    obtain ⟨r2, h2, hF⟩ := bs_some hF
    refine g_callS C (kX1_isPlace l D _ _ h2) gS_X1_isPlace hn_X1_isPlace rfl (Nat.le_of_ble_eq_true rfl) (Nat.le_of_ble_eq_true rfl) rfl (Nat.le_of_ble_eq_true rfl) dX1_insert_10 ?_
    refine g_if_eq (tgt := 26) C dX1_insert_13 rfl (fun hc hF => ?_) (fun hc hF => ?_) hF
    · refine g_bipush (v := (-2)) C dX1_insert_26 rfl ?_
      exact x1_iret C rfl dX1_insert_28 hF
    · refine g_iload_n C dX1_insert_16 3 rfl ?_
      refine g_iconst (v := (nI 1)) C dX1_insert_17 rfl ?_
      refine g_bipush (v := (nI 24)) C dX1_insert_18 rfl ?_
      obtain ⟨r3, h3, hF⟩ := bs_some hF
      refine g_callS C (kX1_within l D _ _ _ _ h3) gS_X1_within hn_X1_within rfl (Nat.le_of_ble_eq_true rfl) (Nat.le_of_ble_eq_true rfl) rfl (Nat.le_of_ble_eq_true rfl) dX1_insert_20 ?_
      refine g_if_ne (tgt := 29) C dX1_insert_23 rfl (fun hc hF => ?_) (fun hc hF => ?_) hF
      · refine g_aload_n C dX1_insert_29 0 rfl ?_
        refine x1_get3 C dX1_insert_30 ?_
        refine g_if_ne (tgt := 48) C dX1_insert_33 rfl (fun hc hF => ?_) (fun hc hF => ?_) hF
        · refine g_bipush (v := (-3)) C dX1_insert_48 rfl ?_
          exact x1_iret C rfl dX1_insert_50 hF
        · refine g_iconst (v := (nI 4)) C dX1_insert_36 rfl ?_
          refine g_iload_n C dX1_insert_37 2 rfl ?_
          refine g_imul C dX1_insert_38 ?_
          refine g_aload_n C dX1_insert_39 0 rfl ?_
          refine x1_get1 C dX1_insert_40 ?_
          refine g_iload_n C dX1_insert_43 1 rfl ?_
          refine x1_ld1 C dX1_insert_44 (fun hF => ?_) hF
          refine g_icmp_lt (tgt := 51) C dX1_insert_45 rfl (fun hc hF => ?_) (fun hc hF => ?_) hF
          · refine g_aload_n C dX1_insert_51 0 rfl ?_
            refine x1_get1 C dX1_insert_52 ?_
            refine g_iload_n C dX1_insert_55 1 rfl ?_
            refine x1_ld1 C dX1_insert_56 (fun hF => ?_) hF
            refine g_iconst (v := (nI 4)) C dX1_insert_57 rfl ?_
            refine g_iload_n C dX1_insert_58 3 rfl ?_
            refine g_imul C dX1_insert_59 ?_
            refine g_iadd C dX1_insert_60 ?_
            refine g_bipush (v := (nI 96)) C dX1_insert_61 rfl ?_
            refine g_icmp_le (tgt := 69) C dX1_insert_63 rfl (fun hc hF => ?_) (fun hc hF => ?_) hF
            · refine g_bipush (v := (nI 23)) C dX1_insert_69 rfl ?_
              refine g_istore (lv2 := [(4, .int (nI 23)), (0, .ref h0), (1, .int x1), (2, .int x2), (3, .int x3)]) C dX1_insert_71 (Nat.le_of_ble_eq_true rfl) rfl ?_
              refine g_sub [1, 2, 3, 4, 0] (lv2 := [(0, .ref h0), (1, .int x1), (2, .int x2), (3, .int x3), (4, .int (nI 23))]) rfl ?_
              exact wX1_insert_L73 C FU _ _ _ _ _ hF
            · refine g_bipush (v := (-4)) C dX1_insert_66 rfl ?_
              exact x1_iret C rfl dX1_insert_68 hF
          · refine g_bipush (v := (-3)) C dX1_insert_48 rfl ?_
            exact x1_iret C rfl dX1_insert_50 hF
      · refine g_bipush (v := (-2)) C dX1_insert_26 rfl ?_
        exact x1_iret C rfl dX1_insert_28 hF
  · refine g_iconst (v := (-1)) C dX1_insert_7 rfl ?_
    exact x1_iret C rfl dX1_insert_8 hF
set_option maxRecDepth 100000 in
set_option maxHeartbeats 4000000 in
theorem kX1_areRanges (l : Launch) (D : va_G) (x0 : Int32) (x1 : Int32) (x2 : Int32) (r : Int32) (hF : fX1_areRanges x0 x1 x2 = some r) : MI l D [] yX1_areRanges cX1_areRanges 3 (some .boolean) 2 42 [.int x0, .int x1, .int x2] [] [] r := by
  refine g_enterI (own := RX1) (lv := [(0, .int x0), (1, .int x1), (2, .int x2)]) (by decide +kernel) rfl (Nat.le_of_ble_eq_true rfl) rfl ?_
  intro p e s m args below meth c A C
  rw [fX1_areRanges] at hF
  refine g_iload_n C dX1_areRanges_0 0 rfl ?_
  obtain ⟨r1, h1, hF⟩ := bs_some hF
  refine g_callS C (kX1_isPlace l D _ _ h1) gS_X1_isPlace hn_X1_isPlace rfl (Nat.le_of_ble_eq_true rfl) (Nat.le_of_ble_eq_true rfl) rfl (Nat.le_of_ble_eq_true rfl) dX1_areRanges_1 ?_
  refine g_if_eq (tgt := 39) C dX1_areRanges_4 rfl (fun hc hF => ?_) (fun hc hF => ?_) hF
  · refine g_iconst (v := (nI 0)) C dX1_areRanges_39 rfl ?_
    exact s_zret C rfl rfl dX1_areRanges_40 hF
  · refine g_iload_n C dX1_areRanges_7 1 rfl ?_
    obtain ⟨r2, h2, hF⟩ := bs_some hF
    refine g_callS C (kX1_isPlace l D _ _ h2) gS_X1_isPlace hn_X1_isPlace rfl (Nat.le_of_ble_eq_true rfl) (Nat.le_of_ble_eq_true rfl) rfl (Nat.le_of_ble_eq_true rfl) dX1_areRanges_8 ?_
    refine g_if_eq (tgt := 39) C dX1_areRanges_11 rfl (fun hc hF => ?_) (fun hc hF => ?_) hF
    · refine g_iconst (v := (nI 0)) C dX1_areRanges_39 rfl ?_
      exact s_zret C rfl rfl dX1_areRanges_40 hF
    · refine g_iload_n C dX1_areRanges_14 2 rfl ?_
      refine g_iconst (v := (nI 1)) C dX1_areRanges_15 rfl ?_
      refine g_bipush (v := (nI 24)) C dX1_areRanges_16 rfl ?_
      refine g_iload_n C dX1_areRanges_18 0 rfl ?_
      refine g_iload_n C dX1_areRanges_19 1 rfl ?_
      refine g_icmp_le (tgt := 27) C dX1_areRanges_20 rfl (fun hc hF => ?_) (fun hc hF => ?_) hF
      · refine g_iload_n C dX1_areRanges_27 1 rfl ?_
        refine g_isub C dX1_areRanges_28 ?_
        obtain ⟨r3, h3, hF⟩ := bs_some hF
        refine g_callS C (kX1_within l D _ _ _ _ h3) gS_X1_within hn_X1_within rfl (Nat.le_of_ble_eq_true rfl) (Nat.le_of_ble_eq_true rfl) rfl (Nat.le_of_ble_eq_true rfl) dX1_areRanges_29 ?_
        refine g_if_eq (tgt := 39) C dX1_areRanges_32 rfl (fun hc hF => ?_) (fun hc hF => ?_) hF
        · refine g_iconst (v := (nI 0)) C dX1_areRanges_39 rfl ?_
          exact s_zret C rfl rfl dX1_areRanges_40 hF
        · refine g_iconst (v := (nI 1)) C dX1_areRanges_35 rfl ?_
          refine g_goto (tgt := 40) C dX1_areRanges_36 rfl ?_
          exact s_zret C rfl rfl dX1_areRanges_40 hF
      · refine g_iload_n C dX1_areRanges_23 0 rfl ?_
        refine g_goto (tgt := 28) C dX1_areRanges_24 rfl ?_
        refine g_isub C dX1_areRanges_28 ?_
        obtain ⟨r4, h4, hF⟩ := bs_some hF
        refine g_callS C (kX1_within l D _ _ _ _ h4) gS_X1_within hn_X1_within rfl (Nat.le_of_ble_eq_true rfl) (Nat.le_of_ble_eq_true rfl) rfl (Nat.le_of_ble_eq_true rfl) dX1_areRanges_29 ?_
        refine g_if_eq (tgt := 39) C dX1_areRanges_32 rfl (fun hc hF => ?_) (fun hc hF => ?_) hF
        · refine g_iconst (v := (nI 0)) C dX1_areRanges_39 rfl ?_
          exact s_zret C rfl rfl dX1_areRanges_40 hF
        · refine g_iconst (v := (nI 1)) C dX1_areRanges_35 rfl ?_
          refine g_goto (tgt := 40) C dX1_areRanges_36 rfl ?_
          exact s_zret C rfl rfl dX1_areRanges_40 hF
set_option maxRecDepth 100000 in
set_option maxHeartbeats 4000000 in
theorem kX1_doMeet (l : Launch) (D : va_G) (x0 : Int32) (x1 : Int32) (x2 : Int32) (x3 : Int32) (x4 : Int32) (r : Int32) (hF : fX1_doMeet x0 x1 x2 x3 x4 = some r) : MI l D [] yX1_doMeet cX1_doMeet 5 (some .boolean) 0 0 [.int x0, .int x1, .int x2, .int x3, .int x4] [] [] r := by
  refine g_enterI (own := RX1) (lv := [(0, .int x0), (1, .int x1), (2, .int x2), (3, .int x3), (4, .int x4)]) (by decide +kernel) rfl (Nat.le_of_ble_eq_true rfl) rfl ?_
  intro p e s m args below meth c A C
  rw [fX1_doMeet] at hF
  refine g_iload_n C dX1_doMeet_0 0 rfl ?_
  refine g_iload_n C dX1_doMeet_1 2 rfl ?_
  refine g_icmp_ne (tgt := 25) C dX1_doMeet_2 rfl (fun hc hF => ?_) (fun hc hF => ?_) hF
  · refine g_iconst (v := (nI 0)) C dX1_doMeet_25 rfl ?_
    exact s_zret C rfl rfl dX1_doMeet_26 hF
  · refine g_iload_n C dX1_doMeet_5 1 rfl ?_
    refine g_iload_n C dX1_doMeet_6 3 rfl ?_
    refine g_iload C dX1_doMeet_7 4 rfl ?_
    refine g_iadd C dX1_doMeet_9 ?_
    refine g_icmp_ge (tgt := 25) C dX1_doMeet_10 rfl (fun hc hF => ?_) (fun hc hF => ?_) hF
    · refine g_iconst (v := (nI 0)) C dX1_doMeet_25 rfl ?_
      exact s_zret C rfl rfl dX1_doMeet_26 hF
    · refine g_iload_n C dX1_doMeet_13 3 rfl ?_
      refine g_iload_n C dX1_doMeet_14 1 rfl ?_
      refine g_iload C dX1_doMeet_15 4 rfl ?_
      refine g_iadd C dX1_doMeet_17 ?_
      refine g_icmp_ge (tgt := 25) C dX1_doMeet_18 rfl (fun hc hF => ?_) (fun hc hF => ?_) hF
      · refine g_iconst (v := (nI 0)) C dX1_doMeet_25 rfl ?_
        exact s_zret C rfl rfl dX1_doMeet_26 hF
      · refine g_iconst (v := (nI 1)) C dX1_doMeet_21 rfl ?_
        refine g_goto (tgt := 26) C dX1_doMeet_22 rfl ?_
        exact s_zret C rfl rfl dX1_doMeet_26 hF
set_option maxRecDepth 100000 in
set_option maxHeartbeats 4000000 in
theorem wX1_share_L71 {p : Program} {l : Launch} {e : Env} {s : State} {m : MethodId} {args : Array Value} {below : List Frame} {meth : Method} {c : Code} {A : Nat → Prop} {D : va_G} {h0 : Nat} {E : EX} {σ2 : SX} {r : Int32} (C : GC p { frames := 3, cells := 0, slots := 0, locals := 64 } s m args meth c A D cX1_share 7 0 0 (tysX1 E) RX1 (some .int)) : ∀ (n : Nat) (x1 : Int32) (x2 : Int32) (x3 : Int32) (x4 : Int32) (x5 : Int32) (x6 : Int32) (σ : SX), fX1_share_L71 n x1 x2 x3 x4 x5 x6 σ = some (r, σ2) → GW p l e { frames := 3, cells := 0, slots := 0, locals := 64 } s m args below meth c (QI D (wX1 h0 E σ2) r A below args s) A D 7 0 0 (wX1 h0 E σ) 71 [(0, .ref h0), (1, .int x1), (2, .int x2), (3, .int x3), (4, .int x4), (5, .int x5), (6, .int x6)] [] := by
  intro n
  induction n with
  | zero => intro x1 x2 x3 x4 x5 x6 σ hF; simp only [fX1_share_L71] at hF; cases hF
  | succ n ih =>
    intro x1 x2 x3 x4 x5 x6 σ hF
    rw [fX1_share_L71] at hF
    refine g_iload C dX1_share_71 6 rfl ?_
    refine g_iload C dX1_share_73 5 rfl ?_
    refine g_icmp_ge (tgt := 113) C dX1_share_75 rfl (fun hc hF => ?_) (fun hc hF => ?_) hF
    · refine g_aload_n C dX1_share_113 0 rfl ?_
      refine x1_get1 C dX1_share_114 ?_
      refine g_iload_n C dX1_share_117 3 rfl ?_
      refine g_iconst (v := (nI 4)) C dX1_share_118 rfl ?_
      refine g_iload C dX1_share_119 4 rfl ?_
      refine g_iload C dX1_share_121 5 rfl ?_
      refine g_iadd C dX1_share_123 ?_
      refine g_imul C dX1_share_124 ?_
      refine g_aload_n C dX1_share_125 0 rfl ?_
      refine x1_get1 C dX1_share_126 ?_
      refine g_iload_n C dX1_share_129 3 rfl ?_
      refine x1_ld1 C dX1_share_130 (fun hF => ?_) hF
      refine g_icmp_le (tgt := 144) C dX1_share_131 rfl (fun hc hF => ?_) (fun hc hF => ?_) hF
      · refine g_aload_n C dX1_share_144 0 rfl ?_
        refine x1_get1 C dX1_share_145 ?_
        refine g_iload_n C dX1_share_148 3 rfl ?_
        refine x1_ld1 C dX1_share_149 (fun hF => ?_) hF
        refine x1_st1 C dX1_share_150 (fun hF => ?_) hF
        refine g_aload_n C dX1_share_151 0 rfl ?_
        refine x1_get1 C dX1_share_152 ?_
        refine g_iload_n C dX1_share_155 3 rfl ?_
        refine x1_ld1 C dX1_share_156 (fun hF => ?_) hF
        exact x1_iret C rfl dX1_share_157 hF
      · refine g_iconst (v := (nI 4)) C dX1_share_134 rfl ?_
        refine g_iload C dX1_share_135 4 rfl ?_
        refine g_iload C dX1_share_137 5 rfl ?_
        refine g_iadd C dX1_share_139 ?_
        refine g_imul C dX1_share_140 ?_
        refine g_goto (tgt := 150) C dX1_share_141 rfl ?_
        refine x1_st1 C dX1_share_150 (fun hF => ?_) hF
        refine g_aload_n C dX1_share_151 0 rfl ?_
        refine x1_get1 C dX1_share_152 ?_
        refine g_iload_n C dX1_share_155 3 rfl ?_
        refine x1_ld1 C dX1_share_156 (fun hF => ?_) hF
        exact x1_iret C rfl dX1_share_157 hF
    · refine g_aload_n C dX1_share_78 0 rfl ?_
      refine x1_get2 C dX1_share_79 ?_
      refine g_bipush (v := (nI 24)) C dX1_share_82 rfl ?_
      refine g_iload_n C dX1_share_84 3 rfl ?_
      refine g_imul C dX1_share_85 ?_
      refine g_iload C dX1_share_86 4 rfl ?_
      refine g_iadd C dX1_share_88 ?_
      refine g_iload C dX1_share_89 6 rfl ?_
      refine g_iadd C dX1_share_91 ?_
      refine g_aload_n C dX1_share_92 0 rfl ?_
      refine x1_get2 C dX1_share_93 ?_
      refine g_bipush (v := (nI 24)) C dX1_share_96 rfl ?_
      refine g_iload_n C dX1_share_98 1 rfl ?_
      refine g_imul C dX1_share_99 ?_
      refine g_iload_n C dX1_share_100 2 rfl ?_
      refine g_iadd C dX1_share_101 ?_
      refine g_iload C dX1_share_102 6 rfl ?_
      refine g_iadd C dX1_share_104 ?_
      refine x1_ld2 C dX1_share_105 (fun hF => ?_) hF
      refine x1_st2 C dX1_share_106 (fun hF => ?_) hF
      refine g_iinc (v := (x6 + nI 1)) (lv2 := [(6, .int (x6 + nI 1)), (0, .ref h0), (1, .int x1), (2, .int x2), (3, .int x3), (4, .int x4), (5, .int x5)]) C dX1_share_107 6 rfl rfl (Nat.le_of_ble_eq_true rfl) rfl ?_
      refine g_goto (tgt := 71) C dX1_share_110 rfl ?_
      refine g_sub [1, 2, 3, 4, 5, 6, 0] (lv2 := [(0, .ref h0), (1, .int x1), (2, .int x2), (3, .int x3), (4, .int x4), (5, .int x5), (6, .int (x6 + nI 1))]) rfl ?_
      exact ih _ _ _ _ _ _ _ hF
set_option maxRecDepth 100000 in
set_option maxHeartbeats 4000000 in
theorem kX1_share (l : Launch) (D : va_G) (h0 : Nat) (E : EX) (x1 : Int32) (x2 : Int32) (x3 : Int32) (x4 : Int32) (x5 : Int32) (σ : SX) (r : Int32) (σ2 : SX) (hF : fX1_share x1 x2 x3 x4 x5 σ = some (r, σ2)) : MI l D (tysX1 E) yX1_share cX1_share 7 (some .int) 3 64 [.ref h0, .int x1, .int x2, .int x3, .int x4, .int x5] (wX1 h0 E σ) (wX1 h0 E σ2) r := by
  refine g_enterI (own := RX1) (lv := [(0, .ref h0), (1, .int x1), (2, .int x2), (3, .int x3), (4, .int x4), (5, .int x5)]) (by decide +kernel) rfl (Nat.le_of_ble_eq_true rfl) rfl ?_
  intro p e s m args below meth c A C
  rw [fX1_share] at hF
  refine g_iload_n C dX1_share_0 1 rfl ?_
  obtain ⟨r1, h1, hF⟩ := bs_some hF
  refine g_callS C (kX1_isFile l D _ _ h1) gS_X1_isFile hn_X1_isFile rfl (Nat.le_of_ble_eq_true rfl) (Nat.le_of_ble_eq_true rfl) rfl (Nat.le_of_ble_eq_true rfl) dX1_share_1 ?_
  refine g_if_eq (tgt := 14) C dX1_share_4 rfl (fun hc hF => ?_) (fun hc hF => ?_) hF
  · refine g_iconst (v := (-1)) C dX1_share_14 rfl ?_
    exact x1_iret C rfl dX1_share_15 hF
  · refine g_iload_n C dX1_share_7 3 rfl ?_
    obtain ⟨r2, h2, hF⟩ := bs_some hF
    refine g_callS C (kX1_isFile l D _ _ h2) gS_X1_isFile hn_X1_isFile rfl (Nat.le_of_ble_eq_true rfl) (Nat.le_of_ble_eq_true rfl) rfl (Nat.le_of_ble_eq_true rfl) dX1_share_8 ?_
    refine g_if_ne (tgt := 16) C dX1_share_11 rfl (fun hc hF => ?_) (fun hc hF => ?_) hF
    · refine g_iload_n C dX1_share_16 2 rfl ?_
      refine g_iload C dX1_share_17 4 rfl ?_
      refine g_iload C dX1_share_19 5 rfl ?_
      obtain ⟨r3, h3, hF⟩ := bs_some hF
      refine g_callS C (kX1_areRanges l D _ _ _ _ h3) gS_X1_areRanges hn_X1_areRanges rfl (Nat.le_of_ble_eq_true rfl) (Nat.le_of_ble_eq_true rfl) rfl (Nat.le_of_ble_eq_true rfl) dX1_share_21 ?_
      refine g_if_ne (tgt := 30) C dX1_share_24 rfl (fun hc hF => ?_) (fun hc hF => ?_) hF
      · refine g_aload_n C dX1_share_30 0 rfl ?_
        refine x1_get3 C dX1_share_31 ?_
        refine g_if_ne (tgt := 65) C dX1_share_34 rfl (fun hc hF => ?_) (fun hc hF => ?_) hF
        · refine g_bipush (v := (-3)) C dX1_share_65 rfl ?_
          exact x1_iret C rfl dX1_share_67 hF
        · refine g_iconst (v := (nI 4)) C dX1_share_37 rfl ?_
          refine g_iload_n C dX1_share_38 2 rfl ?_
          refine g_iload C dX1_share_39 5 rfl ?_
          refine g_iadd C dX1_share_41 ?_
          refine g_imul C dX1_share_42 ?_
          refine g_aload_n C dX1_share_43 0 rfl ?_
          refine x1_get1 C dX1_share_44 ?_
          refine g_iload_n C dX1_share_47 1 rfl ?_
          refine x1_ld1 C dX1_share_48 (fun hF => ?_) hF
          refine g_icmp_gt (tgt := 65) C dX1_share_49 rfl (fun hc hF => ?_) (fun hc hF => ?_) hF
          · refine g_bipush (v := (-3)) C dX1_share_65 rfl ?_
            exact x1_iret C rfl dX1_share_67 hF
          · refine g_iload_n C dX1_share_52 1 rfl ?_
            refine g_iload_n C dX1_share_53 2 rfl ?_
            refine g_iload_n C dX1_share_54 3 rfl ?_
            refine g_iload C dX1_share_55 4 rfl ?_
            refine g_iload C dX1_share_57 5 rfl ?_
            obtain ⟨r4, h4, hF⟩ := bs_some hF
            refine g_callS C (kX1_doMeet l D _ _ _ _ _ _ h4) gS_X1_doMeet hn_X1_doMeet rfl (Nat.le_of_ble_eq_true rfl) (Nat.le_of_ble_eq_true rfl) rfl (Nat.le_of_ble_eq_true rfl) dX1_share_59 ?_
            refine g_if_eq (tgt := 68) C dX1_share_62 rfl (fun hc hF => ?_) (fun hc hF => ?_) hF
            · refine g_iconst (v := (nI 0)) C dX1_share_68 rfl ?_
              refine g_istore (lv2 := [(6, .int (nI 0)), (0, .ref h0), (1, .int x1), (2, .int x2), (3, .int x3), (4, .int x4), (5, .int x5)]) C dX1_share_69 (Nat.le_of_ble_eq_true rfl) rfl ?_
              refine g_sub [1, 2, 3, 4, 5, 6, 0] (lv2 := [(0, .ref h0), (1, .int x1), (2, .int x2), (3, .int x3), (4, .int x4), (5, .int x5), (6, .int (nI 0))]) rfl ?_
              exact wX1_share_L71 C FU _ _ _ _ _ _ _ hF
            · refine g_bipush (v := (-3)) C dX1_share_65 rfl ?_
              exact x1_iret C rfl dX1_share_67 hF
      · refine g_bipush (v := (-2)) C dX1_share_27 rfl ?_
        exact x1_iret C rfl dX1_share_29 hF
    · refine g_iconst (v := (-1)) C dX1_share_14 rfl ?_
      exact x1_iret C rfl dX1_share_15 hF
set_option maxRecDepth 100000 in
set_option maxHeartbeats 4000000 in
theorem wX1_unshare_L49 {p : Program} {l : Launch} {e : Env} {s : State} {m : MethodId} {args : Array Value} {below : List Frame} {meth : Method} {c : Code} {A : Nat → Prop} {D : va_G} {h0 : Nat} {E : EX} {σ2 : SX} {r : Int32} (C : GC p { frames := 4, cells := 0, slots := 0, locals := 94 } s m args meth c A D cX1_unshare 5 0 0 (tysX1 E) RX1 (some .int)) : ∀ (n : Nat) (x1 : Int32) (x2 : Int32) (x3 : Int32) (x4 : Int32) (σ : SX), fX1_unshare_L49 n x1 x2 x3 x4 σ = some (r, σ2) → GW p l e { frames := 4, cells := 0, slots := 0, locals := 94 } s m args below meth c (QI D (wX1 h0 E σ2) r A below args s) A D 5 0 0 (wX1 h0 E σ) 49 [(0, .ref h0), (1, .int x1), (2, .int x2), (3, .int x3), (4, .int x4)] [] := by
  intro n
  induction n with
  | zero => intro x1 x2 x3 x4 σ hF; simp only [fX1_unshare_L49] at hF; cases hF
  | succ n ih =>
    intro x1 x2 x3 x4 σ hF
    rw [fX1_unshare_L49] at hF
    refine g_iload C dX1_unshare_49 4 rfl ?_
    refine g_iload_n C dX1_unshare_51 2 rfl ?_
    refine g_iload_n C dX1_unshare_52 3 rfl ?_
    refine g_iadd C dX1_unshare_53 ?_
    refine g_icmp_ge (tgt := 71) C dX1_unshare_54 rfl (fun hc hF => ?_) (fun hc hF => ?_) hF
    · refine g_aload_n C dX1_unshare_71 0 rfl ?_
      refine g_iload_n C dX1_unshare_72 1 rfl ?_
      obtain ⟨r1, s1, h1, hF⟩ := bd_some hF
      refine g_callV C (kX1_owns l D h0 E _ _ _ _ h1) gV_X1_owns rfl rfl hn_X1_owns rfl (Nat.le_of_ble_eq_true rfl) (Nat.le_of_ble_eq_true rfl) rfl (Nat.le_of_ble_eq_true rfl) dX1_unshare_73 ?_
      refine g_if_eq (tgt := 86) C dX1_unshare_76 rfl (fun hc hF => ?_) (fun hc hF => ?_) hF
      · refine g_bipush (v := (-6)) C dX1_unshare_86 rfl ?_
        exact x1_iret C rfl dX1_unshare_88 hF
      · refine g_aload_n C dX1_unshare_79 0 rfl ?_
        refine x1_get7 C dX1_unshare_80 ?_
        refine g_goto (tgt := 88) C dX1_unshare_83 rfl ?_
        exact x1_iret C rfl dX1_unshare_88 hF
    · refine g_aload_n C dX1_unshare_57 0 rfl ?_
      refine g_iload_n C dX1_unshare_58 1 rfl ?_
      refine g_iload C dX1_unshare_59 4 rfl ?_
      refine g_iconst (v := (nI 0)) C dX1_unshare_61 rfl ?_
      obtain ⟨r2, s2, h2, hF⟩ := bd_some hF
      refine g_callVv C (kX1_wants l D h0 E _ _ _ _ _ _ h2) gV_X1_wants rfl rfl hn_X1_wants rfl (Nat.le_of_ble_eq_true rfl) (Nat.le_of_ble_eq_true rfl) rfl (Nat.le_of_ble_eq_true rfl) dX1_unshare_62 ?_
      refine g_iinc (v := (x4 + nI 1)) (lv2 := [(4, .int (x4 + nI 1)), (0, .ref h0), (1, .int x1), (2, .int x2), (3, .int x3)]) C dX1_unshare_65 4 rfl rfl (Nat.le_of_ble_eq_true rfl) rfl ?_
      refine g_goto (tgt := 49) C dX1_unshare_68 rfl ?_
      refine g_sub [1, 2, 3, 4, 0] (lv2 := [(0, .ref h0), (1, .int x1), (2, .int x2), (3, .int x3), (4, .int (x4 + nI 1))]) rfl ?_
      exact ih _ _ _ _ _ hF
set_option maxRecDepth 100000 in
set_option maxHeartbeats 4000000 in
theorem kX1_unshare (l : Launch) (D : va_G) (h0 : Nat) (E : EX) (x1 : Int32) (x2 : Int32) (x3 : Int32) (σ : SX) (r : Int32) (σ2 : SX) (hF : fX1_unshare x1 x2 x3 σ = some (r, σ2)) : MI l D (tysX1 E) yX1_unshare cX1_unshare 5 (some .int) 4 94 [.ref h0, .int x1, .int x2, .int x3] (wX1 h0 E σ) (wX1 h0 E σ2) r := by
  refine g_enterI (own := RX1) (lv := [(0, .ref h0), (1, .int x1), (2, .int x2), (3, .int x3)]) (by decide +kernel) rfl (Nat.le_of_ble_eq_true rfl) rfl ?_
  intro p e s m args below meth c A C
  rw [fX1_unshare] at hF
  refine g_iload_n C dX1_unshare_0 1 rfl ?_
  obtain ⟨r1, h1, hF⟩ := bs_some hF
  refine g_callS C (kX1_isFile l D _ _ h1) gS_X1_isFile hn_X1_isFile rfl (Nat.le_of_ble_eq_true rfl) (Nat.le_of_ble_eq_true rfl) rfl (Nat.le_of_ble_eq_true rfl) dX1_unshare_1 ?_
  refine g_if_ne (tgt := 9) C dX1_unshare_4 rfl (fun hc hF => ?_) (fun hc hF => ?_) hF
  · refine g_iload_n C dX1_unshare_9 2 rfl ?_
    obtain ⟨r2, h2, hF⟩ := bs_some hF
    refine g_callS C (kX1_isPlace l D _ _ h2) gS_X1_isPlace hn_X1_isPlace rfl (Nat.le_of_ble_eq_true rfl) (Nat.le_of_ble_eq_true rfl) rfl (Nat.le_of_ble_eq_true rfl) dX1_unshare_10 ?_
    refine g_if_eq (tgt := 28) C dX1_unshare_13 rfl (fun hc hF => ?_) (fun hc hF => ?_) hF
    · refine g_bipush (v := (-2)) C dX1_unshare_28 rfl ?_
      exact x1_iret C rfl dX1_unshare_30 hF
    · refine g_iload_n C dX1_unshare_16 3 rfl ?_
      refine g_iconst (v := (nI 1)) C dX1_unshare_17 rfl ?_
      refine g_bipush (v := (nI 24)) C dX1_unshare_18 rfl ?_
      refine g_iload_n C dX1_unshare_20 2 rfl ?_
      refine g_isub C dX1_unshare_21 ?_
      obtain ⟨r3, h3, hF⟩ := bs_some hF
      refine g_callS C (kX1_within l D _ _ _ _ h3) gS_X1_within hn_X1_within rfl (Nat.le_of_ble_eq_true rfl) (Nat.le_of_ble_eq_true rfl) rfl (Nat.le_of_ble_eq_true rfl) dX1_unshare_22 ?_
      refine g_if_ne (tgt := 31) C dX1_unshare_25 rfl (fun hc hF => ?_) (fun hc hF => ?_) hF
      · refine g_aload_n C dX1_unshare_31 0 rfl ?_
        refine x1_get3 C dX1_unshare_32 ?_
        refine g_if_eq (tgt := 41) C dX1_unshare_35 rfl (fun hc hF => ?_) (fun hc hF => ?_) hF
        · refine g_aload_n C dX1_unshare_41 0 rfl ?_
          refine g_iconst (v := (nI 0)) C dX1_unshare_42 rfl ?_
          refine x1_put7 C dX1_unshare_43 ?_
          refine g_iload_n C dX1_unshare_46 2 rfl ?_
          refine g_istore (lv2 := [(4, .int x2), (0, .ref h0), (1, .int x1), (2, .int x2), (3, .int x3)]) C dX1_unshare_47 (Nat.le_of_ble_eq_true rfl) rfl ?_
          refine g_sub [1, 2, 3, 4, 0] (lv2 := [(0, .ref h0), (1, .int x1), (2, .int x2), (3, .int x3), (4, .int x2)]) rfl ?_
          exact wX1_unshare_L49 C FU _ _ _ _ _ hF
        · refine g_bipush (v := (-3)) C dX1_unshare_38 rfl ?_
          exact x1_iret C rfl dX1_unshare_40 hF
      · refine g_bipush (v := (-2)) C dX1_unshare_28 rfl ?_
        exact x1_iret C rfl dX1_unshare_30 hF
  · refine g_iconst (v := (-1)) C dX1_unshare_7 rfl ?_
    exact x1_iret C rfl dX1_unshare_8 hF
set_option maxRecDepth 100000 in
set_option maxHeartbeats 4000000 in
theorem kX1_failure (l : Launch) (D : va_G) (h0 : Nat) (E : EX) (x1 : Int32) (σ : SX) (r : Int32) (σ2 : SX) (hF : fX1_failure x1 σ = some (r, σ2)) : MI l D (tysX1 E) yX1_failure cX1_failure 3 (some .int) 2 42 [.ref h0, .int x1] (wX1 h0 E σ) (wX1 h0 E σ2) r := by
  refine g_enterI (own := RX1) (lv := [(0, .ref h0), (1, .int x1)]) (by decide +kernel) rfl (Nat.le_of_ble_eq_true rfl) rfl ?_
  intro p e s m args below meth c A C
  rw [fX1_failure] at hF
  refine g_iload_n C dX1_failure_0 1 rfl ?_
  refine g_bipush (v := nN) C dX1_failure_1 rfl ?_
  refine g_icmp_eq (tgt := 16) C dX1_failure_3 rfl (fun hc hF => ?_) (fun hc hF => ?_) hF
  · refine g_aload_n C dX1_failure_16 0 rfl ?_
    refine x1_get3 C dX1_failure_17 ?_
    refine g_if_eq (tgt := 26) C dX1_failure_20 rfl (fun hc hF => ?_) (fun hc hF => ?_) hF
    · refine g_aload_n C dX1_failure_26 0 rfl ?_
      refine x1_get10 C dX1_failure_27 ?_
      refine g_istore_n (lv2 := [(2, .int (σ.2 10)), (0, .ref h0), (1, .int x1)]) C dX1_failure_30 (Nat.le_of_ble_eq_true rfl) rfl ?_
      refine g_aload_n C dX1_failure_31 1 rfl ?_
      refine g_iload_n C dX1_failure_32 2 rfl ?_
      refine x1_put10 C dX1_failure_33 ?_
      refine g_iload_n C dX1_failure_36 0 rfl ?_
      exact x1_iret C rfl dX1_failure_37 hF
    · refine g_bipush (v := (-3)) C dX1_failure_23 rfl ?_
      exact x1_iret C rfl dX1_failure_25 hF
  · refine g_iload_n C dX1_failure_6 1 rfl ?_
    obtain ⟨r1, h1, hF⟩ := bs_some hF
    refine g_callS C (kX1_isPlace l D _ _ h1) gS_X1_isPlace hn_X1_isPlace rfl (Nat.le_of_ble_eq_true rfl) (Nat.le_of_ble_eq_true rfl) rfl (Nat.le_of_ble_eq_true rfl) dX1_failure_7 ?_
    refine g_if_ne (tgt := 16) C dX1_failure_10 rfl (fun hc hF => ?_) (fun hc hF => ?_) hF
    · refine g_aload_n C dX1_failure_16 0 rfl ?_
      refine x1_get3 C dX1_failure_17 ?_
      refine g_if_eq (tgt := 26) C dX1_failure_20 rfl (fun hc hF => ?_) (fun hc hF => ?_) hF
      · refine g_aload_n C dX1_failure_26 0 rfl ?_
        refine x1_get10 C dX1_failure_27 ?_
        refine g_istore_n (lv2 := [(2, .int (σ.2 10)), (0, .ref h0), (1, .int x1)]) C dX1_failure_30 (Nat.le_of_ble_eq_true rfl) rfl ?_
        refine g_aload_n C dX1_failure_31 1 rfl ?_
        refine g_iload_n C dX1_failure_32 2 rfl ?_
        refine x1_put10 C dX1_failure_33 ?_
        refine g_iload_n C dX1_failure_36 0 rfl ?_
        exact x1_iret C rfl dX1_failure_37 hF
      · refine g_bipush (v := (-3)) C dX1_failure_23 rfl ?_
        exact x1_iret C rfl dX1_failure_25 hF
    · refine g_bipush (v := (-2)) C dX1_failure_13 rfl ?_
      exact x1_iret C rfl dX1_failure_15 hF
set_option maxRecDepth 100000 in
set_option maxHeartbeats 4000000 in
theorem kX1_steps (l : Launch) (D : va_G) (h0 : Nat) (E : EX) (x1 : Int32) (σ : SX) (r : Int32) (σ2 : SX) (hF : fX1_steps x1 σ = some (r, σ2)) : MV l D (tysX1 E) yX1_steps cX1_steps 5 none 0 0 [.ref h0, .int x1] (wX1 h0 E σ) (wX1 h0 E σ2) := by
  refine g_enterV (own := RX1) (lv := [(0, .ref h0), (1, .int x1)]) (by decide +kernel) rfl (Nat.le_of_ble_eq_true rfl) rfl ?_
  intro p e s m args below meth c A C
  rw [fX1_steps] at hF
  refine g_bipush (v := (nI 24)) C dX1_steps_0 rfl ?_
  refine g_aload_n C dX1_steps_2 0 rfl ?_
  refine x1_get11 C dX1_steps_3 ?_
  refine g_imul C dX1_steps_6 ?_
  refine g_aload_n C dX1_steps_7 0 rfl ?_
  refine x1_get12 C dX1_steps_8 ?_
  refine g_iadd C dX1_steps_11 ?_
  refine g_iload_n C dX1_steps_12 1 rfl ?_
  refine g_iadd C dX1_steps_13 ?_
  refine g_istore_n (lv2 := [(2, .int ((((nI 24) * (σ.2 11)) + (σ.2 12)) + x1)), (0, .ref h0), (1, .int x1)]) C dX1_steps_14 (Nat.le_of_ble_eq_true rfl) rfl ?_
  refine g_bipush (v := (nI 24)) C dX1_steps_15 rfl ?_
  refine g_aload_n C dX1_steps_17 1 rfl ?_
  refine x1_get13 C dX1_steps_18 ?_
  refine g_imul C dX1_steps_21 ?_
  refine g_aload_n C dX1_steps_22 1 rfl ?_
  refine x1_get14 C dX1_steps_23 ?_
  refine g_iadd C dX1_steps_26 ?_
  refine g_iload_n C dX1_steps_27 2 rfl ?_
  refine g_iadd C dX1_steps_28 ?_
  refine g_istore_n (lv2 := [(3, .int ((((nI 24) * (σ.2 13)) + (σ.2 14)) + x1)), (2, .int ((((nI 24) * (σ.2 11)) + (σ.2 12)) + x1)), (0, .ref h0), (1, .int x1)]) C dX1_steps_29 (Nat.le_of_ble_eq_true rfl) rfl ?_
  refine g_aload_n C dX1_steps_30 2 rfl ?_
  refine x1_get2 C dX1_steps_31 ?_
  refine g_iload_n C dX1_steps_34 1 rfl ?_
  refine x1_ld2 C dX1_steps_35 (fun hF => ?_) hF
  refine g_istore (lv2 := [(4, .int (σ.1 2 ((((nI 24) * (σ.2 11)) + (σ.2 12)) + x1).toNatClampNeg)), (3, .int ((((nI 24) * (σ.2 13)) + (σ.2 14)) + x1)), (2, .int ((((nI 24) * (σ.2 11)) + (σ.2 12)) + x1)), (0, .ref h0), (1, .int x1)]) C dX1_steps_36 (Nat.le_of_ble_eq_true rfl) rfl ?_
  refine g_aload_n C dX1_steps_38 3 rfl ?_
  refine x1_get2 C dX1_steps_39 ?_
  refine g_iload_n C dX1_steps_42 2 rfl ?_
  refine g_aload_n C dX1_steps_43 3 rfl ?_
  refine x1_get2 C dX1_steps_44 ?_
  refine g_iload_n C dX1_steps_47 1 rfl ?_
  refine x1_ld2 C dX1_steps_48 (fun hF => ?_) hF
  refine x1_st2 C dX1_steps_49 (fun hF => ?_) hF
  refine g_aload_n C dX1_steps_50 3 rfl ?_
  refine x1_get2 C dX1_steps_51 ?_
  refine g_iload_n C dX1_steps_54 1 rfl ?_
  refine g_iload C dX1_steps_55 0 rfl ?_
  refine x1_st2 C dX1_steps_57 (fun hF => ?_) hF
  exact x1_vret C rfl dX1_steps_58 hF
set_option maxRecDepth 100000 in
set_option maxHeartbeats 4000000 in
theorem wX1_exchange_L145 {p : Program} {l : Launch} {e : Env} {s : State} {m : MethodId} {args : Array Value} {below : List Frame} {meth : Method} {c : Code} {A : Nat → Prop} {D : va_G} {h0 : Nat} {E : EX} {σ2 : SX} {r : Int32} (C : GC p { frames := 3, cells := 0, slots := 0, locals := 64 } s m args meth c A D cX1_exchange 7 0 0 (tysX1 E) RX1 (some .int)) : ∀ (n : Nat) (x5 : Int32) (x6 : Int32) (σ : SX), fX1_exchange_L145 n x5 x6 σ = some (r, σ2) → GW p l e { frames := 3, cells := 0, slots := 0, locals := 64 } s m args below meth c (QI D (wX1 h0 E σ2) r A below args s) A D 7 0 0 (wX1 h0 E σ) 145 [(0, .ref h0), (5, .int x5), (6, .int x6)] [] := by
  intro n
  induction n with
  | zero => intro x5 x6 σ hF; simp only [fX1_exchange_L145] at hF; cases hF
  | succ n ih =>
    intro x5 x6 σ hF
    rw [fX1_exchange_L145] at hF
    refine g_iload C dX1_exchange_145 2 rfl ?_
    refine g_aload_n C dX1_exchange_147 0 rfl ?_
    refine x1_get16 C dX1_exchange_148 ?_
    refine g_icmp_ge (tgt := 166) C dX1_exchange_151 rfl (fun hc hF => ?_) (fun hc hF => ?_) hF
    · refine g_aload_n C dX1_exchange_166 0 rfl ?_
      refine g_aload_n C dX1_exchange_167 0 rfl ?_
      refine x1_get16 C dX1_exchange_168 ?_
      refine g_iload C dX1_exchange_171 1 rfl ?_
      refine g_icmp_ge (tgt := 180) C dX1_exchange_173 rfl (fun hc hF => ?_) (fun hc hF => ?_) hF
      · refine g_iconst (v := (nI 0)) C dX1_exchange_180 rfl ?_
        refine x1_put3 C rfl rfl dX1_exchange_181 ?_
        refine g_aload_n C dX1_exchange_184 0 rfl ?_
        refine g_bipush (v := nN) C dX1_exchange_185 rfl ?_
        refine x1_put10 C dX1_exchange_187 ?_
        refine g_aload_n C dX1_exchange_190 0 rfl ?_
        refine x1_get16 C dX1_exchange_191 ?_
        exact x1_iret C rfl dX1_exchange_194 hF
      · refine g_iconst (v := (nI 1)) C dX1_exchange_176 rfl ?_
        refine g_goto (tgt := 181) C dX1_exchange_177 rfl ?_
        refine x1_put3 C rfl rfl dX1_exchange_181 ?_
        refine g_aload_n C dX1_exchange_184 0 rfl ?_
        refine g_bipush (v := nN) C dX1_exchange_185 rfl ?_
        refine x1_put10 C dX1_exchange_187 ?_
        refine g_aload_n C dX1_exchange_190 0 rfl ?_
        refine x1_get16 C dX1_exchange_191 ?_
        exact x1_iret C rfl dX1_exchange_194 hF
    · refine g_aload_n C dX1_exchange_154 0 rfl ?_
      refine g_iload C dX1_exchange_155 2 rfl ?_
      obtain ⟨r1, s1, h1, hF⟩ := bd_some hF
      refine g_callVv C (kX1_steps l D h0 E _ _ _ _ h1) gV_X1_steps rfl rfl hn_X1_steps rfl (Nat.le_of_ble_eq_true rfl) (Nat.le_of_ble_eq_true rfl) rfl (Nat.le_of_ble_eq_true rfl) dX1_exchange_157 ?_
      refine g_iinc (v := (x6 + nI 1)) (lv2 := [(6, .int (x6 + nI 1)), (0, .ref h0), (5, .int x5)]) C dX1_exchange_160 2 rfl rfl (Nat.le_of_ble_eq_true rfl) rfl ?_
      refine g_goto (tgt := 145) C dX1_exchange_163 rfl ?_
      refine g_sub [1, 2, 0] (lv2 := [(0, .ref h0), (5, .int x5), (6, .int (x6 + nI 1))]) rfl ?_
      exact ih _ _ _ hF
set_option maxRecDepth 100000 in
set_option maxHeartbeats 4000000 in
theorem kX1_exchange (l : Launch) (D : va_G) (h0 : Nat) (E : EX) (x1 : Int32) (x2 : Int32) (x3 : Int32) (x4 : Int32) (x5 : Int32) (σ : SX) (r : Int32) (σ2 : SX) (hF : fX1_exchange x1 x2 x3 x4 x5 σ = some (r, σ2)) : MI l D (tysX1 E) yX1_exchange cX1_exchange 7 (some .int) 3 64 [.ref h0, .int x1, .int x2, .int x3, .int x4, .int x5] (wX1 h0 E σ) (wX1 h0 E σ2) r := by
  refine g_enterI (own := RX1) (lv := [(0, .ref h0), (1, .int x1), (2, .int x2), (3, .int x3), (4, .int x4), (5, .int x5)]) (by decide +kernel) rfl (Nat.le_of_ble_eq_true rfl) rfl ?_
  intro p e s m args below meth c A C
  rw [fX1_exchange] at hF
  refine g_iload_n C dX1_exchange_0 1 rfl ?_
  obtain ⟨r1, h1, hF⟩ := bs_some hF
  refine g_callS C (kX1_isFile l D _ _ h1) gS_X1_isFile hn_X1_isFile rfl (Nat.le_of_ble_eq_true rfl) (Nat.le_of_ble_eq_true rfl) rfl (Nat.le_of_ble_eq_true rfl) dX1_exchange_1 ?_
  refine g_if_eq (tgt := 14) C dX1_exchange_4 rfl (fun hc hF => ?_) (fun hc hF => ?_) hF
  · refine g_iconst (v := (-1)) C dX1_exchange_14 rfl ?_
    exact x1_iret C rfl dX1_exchange_15 hF
  · refine g_iload_n C dX1_exchange_7 3 rfl ?_
    obtain ⟨r2, h2, hF⟩ := bs_some hF
    refine g_callS C (kX1_isFile l D _ _ h2) gS_X1_isFile hn_X1_isFile rfl (Nat.le_of_ble_eq_true rfl) (Nat.le_of_ble_eq_true rfl) rfl (Nat.le_of_ble_eq_true rfl) dX1_exchange_8 ?_
    refine g_if_ne (tgt := 16) C dX1_exchange_11 rfl (fun hc hF => ?_) (fun hc hF => ?_) hF
    · refine g_iload_n C dX1_exchange_16 2 rfl ?_
      refine g_iload C dX1_exchange_17 4 rfl ?_
      refine g_iload C dX1_exchange_19 5 rfl ?_
      obtain ⟨r3, h3, hF⟩ := bs_some hF
      refine g_callS C (kX1_areRanges l D _ _ _ _ h3) gS_X1_areRanges hn_X1_areRanges rfl (Nat.le_of_ble_eq_true rfl) (Nat.le_of_ble_eq_true rfl) rfl (Nat.le_of_ble_eq_true rfl) dX1_exchange_21 ?_
      refine g_if_ne (tgt := 30) C dX1_exchange_24 rfl (fun hc hF => ?_) (fun hc hF => ?_) hF
      · refine g_aload_n C dX1_exchange_30 0 rfl ?_
        refine x1_get3 C dX1_exchange_31 ?_
        refine g_if_ne (tgt := 81) C dX1_exchange_34 rfl (fun hc hF => ?_) (fun hc hF => ?_) hF
        · refine g_bipush (v := (-3)) C dX1_exchange_81 rfl ?_
          exact x1_iret C rfl dX1_exchange_83 hF
        · refine g_iconst (v := (nI 4)) C dX1_exchange_37 rfl ?_
          refine g_iload_n C dX1_exchange_38 2 rfl ?_
          refine g_iload C dX1_exchange_39 5 rfl ?_
          refine g_iadd C dX1_exchange_41 ?_
          refine g_imul C dX1_exchange_42 ?_
          refine g_aload_n C dX1_exchange_43 0 rfl ?_
          refine x1_get1 C dX1_exchange_44 ?_
          refine g_iload_n C dX1_exchange_47 1 rfl ?_
          refine x1_ld1 C dX1_exchange_48 (fun hF => ?_) hF
          refine g_icmp_gt (tgt := 81) C dX1_exchange_49 rfl (fun hc hF => ?_) (fun hc hF => ?_) hF
          · refine g_bipush (v := (-3)) C dX1_exchange_81 rfl ?_
            exact x1_iret C rfl dX1_exchange_83 hF
          · refine g_iconst (v := (nI 4)) C dX1_exchange_52 rfl ?_
            refine g_iload C dX1_exchange_53 4 rfl ?_
            refine g_iload C dX1_exchange_55 5 rfl ?_
            refine g_iadd C dX1_exchange_57 ?_
            refine g_imul C dX1_exchange_58 ?_
            refine g_aload_n C dX1_exchange_59 0 rfl ?_
            refine x1_get1 C dX1_exchange_60 ?_
            refine g_iload_n C dX1_exchange_63 3 rfl ?_
            refine x1_ld1 C dX1_exchange_64 (fun hF => ?_) hF
            refine g_icmp_gt (tgt := 81) C dX1_exchange_65 rfl (fun hc hF => ?_) (fun hc hF => ?_) hF
            · refine g_bipush (v := (-3)) C dX1_exchange_81 rfl ?_
              exact x1_iret C rfl dX1_exchange_83 hF
            · refine g_iload_n C dX1_exchange_68 1 rfl ?_
              refine g_iload_n C dX1_exchange_69 2 rfl ?_
              refine g_iload_n C dX1_exchange_70 3 rfl ?_
              refine g_iload C dX1_exchange_71 4 rfl ?_
              refine g_iload C dX1_exchange_73 5 rfl ?_
              obtain ⟨r4, h4, hF⟩ := bs_some hF
              refine g_callS C (kX1_doMeet l D _ _ _ _ _ _ h4) gS_X1_doMeet hn_X1_doMeet rfl (Nat.le_of_ble_eq_true rfl) (Nat.le_of_ble_eq_true rfl) rfl (Nat.le_of_ble_eq_true rfl) dX1_exchange_75 ?_
              refine g_if_eq (tgt := 84) C dX1_exchange_78 rfl (fun hc hF => ?_) (fun hc hF => ?_) hF
              · refine g_aload_n C dX1_exchange_84 0 rfl ?_
                refine g_iload_n C dX1_exchange_85 1 rfl ?_
                refine x1_put11 C dX1_exchange_86 ?_
                refine g_aload_n C dX1_exchange_89 0 rfl ?_
                refine g_iload_n C dX1_exchange_90 2 rfl ?_
                refine x1_put12 C dX1_exchange_91 ?_
                refine g_aload_n C dX1_exchange_94 0 rfl ?_
                refine g_iload_n C dX1_exchange_95 3 rfl ?_
                refine x1_put13 C dX1_exchange_96 ?_
                refine g_aload_n C dX1_exchange_99 0 rfl ?_
                refine g_iload C dX1_exchange_100 4 rfl ?_
                refine x1_put14 C dX1_exchange_102 ?_
                refine g_aload_n C dX1_exchange_105 0 rfl ?_
                refine g_iload C dX1_exchange_106 5 rfl ?_
                refine x1_put15 C dX1_exchange_108 ?_
                refine g_aload_n C dX1_exchange_111 0 rfl ?_
                refine g_aload_n C dX1_exchange_112 0 rfl ?_
                refine x1_get10 C dX1_exchange_113 ?_
                refine g_bipush (v := nN) C dX1_exchange_116 rfl ?_
                refine g_icmp_eq (tgt := 137) C dX1_exchange_118 rfl (fun hc hF => ?_) (fun hc hF => ?_) hF
                · refine g_iload C dX1_exchange_137 5 rfl ?_
                  refine x1_put16 C dX1_exchange_139 ?_
                  refine g_iconst (v := (nI 0)) C dX1_exchange_142 rfl ?_
                  refine g_istore (lv2 := [(6, .int (nI 0)), (0, .ref h0), (1, .int x1), (2, .int x2), (3, .int x3), (4, .int x4), (5, .int x5)]) C dX1_exchange_143 (Nat.le_of_ble_eq_true rfl) rfl ?_
                  refine g_sub [1, 6, 0] (lv2 := [(0, .ref h0), (5, .int x5), (6, .int (nI 0))]) rfl ?_
                  exact wX1_exchange_L145 C FU _ _ _ hF
                · refine g_aload_n C dX1_exchange_121 0 rfl ?_
                  refine x1_get10 C dX1_exchange_122 ?_
                  refine g_iload C dX1_exchange_125 5 rfl ?_
                  refine g_icmp_ge (tgt := 137) C dX1_exchange_127 rfl (fun hc hF => ?_) (fun hc hF => ?_) hF
                  · refine g_iload C dX1_exchange_137 5 rfl ?_
                    refine x1_put16 C dX1_exchange_139 ?_
                    refine g_iconst (v := (nI 0)) C dX1_exchange_142 rfl ?_
                    refine g_istore (lv2 := [(6, .int (nI 0)), (0, .ref h0), (1, .int x1), (2, .int x2), (3, .int x3), (4, .int x4), (5, .int x5)]) C dX1_exchange_143 (Nat.le_of_ble_eq_true rfl) rfl ?_
                    refine g_sub [1, 6, 0] (lv2 := [(0, .ref h0), (5, .int x5), (6, .int (nI 0))]) rfl ?_
                    exact wX1_exchange_L145 C FU _ _ _ hF
                  · refine g_aload_n C dX1_exchange_130 0 rfl ?_
                    refine x1_get10 C dX1_exchange_131 ?_
                    refine g_goto (tgt := 139) C dX1_exchange_134 rfl ?_
                    refine x1_put16 C dX1_exchange_139 ?_
                    refine g_iconst (v := (nI 0)) C dX1_exchange_142 rfl ?_
                    refine g_istore (lv2 := [(6, .int (nI 0)), (0, .ref h0), (1, .int x1), (2, .int x2), (3, .int x3), (4, .int x4), (5, .int x5)]) C dX1_exchange_143 (Nat.le_of_ble_eq_true rfl) rfl ?_
                    refine g_sub [1, 6, 0] (lv2 := [(0, .ref h0), (5, .int x5), (6, .int (nI 0))]) rfl ?_
                    exact wX1_exchange_L145 C FU _ _ _ hF
              · refine g_bipush (v := (-3)) C dX1_exchange_81 rfl ?_
                exact x1_iret C rfl dX1_exchange_83 hF
      · refine g_bipush (v := (-2)) C dX1_exchange_27 rfl ?_
        exact x1_iret C rfl dX1_exchange_29 hF
    · refine g_iconst (v := (-1)) C dX1_exchange_14 rfl ?_
      exact x1_iret C rfl dX1_exchange_15 hF
set_option maxRecDepth 100000 in
set_option maxHeartbeats 4000000 in
theorem wX1_mount_L42 {p : Program} {l : Launch} {e : Env} {s : State} {m : MethodId} {args : Array Value} {below : List Frame} {meth : Method} {c : Code} {A : Nat → Prop} {D : va_G} {h0 : Nat} {E : EX} {σ2 : SX} {r : Int32} (C : GC p { frames := 1, cells := 0, slots := 0, locals := 24 } s m args meth c A D cX1_mount 5 0 0 (tysX1 E) RX1 (some .int)) : ∀ (n : Nat) (x2 : Int32) (x3 : Int32) (x4 : Int32) (σ : SX), fX1_mount_L42 n x2 x3 x4 σ = some (r, σ2) → GW p l e { frames := 1, cells := 0, slots := 0, locals := 24 } s m args below meth c (QI D (wX1 h0 E σ2) r A below args s) A D 5 0 0 (wX1 h0 E σ) 42 [(0, .ref h0), (2, .int x2), (3, .int x3), (4, .int x4)] [] := by
  intro n
  induction n with
  | zero => intro x2 x3 x4 σ hF; simp only [fX1_mount_L42] at hF; cases hF
  | succ n ih =>
    intro x2 x3 x4 σ hF
    rw [fX1_mount_L42] at hF
    refine g_iload C dX1_mount_42 3 rfl ?_
    refine g_iload_n C dX1_mount_44 2 rfl ?_
    refine g_icmp_ge (tgt := 60) C dX1_mount_45 rfl (fun hc hF => ?_) (fun hc hF => ?_) hF
    · refine g_aload_n C dX1_mount_60 0 rfl ?_
      refine g_iconst (v := (nI 0)) C dX1_mount_61 rfl ?_
      refine x1_put3 C rfl rfl dX1_mount_62 ?_
      refine g_iload_n C dX1_mount_65 2 rfl ?_
      refine g_iload_n C dX1_mount_66 1 rfl ?_
      refine g_isub C dX1_mount_67 ?_
      exact x1_iret C rfl dX1_mount_68 hF
    · refine g_aload_n C dX1_mount_48 0 rfl ?_
      refine g_iload C dX1_mount_49 3 rfl ?_
      obtain ⟨r1, s1, h1, hF⟩ := bd_some hF
      refine g_callVv C (kX1_steps l D h0 E _ _ _ _ h1) gV_X1_steps rfl rfl hn_X1_steps rfl (Nat.le_of_ble_eq_true rfl) (Nat.le_of_ble_eq_true rfl) rfl (Nat.le_of_ble_eq_true rfl) dX1_mount_51 ?_
      refine g_iinc (v := (x4 + nI 1)) (lv2 := [(4, .int (x4 + nI 1)), (0, .ref h0), (2, .int x2), (3, .int x3)]) C dX1_mount_54 3 rfl rfl (Nat.le_of_ble_eq_true rfl) rfl ?_
      refine g_goto (tgt := 42) C dX1_mount_57 rfl ?_
      refine g_sub [1, 2, 3, 0] (lv2 := [(0, .ref h0), (2, .int x2), (3, .int x3), (4, .int (x4 + nI 1))]) rfl ?_
      exact ih _ _ _ _ hF
set_option maxRecDepth 100000 in
set_option maxHeartbeats 4000000 in
theorem kX1_mount (l : Launch) (D : va_G) (h0 : Nat) (E : EX) (x1 : Int32) (σ : SX) (r : Int32) (σ2 : SX) (hF : fX1_mount x1 σ = some (r, σ2)) : MI l D (tysX1 E) yX1_mount cX1_mount 5 (some .int) 1 24 [.ref h0, .int x1] (wX1 h0 E σ) (wX1 h0 E σ2) r := by
  refine g_enterI (own := RX1) (lv := [(0, .ref h0), (1, .int x1)]) (by decide +kernel) rfl (Nat.le_of_ble_eq_true rfl) rfl ?_
  intro p e s m args below meth c A C
  rw [fX1_mount] at hF
  refine g_aload_n C dX1_mount_0 0 rfl ?_
  refine x1_get3 C dX1_mount_1 ?_
  refine g_if_ne (tgt := 10) C dX1_mount_4 rfl (fun hc hF => ?_) (fun hc hF => ?_) hF
  · refine g_iload_n C dX1_mount_10 1 rfl ?_
    refine g_if_eq (tgt := 21) C dX1_mount_11 rfl (fun hc hF => ?_) (fun hc hF => ?_) hF
    · refine g_iconst (v := (nI 0)) C dX1_mount_21 rfl ?_
      refine g_istore_n (lv2 := [(2, .int (nI 0)), (0, .ref h0), (1, .int x1)]) C dX1_mount_22 (Nat.le_of_ble_eq_true rfl) rfl ?_
      refine g_iload_n C dX1_mount_23 2 rfl ?_
      refine g_if_eq (tgt := 34) C dX1_mount_24 rfl (fun hc hF => ?_) (fun hc hF => ?_) hF
      · refine g_aload_n C dX1_mount_34 1 rfl ?_
        refine x1_get16 C dX1_mount_35 ?_
        refine g_istore_n (lv2 := [(3, .int (σ.2 16)), (2, .int (nI 0)), (0, .ref h0), (1, .int x1)]) C dX1_mount_38 (Nat.le_of_ble_eq_true rfl) rfl ?_
        refine g_iload_n C dX1_mount_39 1 rfl ?_
        refine g_istore (lv2 := [(4, .int (nI 0)), (3, .int (σ.2 16)), (2, .int (nI 0)), (0, .ref h0), (1, .int x1)]) C dX1_mount_40 (Nat.le_of_ble_eq_true rfl) rfl ?_
        refine g_sub [3, 2, 1, 0] (lv2 := [(0, .ref h0), (2, .int (nI 0)), (3, .int (σ.2 16)), (4, .int (nI 0))]) rfl ?_
        exact wX1_mount_L42 C FU _ _ _ _ hF
      · refine g_aload_n C dX1_mount_27 1 rfl ?_
        refine x1_get15 C dX1_mount_28 ?_
        refine g_goto (tgt := 38) C dX1_mount_31 rfl ?_
        refine g_istore_n (lv2 := [(3, .int (σ.2 15)), (2, .int (nI 0)), (0, .ref h0), (1, .int x1)]) C dX1_mount_38 (Nat.le_of_ble_eq_true rfl) rfl ?_
        refine g_iload_n C dX1_mount_39 1 rfl ?_
        refine g_istore (lv2 := [(4, .int (nI 0)), (3, .int (σ.2 15)), (2, .int (nI 0)), (0, .ref h0), (1, .int x1)]) C dX1_mount_40 (Nat.le_of_ble_eq_true rfl) rfl ?_
        refine g_sub [3, 2, 1, 0] (lv2 := [(0, .ref h0), (2, .int (nI 0)), (3, .int (σ.2 15)), (4, .int (nI 0))]) rfl ?_
        exact wX1_mount_L42 C FU _ _ _ _ hF
    · refine g_aload_n C dX1_mount_14 0 rfl ?_
      refine x1_get16 C dX1_mount_15 ?_
      refine g_goto (tgt := 22) C dX1_mount_18 rfl ?_
      refine g_istore_n (lv2 := [(2, .int (σ.2 16)), (0, .ref h0), (1, .int x1)]) C dX1_mount_22 (Nat.le_of_ble_eq_true rfl) rfl ?_
      refine g_iload_n C dX1_mount_23 2 rfl ?_
      refine g_if_eq (tgt := 34) C dX1_mount_24 rfl (fun hc hF => ?_) (fun hc hF => ?_) hF
      · refine g_aload_n C dX1_mount_34 1 rfl ?_
        refine x1_get16 C dX1_mount_35 ?_
        refine g_istore_n (lv2 := [(3, .int (σ.2 16)), (2, .int (σ.2 16)), (0, .ref h0), (1, .int x1)]) C dX1_mount_38 (Nat.le_of_ble_eq_true rfl) rfl ?_
        refine g_iload_n C dX1_mount_39 1 rfl ?_
        refine g_istore (lv2 := [(4, .int (σ.2 16)), (3, .int (σ.2 16)), (2, .int (σ.2 16)), (0, .ref h0), (1, .int x1)]) C dX1_mount_40 (Nat.le_of_ble_eq_true rfl) rfl ?_
        refine g_sub [3, 2, 1, 0] (lv2 := [(0, .ref h0), (2, .int (σ.2 16)), (3, .int (σ.2 16)), (4, .int (σ.2 16))]) rfl ?_
        exact wX1_mount_L42 C FU _ _ _ _ hF
      · refine g_aload_n C dX1_mount_27 1 rfl ?_
        refine x1_get15 C dX1_mount_28 ?_
        refine g_goto (tgt := 38) C dX1_mount_31 rfl ?_
        refine g_istore_n (lv2 := [(3, .int (σ.2 15)), (2, .int (σ.2 16)), (0, .ref h0), (1, .int x1)]) C dX1_mount_38 (Nat.le_of_ble_eq_true rfl) rfl ?_
        refine g_iload_n C dX1_mount_39 1 rfl ?_
        refine g_istore (lv2 := [(4, .int (σ.2 16)), (3, .int (σ.2 15)), (2, .int (σ.2 16)), (0, .ref h0), (1, .int x1)]) C dX1_mount_40 (Nat.le_of_ble_eq_true rfl) rfl ?_
        refine g_sub [3, 2, 1, 0] (lv2 := [(0, .ref h0), (2, .int (σ.2 16)), (3, .int (σ.2 15)), (4, .int (σ.2 16))]) rfl ?_
        exact wX1_mount_L42 C FU _ _ _ _ hF
  · refine g_bipush (v := (-3)) C dX1_mount_7 rfl ?_
    exact x1_iret C rfl dX1_mount_9 hF
set_option maxRecDepth 100000 in
set_option maxHeartbeats 4000000 in
theorem kX1_beginsPiece (l : Launch) (D : va_G) (h0 : Nat) (E : EX) (x1 : Int32) (x2 : Int32) (σ : SX) (r : Int32) (σ2 : SX) (hF : fX1_beginsPiece x1 x2 σ = some (r, σ2)) : MI l D (tysX1 E) yX1_beginsPiece cX1_beginsPiece 4 (some .boolean) 0 0 [.ref h0, .int x1, .int x2] (wX1 h0 E σ) (wX1 h0 E σ2) r := by
  refine g_enterI (own := RX1) (lv := [(0, .ref h0), (1, .int x1), (2, .int x2)]) (by decide +kernel) rfl (Nat.le_of_ble_eq_true rfl) rfl ?_
  intro p e s m args below meth c A C
  rw [fX1_beginsPiece] at hF
  refine g_aload_n C dX1_beginsPiece_0 0 rfl ?_
  refine x1_get2 C dX1_beginsPiece_1 ?_
  refine g_bipush (v := (nI 24)) C dX1_beginsPiece_4 rfl ?_
  refine g_iload_n C dX1_beginsPiece_6 1 rfl ?_
  refine g_imul C dX1_beginsPiece_7 ?_
  refine g_iload_n C dX1_beginsPiece_8 2 rfl ?_
  refine g_iadd C dX1_beginsPiece_9 ?_
  refine x1_ld2 C dX1_beginsPiece_10 (fun hF => ?_) hF
  refine g_istore_n (lv2 := [(3, .int (σ.1 2 (((nI 24) * x1) + x2).toNatClampNeg)), (0, .ref h0), (1, .int x1), (2, .int x2)]) C dX1_beginsPiece_11 (Nat.le_of_ble_eq_true rfl) rfl ?_
  refine g_iload_n C dX1_beginsPiece_12 0 rfl ?_
  refine g_bipush (v := nN) C dX1_beginsPiece_13 rfl ?_
  refine g_icmp_eq (tgt := 63) C dX1_beginsPiece_15 rfl (fun hc hF => ?_) (fun hc hF => ?_) hF
  · refine g_iconst (v := (nI 0)) C dX1_beginsPiece_63 rfl ?_
    exact x1_zret C rfl rfl dX1_beginsPiece_64 hF
  · refine g_iload_n C dX1_beginsPiece_18 3 rfl ?_
    refine g_if_eq (tgt := 59) C dX1_beginsPiece_19 rfl (fun hc hF => ?_) (fun hc hF => ?_) hF
    · refine g_iconst (v := (nI 1)) C dX1_beginsPiece_59 rfl ?_
      refine g_goto (tgt := 64) C dX1_beginsPiece_60 rfl ?_
      exact x1_zret C rfl rfl dX1_beginsPiece_64 hF
    · refine g_aload_n C dX1_beginsPiece_22 1 rfl ?_
      refine x1_get2 C dX1_beginsPiece_23 ?_
      refine g_bipush (v := (nI 24)) C dX1_beginsPiece_26 rfl ?_
      refine g_iload_n C dX1_beginsPiece_28 2 rfl ?_
      refine g_imul C dX1_beginsPiece_29 ?_
      refine g_iload_n C dX1_beginsPiece_30 3 rfl ?_
      refine g_iadd C dX1_beginsPiece_31 ?_
      refine g_iconst (v := (nI 1)) C dX1_beginsPiece_32 rfl ?_
      refine g_isub C dX1_beginsPiece_33 ?_
      refine x1_ld2 C dX1_beginsPiece_34 (fun hF => ?_) hF
      refine g_bipush (v := nN) C dX1_beginsPiece_35 rfl ?_
      refine g_icmp_eq (tgt := 59) C dX1_beginsPiece_37 rfl (fun hc hF => ?_) (fun hc hF => ?_) hF
      · refine g_iconst (v := (nI 1)) C dX1_beginsPiece_59 rfl ?_
        refine g_goto (tgt := 64) C dX1_beginsPiece_60 rfl ?_
        exact x1_zret C rfl rfl dX1_beginsPiece_64 hF
      · refine g_aload_n C dX1_beginsPiece_40 1 rfl ?_
        refine x1_get2 C dX1_beginsPiece_41 ?_
        refine g_bipush (v := (nI 24)) C dX1_beginsPiece_44 rfl ?_
        refine g_iload_n C dX1_beginsPiece_46 2 rfl ?_
        refine g_imul C dX1_beginsPiece_47 ?_
        refine g_iload_n C dX1_beginsPiece_48 3 rfl ?_
        refine g_iadd C dX1_beginsPiece_49 ?_
        refine g_iconst (v := (nI 1)) C dX1_beginsPiece_50 rfl ?_
        refine g_isub C dX1_beginsPiece_51 ?_
        refine x1_ld2 C dX1_beginsPiece_52 (fun hF => ?_) hF
        refine g_iconst (v := (nI 1)) C dX1_beginsPiece_53 rfl ?_
        refine g_iadd C dX1_beginsPiece_54 ?_
        refine g_iload_n C dX1_beginsPiece_55 0 rfl ?_
        refine g_icmp_eq (tgt := 63) C dX1_beginsPiece_56 rfl (fun hc hF => ?_) (fun hc hF => ?_) hF
        · refine g_iconst (v := (nI 0)) C dX1_beginsPiece_63 rfl ?_
          exact x1_zret C rfl rfl dX1_beginsPiece_64 hF
        · refine g_iconst (v := (nI 1)) C dX1_beginsPiece_59 rfl ?_
          refine g_goto (tgt := 64) C dX1_beginsPiece_60 rfl ?_
          exact x1_zret C rfl rfl dX1_beginsPiece_64 hF
set_option maxRecDepth 100000 in
set_option maxHeartbeats 4000000 in
theorem wX1_pieces_L4 {p : Program} {l : Launch} {e : Env} {s : State} {m : MethodId} {args : Array Value} {below : List Frame} {meth : Method} {c : Code} {A : Nat → Prop} {D : va_G} {h0 : Nat} {E : EX} {σ2 : SX} {r : Int32} (C : GC p { frames := 1, cells := 0, slots := 0, locals := 23 } s m args meth c A D cX1_pieces 4 0 0 (tysX1 E) RX1 (some .int)) : ∀ (n : Nat) (x1 : Int32) (x2 : Int32) (x3 : Int32) (σ : SX), fX1_pieces_L4 n x1 x2 x3 σ = some (r, σ2) → GW p l e { frames := 1, cells := 0, slots := 0, locals := 23 } s m args below meth c (QI D (wX1 h0 E σ2) r A below args s) A D 4 0 0 (wX1 h0 E σ) 4 [(0, .ref h0), (1, .int x1), (2, .int x2), (3, .int x3)] [] := by
  intro n
  induction n with
  | zero => intro x1 x2 x3 σ hF; simp only [fX1_pieces_L4] at hF; cases hF
  | succ n ih =>
    intro x1 x2 x3 σ hF
    rw [fX1_pieces_L4] at hF
    refine g_iload_n C dX1_pieces_4 3 rfl ?_
    refine g_bipush (v := (nI 24)) C dX1_pieces_5 rfl ?_
    refine g_icmp_ge (tgt := 33) C dX1_pieces_7 rfl (fun hc hF => ?_) (fun hc hF => ?_) hF
    · refine g_iload_n C dX1_pieces_33 2 rfl ?_
      exact x1_iret C rfl dX1_pieces_34 hF
    · refine g_iload_n C dX1_pieces_10 2 rfl ?_
      refine g_aload_n C dX1_pieces_11 0 rfl ?_
      refine g_iload_n C dX1_pieces_12 1 rfl ?_
      refine g_iload_n C dX1_pieces_13 3 rfl ?_
      obtain ⟨r1, s1, h1, hF⟩ := bd_some hF
      refine g_callV C (kX1_beginsPiece l D h0 E _ _ _ _ _ h1) gV_X1_beginsPiece rfl rfl hn_X1_beginsPiece rfl (Nat.le_of_ble_eq_true rfl) (Nat.le_of_ble_eq_true rfl) rfl (Nat.le_of_ble_eq_true rfl) dX1_pieces_14 ?_
      refine g_if_eq (tgt := 24) C dX1_pieces_17 rfl (fun hc hF => ?_) (fun hc hF => ?_) hF
      · refine g_iconst (v := (nI 0)) C dX1_pieces_24 rfl ?_
        refine g_iadd C dX1_pieces_25 ?_
        refine g_istore_n (lv2 := [(2, .int (x2 + (nI 0))), (0, .ref h0), (1, .int x1), (3, .int x3)]) C dX1_pieces_26 (Nat.le_of_ble_eq_true rfl) rfl ?_
        refine g_iinc (v := (x3 + nI 1)) (lv2 := [(3, .int (x3 + nI 1)), (2, .int (x2 + (nI 0))), (0, .ref h0), (1, .int x1)]) C dX1_pieces_27 3 rfl rfl (Nat.le_of_ble_eq_true rfl) rfl ?_
        refine g_goto (tgt := 4) C dX1_pieces_30 rfl ?_
        refine g_sub [2, 3, 1, 0] (lv2 := [(0, .ref h0), (1, .int x1), (2, .int (x2 + (nI 0))), (3, .int (x3 + nI 1))]) rfl ?_
        exact ih _ _ _ _ hF
      · refine g_iconst (v := (nI 1)) C dX1_pieces_20 rfl ?_
        refine g_goto (tgt := 25) C dX1_pieces_21 rfl ?_
        refine g_iadd C dX1_pieces_25 ?_
        refine g_istore_n (lv2 := [(2, .int (x2 + (nI 1))), (0, .ref h0), (1, .int x1), (3, .int x3)]) C dX1_pieces_26 (Nat.le_of_ble_eq_true rfl) rfl ?_
        refine g_iinc (v := (x3 + nI 1)) (lv2 := [(3, .int (x3 + nI 1)), (2, .int (x2 + (nI 1))), (0, .ref h0), (1, .int x1)]) C dX1_pieces_27 3 rfl rfl (Nat.le_of_ble_eq_true rfl) rfl ?_
        refine g_goto (tgt := 4) C dX1_pieces_30 rfl ?_
        refine g_sub [2, 3, 1, 0] (lv2 := [(0, .ref h0), (1, .int x1), (2, .int (x2 + (nI 1))), (3, .int (x3 + nI 1))]) rfl ?_
        exact ih _ _ _ _ hF
set_option maxRecDepth 100000 in
set_option maxHeartbeats 4000000 in
theorem kX1_pieces (l : Launch) (D : va_G) (h0 : Nat) (E : EX) (x1 : Int32) (σ : SX) (r : Int32) (σ2 : SX) (hF : fX1_pieces x1 σ = some (r, σ2)) : MI l D (tysX1 E) yX1_pieces cX1_pieces 4 (some .int) 1 23 [.ref h0, .int x1] (wX1 h0 E σ) (wX1 h0 E σ2) r := by
  refine g_enterI (own := RX1) (lv := [(0, .ref h0), (1, .int x1)]) (by decide +kernel) rfl (Nat.le_of_ble_eq_true rfl) rfl ?_
  intro p e s m args below meth c A C
  rw [fX1_pieces] at hF
  refine g_iconst (v := (nI 0)) C dX1_pieces_0 rfl ?_
  refine g_istore_n (lv2 := [(2, .int (nI 0)), (0, .ref h0), (1, .int x1)]) C dX1_pieces_1 (Nat.le_of_ble_eq_true rfl) rfl ?_
  refine g_iconst (v := (nI 0)) C dX1_pieces_2 rfl ?_
  refine g_istore_n (lv2 := [(3, .int (nI 0)), (2, .int (nI 0)), (0, .ref h0), (1, .int x1)]) C dX1_pieces_3 (Nat.le_of_ble_eq_true rfl) rfl ?_
  refine g_sub [2, 3, 1, 0] (lv2 := [(0, .ref h0), (1, .int x1), (2, .int (nI 0)), (3, .int (nI 0))]) rfl ?_
  exact wX1_pieces_L4 C FU _ _ _ _ hF
set_option maxRecDepth 100000 in
set_option maxHeartbeats 4000000 in
theorem wX1_sharedIn_L4 {p : Program} {l : Launch} {e : Env} {s : State} {m : MethodId} {args : Array Value} {below : List Frame} {meth : Method} {c : Code} {A : Nat → Prop} {D : va_G} {h0 : Nat} {E : EX} {σ2 : SX} {r : Int32} (C : GC p { frames := 2, cells := 0, slots := 0, locals := 46 } s m args meth c A D cX1_sharedIn 4 0 0 (tysX1 E) RX1 (some .int)) : ∀ (n : Nat) (x1 : Int32) (x2 : Int32) (x3 : Int32) (σ : SX), fX1_sharedIn_L4 n x1 x2 x3 σ = some (r, σ2) → GW p l e { frames := 2, cells := 0, slots := 0, locals := 46 } s m args below meth c (QI D (wX1 h0 E σ2) r A below args s) A D 4 0 0 (wX1 h0 E σ) 4 [(0, .ref h0), (1, .int x1), (2, .int x2), (3, .int x3)] [] := by
  intro n
  induction n with
  | zero => intro x1 x2 x3 σ hF; simp only [fX1_sharedIn_L4] at hF; cases hF
  | succ n ih =>
    intro x1 x2 x3 σ hF
    rw [fX1_sharedIn_L4] at hF
    refine g_iload_n C dX1_sharedIn_4 3 rfl ?_
    refine g_bipush (v := (nI 24)) C dX1_sharedIn_5 rfl ?_
    refine g_icmp_ge (tgt := 33) C dX1_sharedIn_7 rfl (fun hc hF => ?_) (fun hc hF => ?_) hF
    · refine g_iload_n C dX1_sharedIn_33 2 rfl ?_
      exact x1_iret C rfl dX1_sharedIn_34 hF
    · refine g_iload_n C dX1_sharedIn_10 2 rfl ?_
      refine g_aload_n C dX1_sharedIn_11 0 rfl ?_
      refine g_iload_n C dX1_sharedIn_12 1 rfl ?_
      refine g_iload_n C dX1_sharedIn_13 3 rfl ?_
      obtain ⟨r1, s1, h1, hF⟩ := bd_some hF
      refine g_callV C (kX1_isShared l D h0 E _ _ _ _ _ h1) gV_X1_isShared rfl rfl hn_X1_isShared rfl (Nat.le_of_ble_eq_true rfl) (Nat.le_of_ble_eq_true rfl) rfl (Nat.le_of_ble_eq_true rfl) dX1_sharedIn_14 ?_
      refine g_if_eq (tgt := 24) C dX1_sharedIn_17 rfl (fun hc hF => ?_) (fun hc hF => ?_) hF
      · refine g_iconst (v := (nI 0)) C dX1_sharedIn_24 rfl ?_
        refine g_iadd C dX1_sharedIn_25 ?_
        refine g_istore_n (lv2 := [(2, .int (x2 + (nI 0))), (0, .ref h0), (1, .int x1), (3, .int x3)]) C dX1_sharedIn_26 (Nat.le_of_ble_eq_true rfl) rfl ?_
        refine g_iinc (v := (x3 + nI 1)) (lv2 := [(3, .int (x3 + nI 1)), (2, .int (x2 + (nI 0))), (0, .ref h0), (1, .int x1)]) C dX1_sharedIn_27 3 rfl rfl (Nat.le_of_ble_eq_true rfl) rfl ?_
        refine g_goto (tgt := 4) C dX1_sharedIn_30 rfl ?_
        refine g_sub [2, 3, 1, 0] (lv2 := [(0, .ref h0), (1, .int x1), (2, .int (x2 + (nI 0))), (3, .int (x3 + nI 1))]) rfl ?_
        exact ih _ _ _ _ hF
      · refine g_iconst (v := (nI 1)) C dX1_sharedIn_20 rfl ?_
        refine g_goto (tgt := 25) C dX1_sharedIn_21 rfl ?_
        refine g_iadd C dX1_sharedIn_25 ?_
        refine g_istore_n (lv2 := [(2, .int (x2 + (nI 1))), (0, .ref h0), (1, .int x1), (3, .int x3)]) C dX1_sharedIn_26 (Nat.le_of_ble_eq_true rfl) rfl ?_
        refine g_iinc (v := (x3 + nI 1)) (lv2 := [(3, .int (x3 + nI 1)), (2, .int (x2 + (nI 1))), (0, .ref h0), (1, .int x1)]) C dX1_sharedIn_27 3 rfl rfl (Nat.le_of_ble_eq_true rfl) rfl ?_
        refine g_goto (tgt := 4) C dX1_sharedIn_30 rfl ?_
        refine g_sub [2, 3, 1, 0] (lv2 := [(0, .ref h0), (1, .int x1), (2, .int (x2 + (nI 1))), (3, .int (x3 + nI 1))]) rfl ?_
        exact ih _ _ _ _ hF
set_option maxRecDepth 100000 in
set_option maxHeartbeats 4000000 in
theorem kX1_sharedIn (l : Launch) (D : va_G) (h0 : Nat) (E : EX) (x1 : Int32) (σ : SX) (r : Int32) (σ2 : SX) (hF : fX1_sharedIn x1 σ = some (r, σ2)) : MI l D (tysX1 E) yX1_sharedIn cX1_sharedIn 4 (some .int) 2 46 [.ref h0, .int x1] (wX1 h0 E σ) (wX1 h0 E σ2) r := by
  refine g_enterI (own := RX1) (lv := [(0, .ref h0), (1, .int x1)]) (by decide +kernel) rfl (Nat.le_of_ble_eq_true rfl) rfl ?_
  intro p e s m args below meth c A C
  rw [fX1_sharedIn] at hF
  refine g_iconst (v := (nI 0)) C dX1_sharedIn_0 rfl ?_
  refine g_istore_n (lv2 := [(2, .int (nI 0)), (0, .ref h0), (1, .int x1)]) C dX1_sharedIn_1 (Nat.le_of_ble_eq_true rfl) rfl ?_
  refine g_iconst (v := (nI 0)) C dX1_sharedIn_2 rfl ?_
  refine g_istore_n (lv2 := [(3, .int (nI 0)), (2, .int (nI 0)), (0, .ref h0), (1, .int x1)]) C dX1_sharedIn_3 (Nat.le_of_ble_eq_true rfl) rfl ?_
  refine g_sub [2, 3, 1, 0] (lv2 := [(0, .ref h0), (1, .int x1), (2, .int (nI 0)), (3, .int (nI 0))]) rfl ?_
  exact wX1_sharedIn_L4 C FU _ _ _ _ hF
set_option maxRecDepth 100000 in
set_option maxHeartbeats 4000000 in
theorem wX1_placesIn_L4 {p : Program} {l : Launch} {e : Env} {s : State} {m : MethodId} {args : Array Value} {below : List Frame} {meth : Method} {c : Code} {A : Nat → Prop} {D : va_G} {h0 : Nat} {E : EX} {σ2 : SX} {r : Int32} (C : GC p { frames := 0, cells := 0, slots := 0, locals := 0 } s m args meth c A D cX1_placesIn 4 0 0 (tysX1 E) RX1 (some .int)) : ∀ (n : Nat) (x1 : Int32) (x2 : Int32) (x3 : Int32) (σ : SX), fX1_placesIn_L4 n x1 x2 x3 σ = some (r, σ2) → GW p l e { frames := 0, cells := 0, slots := 0, locals := 0 } s m args below meth c (QI D (wX1 h0 E σ2) r A below args s) A D 4 0 0 (wX1 h0 E σ) 4 [(0, .ref h0), (1, .int x1), (2, .int x2), (3, .int x3)] [] := by
  intro n
  induction n with
  | zero => intro x1 x2 x3 σ hF; simp only [fX1_placesIn_L4] at hF; cases hF
  | succ n ih =>
    intro x1 x2 x3 σ hF
    rw [fX1_placesIn_L4] at hF
    refine g_iload_n C dX1_placesIn_4 3 rfl ?_
    refine g_bipush (v := (nI 24)) C dX1_placesIn_5 rfl ?_
    refine g_icmp_ge (tgt := 40) C dX1_placesIn_7 rfl (fun hc hF => ?_) (fun hc hF => ?_) hF
    · refine g_iload_n C dX1_placesIn_40 2 rfl ?_
      exact x1_iret C rfl dX1_placesIn_41 hF
    · refine g_iload_n C dX1_placesIn_10 2 rfl ?_
      refine g_aload_n C dX1_placesIn_11 0 rfl ?_
      refine x1_get2 C dX1_placesIn_12 ?_
      refine g_bipush (v := (nI 24)) C dX1_placesIn_15 rfl ?_
      refine g_iload_n C dX1_placesIn_17 1 rfl ?_
      refine g_imul C dX1_placesIn_18 ?_
      refine g_iload_n C dX1_placesIn_19 3 rfl ?_
      refine g_iadd C dX1_placesIn_20 ?_
      refine x1_ld2 C dX1_placesIn_21 (fun hF => ?_) hF
      refine g_bipush (v := nN) C dX1_placesIn_22 rfl ?_
      refine g_icmp_eq (tgt := 31) C dX1_placesIn_24 rfl (fun hc hF => ?_) (fun hc hF => ?_) hF
      · refine g_iconst (v := (nI 0)) C dX1_placesIn_31 rfl ?_
        refine g_iadd C dX1_placesIn_32 ?_
        refine g_istore_n (lv2 := [(2, .int (x2 + (nI 0))), (0, .ref h0), (1, .int x1), (3, .int x3)]) C dX1_placesIn_33 (Nat.le_of_ble_eq_true rfl) rfl ?_
        refine g_iinc (v := (x3 + nI 1)) (lv2 := [(3, .int (x3 + nI 1)), (2, .int (x2 + (nI 0))), (0, .ref h0), (1, .int x1)]) C dX1_placesIn_34 3 rfl rfl (Nat.le_of_ble_eq_true rfl) rfl ?_
        refine g_goto (tgt := 4) C dX1_placesIn_37 rfl ?_
        refine g_sub [2, 3, 1, 0] (lv2 := [(0, .ref h0), (1, .int x1), (2, .int (x2 + (nI 0))), (3, .int (x3 + nI 1))]) rfl ?_
        exact ih _ _ _ _ hF
      · refine g_iconst (v := (nI 1)) C dX1_placesIn_27 rfl ?_
        refine g_goto (tgt := 32) C dX1_placesIn_28 rfl ?_
        refine g_iadd C dX1_placesIn_32 ?_
        refine g_istore_n (lv2 := [(2, .int (x2 + (nI 1))), (0, .ref h0), (1, .int x1), (3, .int x3)]) C dX1_placesIn_33 (Nat.le_of_ble_eq_true rfl) rfl ?_
        refine g_iinc (v := (x3 + nI 1)) (lv2 := [(3, .int (x3 + nI 1)), (2, .int (x2 + (nI 1))), (0, .ref h0), (1, .int x1)]) C dX1_placesIn_34 3 rfl rfl (Nat.le_of_ble_eq_true rfl) rfl ?_
        refine g_goto (tgt := 4) C dX1_placesIn_37 rfl ?_
        refine g_sub [2, 3, 1, 0] (lv2 := [(0, .ref h0), (1, .int x1), (2, .int (x2 + (nI 1))), (3, .int (x3 + nI 1))]) rfl ?_
        exact ih _ _ _ _ hF
set_option maxRecDepth 100000 in
set_option maxHeartbeats 4000000 in
theorem kX1_placesIn (l : Launch) (D : va_G) (h0 : Nat) (E : EX) (x1 : Int32) (σ : SX) (r : Int32) (σ2 : SX) (hF : fX1_placesIn x1 σ = some (r, σ2)) : MI l D (tysX1 E) yX1_placesIn cX1_placesIn 4 (some .int) 0 0 [.ref h0, .int x1] (wX1 h0 E σ) (wX1 h0 E σ2) r := by
  refine g_enterI (own := RX1) (lv := [(0, .ref h0), (1, .int x1)]) (by decide +kernel) rfl (Nat.le_of_ble_eq_true rfl) rfl ?_
  intro p e s m args below meth c A C
  rw [fX1_placesIn] at hF
  refine g_iconst (v := (nI 0)) C dX1_placesIn_0 rfl ?_
  refine g_istore_n (lv2 := [(2, .int (nI 0)), (0, .ref h0), (1, .int x1)]) C dX1_placesIn_1 (Nat.le_of_ble_eq_true rfl) rfl ?_
  refine g_iconst (v := (nI 0)) C dX1_placesIn_2 rfl ?_
  refine g_istore_n (lv2 := [(3, .int (nI 0)), (2, .int (nI 0)), (0, .ref h0), (1, .int x1)]) C dX1_placesIn_3 (Nat.le_of_ble_eq_true rfl) rfl ?_
  refine g_sub [2, 3, 1, 0] (lv2 := [(0, .ref h0), (1, .int x1), (2, .int (nI 0)), (3, .int (nI 0))]) rfl ?_
  exact wX1_placesIn_L4 C FU _ _ _ _ hF
set_option maxRecDepth 100000 in
set_option maxHeartbeats 4000000 in
theorem kX1_ofFile (l : Launch) (D : va_G) (h0 : Nat) (E : EX) (x1 : Int32) (x2 : Int32) (σ : SX) (r : Int32) (σ2 : SX) (hF : fX1_ofFile x1 x2 σ = some (r, σ2)) : MI l D (tysX1 E) yX1_ofFile cX1_ofFile 3 (some .int) 3 69 [.ref h0, .int x1, .int x2] (wX1 h0 E σ) (wX1 h0 E σ2) r := by
  refine g_enterI (own := RX1) (lv := [(0, .ref h0), (1, .int x1), (2, .int x2)]) (by decide +kernel) rfl (Nat.le_of_ble_eq_true rfl) rfl ?_
  intro p e s m args below meth c A C
  rw [fX1_ofFile] at hF
  refine g_iload_n C dX1_ofFile_0 1 rfl ?_
  obtain ⟨r1, h1, hF⟩ := bs_some hF
  refine g_callS C (kX1_isFile l D _ _ h1) gS_X1_isFile hn_X1_isFile rfl (Nat.le_of_ble_eq_true rfl) (Nat.le_of_ble_eq_true rfl) rfl (Nat.le_of_ble_eq_true rfl) dX1_ofFile_1 ?_
  refine g_if_ne (tgt := 9) C dX1_ofFile_4 rfl (fun hc hF => ?_) (fun hc hF => ?_) hF
  · refine g_iload_n C dX1_ofFile_9 2 rfl ?_
    refine g_case (x2 = nI 0) (fun hc0 hF => ?_) (fun hc0 hF => ?_) hF
    · refine g_tswI (tgt := 40) C dX1_ofFile_10 hc0 (by decide) (by decide) rfl rfl ?_
      refine g_aload_n C dX1_ofFile_40 0 rfl ?_
      refine x1_get1 C dX1_ofFile_41 ?_
      refine g_iload_n C dX1_ofFile_44 1 rfl ?_
      refine x1_ld1 C dX1_ofFile_45 (fun hF => ?_) hF
      exact x1_iret C rfl dX1_ofFile_46 hF
    refine g_case (x2 = nI 1) (fun hc1 hF => ?_) (fun hc1 hF => ?_) hF
    · refine g_tswI (tgt := 47) C dX1_ofFile_10 hc1 (by decide) (by decide) rfl rfl ?_
      refine g_aload_n C dX1_ofFile_47 0 rfl ?_
      refine g_iload_n C dX1_ofFile_48 1 rfl ?_
      obtain ⟨r2, s2, h2, hF⟩ := bd_some hF
      refine g_callV C (kX1_placesIn l D h0 E _ _ _ _ h2) gV_X1_placesIn rfl rfl hn_X1_placesIn rfl (Nat.le_of_ble_eq_true rfl) (Nat.le_of_ble_eq_true rfl) rfl (Nat.le_of_ble_eq_true rfl) dX1_ofFile_49 ?_
      exact x1_iret C rfl dX1_ofFile_52 hF
    refine g_case (x2 = nI 2) (fun hc2 hF => ?_) (fun hc2 hF => ?_) hF
    · refine g_tswI (tgt := 53) C dX1_ofFile_10 hc2 (by decide) (by decide) rfl rfl ?_
      refine g_aload_n C dX1_ofFile_53 0 rfl ?_
      refine g_iload_n C dX1_ofFile_54 1 rfl ?_
      obtain ⟨r3, s3, h3, hF⟩ := bd_some hF
      refine g_callV C (kX1_sharedIn l D h0 E _ _ _ _ h3) gV_X1_sharedIn rfl rfl hn_X1_sharedIn rfl (Nat.le_of_ble_eq_true rfl) (Nat.le_of_ble_eq_true rfl) rfl (Nat.le_of_ble_eq_true rfl) dX1_ofFile_55 ?_
      exact x1_iret C rfl dX1_ofFile_58 hF
    refine g_case (x2 = nI 3) (fun hc3 hF => ?_) (fun hc3 hF => ?_) hF
    · refine g_tswI (tgt := 59) C dX1_ofFile_10 hc3 (by decide) (by decide) rfl rfl ?_
      refine g_aload_n C dX1_ofFile_59 0 rfl ?_
      refine g_iload_n C dX1_ofFile_60 1 rfl ?_
      obtain ⟨r4, s4, h4, hF⟩ := bd_some hF
      refine g_callV C (kX1_pieces l D h0 E _ _ _ _ h4) gV_X1_pieces rfl rfl hn_X1_pieces rfl (Nat.le_of_ble_eq_true rfl) (Nat.le_of_ble_eq_true rfl) rfl (Nat.le_of_ble_eq_true rfl) dX1_ofFile_61 ?_
      exact x1_iret C rfl dX1_ofFile_64 hF
    refine g_tswO (tgt := 65) C dX1_ofFile_10 (sw_out (hi := 3) (by decide) (fun j hj => by rcases (show j = 0 ∨ j = 1 ∨ j = 2 ∨ j = 3 by omega) with rfl | rfl | rfl | rfl <;> assumption)) rfl ?_
    refine g_bipush (v := (-2)) C dX1_ofFile_65 rfl ?_
    exact x1_iret C rfl dX1_ofFile_67 hF
  · refine g_iconst (v := (-1)) C dX1_ofFile_7 rfl ?_
    exact x1_iret C rfl dX1_ofFile_8 hF
set_option maxRecDepth 100000 in
set_option maxHeartbeats 4000000 in
theorem kX1_block (l : Launch) (D : va_G) (h0 : Nat) (E : EX) (x1 : Int32) (x2 : Int32) (σ : SX) (r : Int32) (σ2 : SX) (hF : fX1_block x1 x2 σ = some (r, σ2)) : MI l D (tysX1 E) yX1_block cX1_block 3 (some .int) 2 42 [.ref h0, .int x1, .int x2] (wX1 h0 E σ) (wX1 h0 E σ2) r := by
  refine g_enterI (own := RX1) (lv := [(0, .ref h0), (1, .int x1), (2, .int x2)]) (by decide +kernel) rfl (Nat.le_of_ble_eq_true rfl) rfl ?_
  intro p e s m args below meth c A C
  rw [fX1_block] at hF
  refine g_iload_n C dX1_block_0 1 rfl ?_
  obtain ⟨r1, h1, hF⟩ := bs_some hF
  refine g_callS C (kX1_isFile l D _ _ h1) gS_X1_isFile hn_X1_isFile rfl (Nat.le_of_ble_eq_true rfl) (Nat.le_of_ble_eq_true rfl) rfl (Nat.le_of_ble_eq_true rfl) dX1_block_1 ?_
  refine g_if_ne (tgt := 9) C dX1_block_4 rfl (fun hc hF => ?_) (fun hc hF => ?_) hF
  · refine g_iload_n C dX1_block_9 2 rfl ?_
    obtain ⟨r2, h2, hF⟩ := bs_some hF
    refine g_callS C (kX1_isPlace l D _ _ h2) gS_X1_isPlace hn_X1_isPlace rfl (Nat.le_of_ble_eq_true rfl) (Nat.le_of_ble_eq_true rfl) rfl (Nat.le_of_ble_eq_true rfl) dX1_block_10 ?_
    refine g_if_eq (tgt := 30) C dX1_block_13 rfl (fun hc hF => ?_) (fun hc hF => ?_) hF
    · refine g_bipush (v := (-2)) C dX1_block_30 rfl ?_
      exact x1_iret C rfl dX1_block_32 hF
    · refine g_aload_n C dX1_block_16 0 rfl ?_
      refine x1_get2 C dX1_block_17 ?_
      refine g_bipush (v := (nI 24)) C dX1_block_20 rfl ?_
      refine g_iload_n C dX1_block_22 1 rfl ?_
      refine g_imul C dX1_block_23 ?_
      refine g_iload_n C dX1_block_24 2 rfl ?_
      refine g_iadd C dX1_block_25 ?_
      refine x1_ld2 C dX1_block_26 (fun hF => ?_) hF
      refine g_goto (tgt := 32) C dX1_block_27 rfl ?_
      exact x1_iret C rfl dX1_block_32 hF
  · refine g_iconst (v := (-1)) C dX1_block_7 rfl ?_
    exact x1_iret C rfl dX1_block_8 hF
set_option maxRecDepth 100000 in
set_option maxHeartbeats 4000000 in
theorem wX1_lengthOfPiece_L2 {p : Program} {l : Launch} {e : Env} {s : State} {m : MethodId} {args : Array Value} {below : List Frame} {meth : Method} {c : Code} {A : Nat → Prop} {D : va_G} {h0 : Nat} {E : EX} {σ2 : SX} {r : Int32} (C : GC p { frames := 1, cells := 0, slots := 0, locals := 23 } s m args meth c A D cX1_lengthOfPiece 4 0 0 (tysX1 E) RX1 (some .int)) : ∀ (n : Nat) (x1 : Int32) (x2 : Int32) (x3 : Int32) (σ : SX), fX1_lengthOfPiece_L2 n x1 x2 x3 σ = some (r, σ2) → GW p l e { frames := 1, cells := 0, slots := 0, locals := 23 } s m args below meth c (QI D (wX1 h0 E σ2) r A below args s) A D 4 0 0 (wX1 h0 E σ) 2 [(0, .ref h0), (1, .int x1), (2, .int x2), (3, .int x3)] [] := by
  intro n
  induction n with
  | zero => intro x1 x2 x3 σ hF; simp only [fX1_lengthOfPiece_L2] at hF; cases hF
  | succ n ih =>
    intro x1 x2 x3 σ hF
    rw [fX1_lengthOfPiece_L2] at hF
    refine g_iload_n C dX1_lengthOfPiece_2 2 rfl ?_
    refine g_iload_n C dX1_lengthOfPiece_3 3 rfl ?_
    refine g_iadd C dX1_lengthOfPiece_4 ?_
    refine g_bipush (v := (nI 24)) C dX1_lengthOfPiece_5 rfl ?_
    refine g_icmp_ge (tgt := 45) C dX1_lengthOfPiece_7 rfl (fun hc hF => ?_) (fun hc hF => ?_) hF
    · refine g_iload_n C dX1_lengthOfPiece_45 3 rfl ?_
      exact x1_iret C rfl dX1_lengthOfPiece_46 hF
    · refine g_aload_n C dX1_lengthOfPiece_10 0 rfl ?_
      refine x1_get2 C dX1_lengthOfPiece_11 ?_
      refine g_bipush (v := (nI 24)) C dX1_lengthOfPiece_14 rfl ?_
      refine g_iload_n C dX1_lengthOfPiece_16 1 rfl ?_
      refine g_imul C dX1_lengthOfPiece_17 ?_
      refine g_iload_n C dX1_lengthOfPiece_18 2 rfl ?_
      refine g_iadd C dX1_lengthOfPiece_19 ?_
      refine g_iload_n C dX1_lengthOfPiece_20 3 rfl ?_
      refine g_iadd C dX1_lengthOfPiece_21 ?_
      refine x1_ld2 C dX1_lengthOfPiece_22 (fun hF => ?_) hF
      refine g_bipush (v := nN) C dX1_lengthOfPiece_23 rfl ?_
      refine g_icmp_eq (tgt := 45) C dX1_lengthOfPiece_25 rfl (fun hc hF => ?_) (fun hc hF => ?_) hF
      · refine g_iload_n C dX1_lengthOfPiece_45 3 rfl ?_
        exact x1_iret C rfl dX1_lengthOfPiece_46 hF
      · refine g_aload_n C dX1_lengthOfPiece_28 0 rfl ?_
        refine g_iload_n C dX1_lengthOfPiece_29 1 rfl ?_
        refine g_iload_n C dX1_lengthOfPiece_30 2 rfl ?_
        refine g_iload_n C dX1_lengthOfPiece_31 3 rfl ?_
        refine g_iadd C dX1_lengthOfPiece_32 ?_
        obtain ⟨r1, s1, h1, hF⟩ := bd_some hF
        refine g_callV C (kX1_beginsPiece l D h0 E _ _ _ _ _ h1) gV_X1_beginsPiece rfl rfl hn_X1_beginsPiece rfl (Nat.le_of_ble_eq_true rfl) (Nat.le_of_ble_eq_true rfl) rfl (Nat.le_of_ble_eq_true rfl) dX1_lengthOfPiece_33 ?_
        refine g_if_ne (tgt := 45) C dX1_lengthOfPiece_36 rfl (fun hc hF => ?_) (fun hc hF => ?_) hF
        · refine g_iload_n C dX1_lengthOfPiece_45 3 rfl ?_
          exact x1_iret C rfl dX1_lengthOfPiece_46 hF
        · refine g_iinc (v := (x3 + nI 1)) (lv2 := [(3, .int (x3 + nI 1)), (0, .ref h0), (1, .int x1), (2, .int x2)]) C dX1_lengthOfPiece_39 3 rfl rfl (Nat.le_of_ble_eq_true rfl) rfl ?_
          refine g_goto (tgt := 2) C dX1_lengthOfPiece_42 rfl ?_
          refine g_sub [1, 2, 3, 0] (lv2 := [(0, .ref h0), (1, .int x1), (2, .int x2), (3, .int (x3 + nI 1))]) rfl ?_
          exact ih _ _ _ _ hF
set_option maxRecDepth 100000 in
set_option maxHeartbeats 4000000 in
theorem kX1_lengthOfPiece (l : Launch) (D : va_G) (h0 : Nat) (E : EX) (x1 : Int32) (x2 : Int32) (σ : SX) (r : Int32) (σ2 : SX) (hF : fX1_lengthOfPiece x1 x2 σ = some (r, σ2)) : MI l D (tysX1 E) yX1_lengthOfPiece cX1_lengthOfPiece 4 (some .int) 1 23 [.ref h0, .int x1, .int x2] (wX1 h0 E σ) (wX1 h0 E σ2) r := by
  refine g_enterI (own := RX1) (lv := [(0, .ref h0), (1, .int x1), (2, .int x2)]) (by decide +kernel) rfl (Nat.le_of_ble_eq_true rfl) rfl ?_
  intro p e s m args below meth c A C
  rw [fX1_lengthOfPiece] at hF
  refine g_iconst (v := (nI 1)) C dX1_lengthOfPiece_0 rfl ?_
  refine g_istore_n (lv2 := [(3, .int (nI 1)), (0, .ref h0), (1, .int x1), (2, .int x2)]) C dX1_lengthOfPiece_1 (Nat.le_of_ble_eq_true rfl) rfl ?_
  refine g_sub [1, 2, 3, 0] (lv2 := [(0, .ref h0), (1, .int x1), (2, .int x2), (3, .int (nI 1))]) rfl ?_
  exact wX1_lengthOfPiece_L2 C FU _ _ _ _ hF
set_option maxRecDepth 100000 in
set_option maxHeartbeats 4000000 in
theorem wX1_piece_L34 {p : Program} {l : Launch} {e : Env} {s : State} {m : MethodId} {args : Array Value} {below : List Frame} {meth : Method} {c : Code} {A : Nat → Prop} {D : va_G} {h0 : Nat} {E : EX} {σ2 : SX} {r : Int32} (C : GC p { frames := 2, cells := 0, slots := 0, locals := 46 } s m args meth c A D cX1_piece 6 0 0 (tysX1 E) RX1 (some .int)) : ∀ (n : Nat) (x1 : Int32) (x2 : Int32) (x3 : Int32) (x4 : Int32) (x5 : Int32) (σ : SX), fX1_piece_L34 n x1 x2 x3 x4 x5 σ = some (r, σ2) → GW p l e { frames := 2, cells := 0, slots := 0, locals := 46 } s m args below meth c (QI D (wX1 h0 E σ2) r A below args s) A D 6 0 0 (wX1 h0 E σ) 34 [(0, .ref h0), (1, .int x1), (2, .int x2), (3, .int x3), (4, .int x4), (5, .int x5)] [] := by
  intro n
  induction n with
  | zero => intro x1 x2 x3 x4 x5 σ hF; simp only [fX1_piece_L34] at hF; cases hF
  | succ n ih =>
    intro x1 x2 x3 x4 x5 σ hF
    rw [fX1_piece_L34] at hF
    refine g_iload C dX1_piece_34 5 rfl ?_
    refine g_bipush (v := (nI 24)) C dX1_piece_36 rfl ?_
    refine g_icmp_ge (tgt := 103) C dX1_piece_38 rfl (fun hc hF => ?_) (fun hc hF => ?_) hF
    · refine g_bipush (v := nN) C dX1_piece_103 rfl ?_
      exact x1_iret C rfl dX1_piece_105 hF
    · refine g_aload_n C dX1_piece_41 0 rfl ?_
      refine g_iload_n C dX1_piece_42 1 rfl ?_
      refine g_iload C dX1_piece_43 5 rfl ?_
      obtain ⟨r1, s1, h1, hF⟩ := bd_some hF
      refine g_callV C (kX1_beginsPiece l D h0 E _ _ _ _ _ h1) gV_X1_beginsPiece rfl rfl hn_X1_beginsPiece rfl (Nat.le_of_ble_eq_true rfl) (Nat.le_of_ble_eq_true rfl) rfl (Nat.le_of_ble_eq_true rfl) dX1_piece_45 ?_
      refine g_if_eq (tgt := 97) C dX1_piece_48 rfl (fun hc hF => ?_) (fun hc hF => ?_) hF
      · refine g_iinc (v := (x5 + nI 1)) (lv2 := [(5, .int (x5 + nI 1)), (0, .ref h0), (1, .int x1), (2, .int x2), (3, .int x3), (4, .int x4)]) C dX1_piece_97 5 rfl rfl (Nat.le_of_ble_eq_true rfl) rfl ?_
        refine g_goto (tgt := 34) C dX1_piece_100 rfl ?_
        refine g_sub [1, 2, 3, 4, 5, 0] (lv2 := [(0, .ref h0), (1, .int x1), (2, .int x2), (3, .int x3), (4, .int x4), (5, .int (x5 + nI 1))]) rfl ?_
        exact ih _ _ _ _ _ _ hF
      · refine g_iload C dX1_piece_51 4 rfl ?_
        refine g_iload_n C dX1_piece_53 2 rfl ?_
        refine g_icmp_ne (tgt := 94) C dX1_piece_54 rfl (fun hc hF => ?_) (fun hc hF => ?_) hF
        · refine g_iinc (v := (x4 + nI 1)) (lv2 := [(4, .int (x4 + nI 1)), (0, .ref h0), (1, .int x1), (2, .int x2), (3, .int x3), (5, .int x5)]) C dX1_piece_94 4 rfl rfl (Nat.le_of_ble_eq_true rfl) rfl ?_
          refine g_iinc (v := (x5 + nI 1)) (lv2 := [(5, .int (x5 + nI 1)), (4, .int (x4 + nI 1)), (0, .ref h0), (1, .int x1), (2, .int x2), (3, .int x3)]) C dX1_piece_97 5 rfl rfl (Nat.le_of_ble_eq_true rfl) rfl ?_
          refine g_goto (tgt := 34) C dX1_piece_100 rfl ?_
          refine g_sub [2, 3, 4, 5, 1, 0] (lv2 := [(0, .ref h0), (1, .int x1), (2, .int x2), (3, .int x3), (4, .int (x4 + nI 1)), (5, .int (x5 + nI 1))]) rfl ?_
          exact ih _ _ _ _ _ _ hF
        · refine g_iload_n C dX1_piece_57 3 rfl ?_
          refine g_if_ne (tgt := 66) C dX1_piece_58 rfl (fun hc hF => ?_) (fun hc hF => ?_) hF
          · refine g_iload_n C dX1_piece_66 3 rfl ?_
            refine g_iconst (v := (nI 1)) C dX1_piece_67 rfl ?_
            refine g_icmp_ne (tgt := 86) C dX1_piece_68 rfl (fun hc hF => ?_) (fun hc hF => ?_) hF
            · refine g_aload_n C dX1_piece_86 0 rfl ?_
              refine g_iload_n C dX1_piece_87 1 rfl ?_
              refine g_iload C dX1_piece_88 5 rfl ?_
              obtain ⟨r2, s2, h2, hF⟩ := bd_some hF
              refine g_callV C (kX1_lengthOfPiece l D h0 E _ _ _ _ _ h2) gV_X1_lengthOfPiece rfl rfl hn_X1_lengthOfPiece rfl (Nat.le_of_ble_eq_true rfl) (Nat.le_of_ble_eq_true rfl) rfl (Nat.le_of_ble_eq_true rfl) dX1_piece_90 ?_
              exact x1_iret C rfl dX1_piece_93 hF
            · refine g_aload_n C dX1_piece_71 0 rfl ?_
              refine x1_get2 C dX1_piece_72 ?_
              refine g_bipush (v := (nI 24)) C dX1_piece_75 rfl ?_
              refine g_iload_n C dX1_piece_77 1 rfl ?_
              refine g_imul C dX1_piece_78 ?_
              refine g_iload C dX1_piece_79 5 rfl ?_
              refine g_iadd C dX1_piece_81 ?_
              refine x1_ld2 C dX1_piece_82 (fun hF => ?_) hF
              refine g_goto (tgt := 93) C dX1_piece_83 rfl ?_
              exact x1_iret C rfl dX1_piece_93 hF
          · refine g_iload C dX1_piece_61 5 rfl ?_
            refine g_goto (tgt := 93) C dX1_piece_63 rfl ?_
            exact x1_iret C rfl dX1_piece_93 hF
set_option maxRecDepth 100000 in
set_option maxHeartbeats 4000000 in
theorem kX1_piece (l : Launch) (D : va_G) (h0 : Nat) (E : EX) (x1 : Int32) (x2 : Int32) (x3 : Int32) (σ : SX) (r : Int32) (σ2 : SX) (hF : fX1_piece x1 x2 x3 σ = some (r, σ2)) : MI l D (tysX1 E) yX1_piece cX1_piece 6 (some .int) 2 46 [.ref h0, .int x1, .int x2, .int x3] (wX1 h0 E σ) (wX1 h0 E σ2) r := by
  refine g_enterI (own := RX1) (lv := [(0, .ref h0), (1, .int x1), (2, .int x2), (3, .int x3)]) (by decide +kernel) rfl (Nat.le_of_ble_eq_true rfl) rfl ?_
  intro p e s m args below meth c A C
  rw [fX1_piece] at hF
  refine g_iload_n C dX1_piece_0 1 rfl ?_
  obtain ⟨r1, h1, hF⟩ := bs_some hF
  refine g_callS C (kX1_isFile l D _ _ h1) gS_X1_isFile hn_X1_isFile rfl (Nat.le_of_ble_eq_true rfl) (Nat.le_of_ble_eq_true rfl) rfl (Nat.le_of_ble_eq_true rfl) dX1_piece_1 ?_
  refine g_if_ne (tgt := 9) C dX1_piece_4 rfl (fun hc hF => ?_) (fun hc hF => ?_) hF
  · refine g_iload_n C dX1_piece_9 2 rfl ?_
    obtain ⟨r2, h2, hF⟩ := bs_some hF
    refine g_callS C (kX1_isPlace l D _ _ h2) gS_X1_isPlace hn_X1_isPlace rfl (Nat.le_of_ble_eq_true rfl) (Nat.le_of_ble_eq_true rfl) rfl (Nat.le_of_ble_eq_true rfl) dX1_piece_10 ?_
    refine g_if_eq (tgt := 25) C dX1_piece_13 rfl (fun hc hF => ?_) (fun hc hF => ?_) hF
    · refine g_bipush (v := (-2)) C dX1_piece_25 rfl ?_
      exact x1_iret C rfl dX1_piece_27 hF
    · refine g_iload_n C dX1_piece_16 3 rfl ?_
      refine g_iconst (v := (nI 0)) C dX1_piece_17 rfl ?_
      refine g_iconst (v := (nI 2)) C dX1_piece_18 rfl ?_
      obtain ⟨r3, h3, hF⟩ := bs_some hF
      refine g_callS C (kX1_within l D _ _ _ _ h3) gS_X1_within hn_X1_within rfl (Nat.le_of_ble_eq_true rfl) (Nat.le_of_ble_eq_true rfl) rfl (Nat.le_of_ble_eq_true rfl) dX1_piece_19 ?_
      refine g_if_ne (tgt := 28) C dX1_piece_22 rfl (fun hc hF => ?_) (fun hc hF => ?_) hF
      · refine g_iconst (v := (nI 0)) C dX1_piece_28 rfl ?_
        refine g_istore (lv2 := [(4, .int (nI 0)), (0, .ref h0), (1, .int x1), (2, .int x2), (3, .int x3)]) C dX1_piece_29 (Nat.le_of_ble_eq_true rfl) rfl ?_
        refine g_iconst (v := (nI 0)) C dX1_piece_31 rfl ?_
        refine g_istore (lv2 := [(5, .int (nI 0)), (4, .int (nI 0)), (0, .ref h0), (1, .int x1), (2, .int x2), (3, .int x3)]) C dX1_piece_32 (Nat.le_of_ble_eq_true rfl) rfl ?_
        refine g_sub [2, 3, 4, 5, 1, 0] (lv2 := [(0, .ref h0), (1, .int x1), (2, .int x2), (3, .int x3), (4, .int (nI 0)), (5, .int (nI 0))]) rfl ?_
        exact wX1_piece_L34 C FU _ _ _ _ _ _ hF
      · refine g_bipush (v := (-2)) C dX1_piece_25 rfl ?_
        exact x1_iret C rfl dX1_piece_27 hF
  · refine g_iconst (v := (-1)) C dX1_piece_7 rfl ?_
    exact x1_iret C rfl dX1_piece_8 hF
set_option maxRecDepth 100000 in
set_option maxHeartbeats 4000000 in
theorem wX1_seek_L25 {p : Program} {l : Launch} {e : Env} {s : State} {m : MethodId} {args : Array Value} {below : List Frame} {meth : Method} {c : Code} {A : Nat → Prop} {D : va_G} {h0 : Nat} {E : EX} {σ2 : SX} {r : Int32} (C : GC p { frames := 2, cells := 0, slots := 0, locals := 42 } s m args meth c A D cX1_seek 5 0 0 (tysX1 E) RX1 (some .int)) : ∀ (n : Nat) (x1 : Int32) (x2 : Int32) (x3 : Int32) (x4 : Int32) (σ : SX), fX1_seek_L25 n x1 x2 x3 x4 σ = some (r, σ2) → GW p l e { frames := 2, cells := 0, slots := 0, locals := 42 } s m args below meth c (QI D (wX1 h0 E σ2) r A below args s) A D 5 0 0 (wX1 h0 E σ) 25 [(0, .ref h0), (1, .int x1), (2, .int x2), (3, .int x3), (4, .int x4)] [] := by
  intro n
  induction n with
  | zero => intro x1 x2 x3 x4 σ hF; simp only [fX1_seek_L25] at hF; cases hF
  | succ n ih =>
    intro x1 x2 x3 x4 σ hF
    rw [fX1_seek_L25] at hF
    refine g_iload C dX1_seek_25 4 rfl ?_
    refine g_aload_n C dX1_seek_27 0 rfl ?_
    refine x1_get1 C dX1_seek_28 ?_
    refine g_iload_n C dX1_seek_31 1 rfl ?_
    refine x1_ld1 C dX1_seek_32 (fun hF => ?_) hF
    refine g_icmp_ge (tgt := 73) C dX1_seek_33 rfl (fun hc hF => ?_) (fun hc hF => ?_) hF
    · refine g_iload_n C dX1_seek_73 3 rfl ?_
      refine g_if_eq (tgt := 82) C dX1_seek_74 rfl (fun hc hF => ?_) (fun hc hF => ?_) hF
      · refine g_iload_n C dX1_seek_82 2 rfl ?_
        refine g_aload_n C dX1_seek_83 0 rfl ?_
        refine x1_get1 C dX1_seek_84 ?_
        refine g_iload_n C dX1_seek_87 1 rfl ?_
        refine x1_ld1 C dX1_seek_88 (fun hF => ?_) hF
        refine g_icmp_le (tgt := 96) C dX1_seek_89 rfl (fun hc hF => ?_) (fun hc hF => ?_) hF
        · refine g_aload_n C dX1_seek_96 0 rfl ?_
          refine x1_get1 C dX1_seek_97 ?_
          refine g_iload_n C dX1_seek_100 1 rfl ?_
          refine x1_ld1 C dX1_seek_101 (fun hF => ?_) hF
          exact x1_iret C rfl dX1_seek_102 hF
        · refine g_iload_n C dX1_seek_92 2 rfl ?_
          refine g_goto (tgt := 102) C dX1_seek_93 rfl ?_
          exact x1_iret C rfl dX1_seek_102 hF
      · refine g_bipush (v := nN) C dX1_seek_77 rfl ?_
        refine g_goto (tgt := 102) C dX1_seek_79 rfl ?_
        exact x1_iret C rfl dX1_seek_102 hF
    · refine g_aload_n C dX1_seek_36 0 rfl ?_
      refine x1_get2 C dX1_seek_37 ?_
      refine g_bipush (v := (nI 24)) C dX1_seek_40 rfl ?_
      refine g_iload_n C dX1_seek_42 1 rfl ?_
      refine g_imul C dX1_seek_43 ?_
      refine g_iload C dX1_seek_44 4 rfl ?_
      refine g_iconst (v := (nI 4)) C dX1_seek_46 rfl ?_
      refine g_idiv C dX1_seek_47 (by decide) ?_
      refine g_iadd C dX1_seek_48 ?_
      refine x1_ld2 C dX1_seek_49 (fun hF => ?_) hF
      refine g_bipush (v := nN) C dX1_seek_50 rfl ?_
      refine g_icmp_eq (tgt := 59) C dX1_seek_52 rfl (fun hc hF => ?_) (fun hc hF => ?_) hF
      · refine g_iconst (v := (nI 0)) C dX1_seek_59 rfl ?_
        refine g_iload_n C dX1_seek_60 3 rfl ?_
        refine g_icmp_ne (tgt := 67) C dX1_seek_61 rfl (fun hc hF => ?_) (fun hc hF => ?_) hF
        · refine g_iinc (v := (x4 + nI 1)) (lv2 := [(4, .int (x4 + nI 1)), (0, .ref h0), (1, .int x1), (2, .int x2), (3, .int x3)]) C dX1_seek_67 4 rfl rfl (Nat.le_of_ble_eq_true rfl) rfl ?_
          refine g_goto (tgt := 25) C dX1_seek_70 rfl ?_
          refine g_sub [1, 2, 3, 4, 0] (lv2 := [(0, .ref h0), (1, .int x1), (2, .int x2), (3, .int x3), (4, .int (x4 + nI 1))]) rfl ?_
          exact ih _ _ _ _ _ hF
        · refine g_iload C dX1_seek_64 4 rfl ?_
          exact x1_iret C rfl dX1_seek_66 hF
      · refine g_iconst (v := (nI 1)) C dX1_seek_55 rfl ?_
        refine g_goto (tgt := 60) C dX1_seek_56 rfl ?_
        refine g_iload_n C dX1_seek_60 3 rfl ?_
        refine g_icmp_ne (tgt := 67) C dX1_seek_61 rfl (fun hc hF => ?_) (fun hc hF => ?_) hF
        · refine g_iinc (v := (x4 + nI 1)) (lv2 := [(4, .int (x4 + nI 1)), (0, .ref h0), (1, .int x1), (2, .int x2), (3, .int x3)]) C dX1_seek_67 4 rfl rfl (Nat.le_of_ble_eq_true rfl) rfl ?_
          refine g_goto (tgt := 25) C dX1_seek_70 rfl ?_
          refine g_sub [1, 2, 3, 4, 0] (lv2 := [(0, .ref h0), (1, .int x1), (2, .int x2), (3, .int x3), (4, .int (x4 + nI 1))]) rfl ?_
          exact ih _ _ _ _ _ hF
        · refine g_iload C dX1_seek_64 4 rfl ?_
          exact x1_iret C rfl dX1_seek_66 hF
set_option maxRecDepth 100000 in
set_option maxHeartbeats 4000000 in
theorem kX1_seek (l : Launch) (D : va_G) (h0 : Nat) (E : EX) (x1 : Int32) (x2 : Int32) (x3 : Int32) (σ : SX) (r : Int32) (σ2 : SX) (hF : fX1_seek x1 x2 x3 σ = some (r, σ2)) : MI l D (tysX1 E) yX1_seek cX1_seek 5 (some .int) 2 42 [.ref h0, .int x1, .int x2, .int x3] (wX1 h0 E σ) (wX1 h0 E σ2) r := by
  refine g_enterI (own := RX1) (lv := [(0, .ref h0), (1, .int x1), (2, .int x2), (3, .int x3)]) (by decide +kernel) rfl (Nat.le_of_ble_eq_true rfl) rfl ?_
  intro p e s m args below meth c A C
  rw [fX1_seek] at hF
  refine g_iload_n C dX1_seek_0 1 rfl ?_
  obtain ⟨r1, h1, hF⟩ := bs_some hF
  refine g_callS C (kX1_isFile l D _ _ h1) gS_X1_isFile hn_X1_isFile rfl (Nat.le_of_ble_eq_true rfl) (Nat.le_of_ble_eq_true rfl) rfl (Nat.le_of_ble_eq_true rfl) dX1_seek_1 ?_
  refine g_if_ne (tgt := 9) C dX1_seek_4 rfl (fun hc hF => ?_) (fun hc hF => ?_) hF
  · refine g_iload_n C dX1_seek_9 2 rfl ?_
    refine g_iconst (v := (nI 0)) C dX1_seek_10 rfl ?_
    refine g_bipush (v := (nI 96)) C dX1_seek_11 rfl ?_
    obtain ⟨r2, h2, hF⟩ := bs_some hF
    refine g_callS C (kX1_within l D _ _ _ _ h2) gS_X1_within hn_X1_within rfl (Nat.le_of_ble_eq_true rfl) (Nat.le_of_ble_eq_true rfl) rfl (Nat.le_of_ble_eq_true rfl) dX1_seek_13 ?_
    refine g_if_ne (tgt := 22) C dX1_seek_16 rfl (fun hc hF => ?_) (fun hc hF => ?_) hF
    · refine g_iload_n C dX1_seek_22 2 rfl ?_
      refine g_istore (lv2 := [(4, .int x2), (0, .ref h0), (1, .int x1), (2, .int x2), (3, .int x3)]) C dX1_seek_23 (Nat.le_of_ble_eq_true rfl) rfl ?_
      refine g_sub [1, 2, 3, 4, 0] (lv2 := [(0, .ref h0), (1, .int x1), (2, .int x2), (3, .int x3), (4, .int x2)]) rfl ?_
      exact wX1_seek_L25 C FU _ _ _ _ _ hF
    · refine g_bipush (v := (-2)) C dX1_seek_19 rfl ?_
      exact x1_iret C rfl dX1_seek_21 hF
  · refine g_iconst (v := (-1)) C dX1_seek_7 rfl ?_
    exact x1_iret C rfl dX1_seek_8 hF
set_option maxRecDepth 100000 in
set_option maxHeartbeats 4000000 in
theorem kX1_count (l : Launch) (D : va_G) (h0 : Nat) (E : EX) (x1 : Int32) (σ : SX) (r : Int32) (σ2 : SX) (hF : fX1_count x1 σ = some (r, σ2)) : MI l D (tysX1 E) yX1_count cX1_count 2 (some .int) 1 23 [.ref h0, .int x1] (wX1 h0 E σ) (wX1 h0 E σ2) r := by
  refine g_enterI (own := RX1) (lv := [(0, .ref h0), (1, .int x1)]) (by decide +kernel) rfl (Nat.le_of_ble_eq_true rfl) rfl ?_
  intro p e s m args below meth c A C
  rw [fX1_count] at hF
  refine g_iload_n C dX1_count_0 1 rfl ?_
  refine g_iconst (v := (nI 0)) C dX1_count_1 rfl ?_
  refine g_bipush (v := (nI 47)) C dX1_count_2 rfl ?_
  obtain ⟨r1, h1, hF⟩ := bs_some hF
  refine g_callS C (kX1_within l D _ _ _ _ h1) gS_X1_within hn_X1_within rfl (Nat.le_of_ble_eq_true rfl) (Nat.le_of_ble_eq_true rfl) rfl (Nat.le_of_ble_eq_true rfl) dX1_count_4 ?_
  refine g_if_eq (tgt := 18) C dX1_count_7 rfl (fun hc hF => ?_) (fun hc hF => ?_) hF
  · refine g_bipush (v := (-2)) C dX1_count_18 rfl ?_
    exact x1_iret C rfl dX1_count_20 hF
  · refine g_aload_n C dX1_count_10 0 rfl ?_
    refine g_iload_n C dX1_count_11 1 rfl ?_
    obtain ⟨r2, s2, h2, hF⟩ := bd_some hF
    refine g_callV C (kX1_countOf l D h0 E _ _ _ _ h2) gV_X1_countOf rfl rfl hn_X1_countOf rfl (Nat.le_of_ble_eq_true rfl) (Nat.le_of_ble_eq_true rfl) rfl (Nat.le_of_ble_eq_true rfl) dX1_count_12 ?_
    refine g_goto (tgt := 20) C dX1_count_15 rfl ?_
    exact x1_iret C rfl dX1_count_20 hF
set_option maxRecDepth 100000 in
set_option maxHeartbeats 4000000 in
theorem kX1_beginsRange (l : Launch) (D : va_G) (h0 : Nat) (E : EX) (x1 : Int32) (x2 : Int32) (σ : SX) (r : Int32) (σ2 : SX) (hF : fX1_beginsRange x1 x2 σ = some (r, σ2)) : MI l D (tysX1 E) yX1_beginsRange cX1_beginsRange 4 (some .boolean) 1 23 [.ref h0, .int x1, .int x2] (wX1 h0 E σ) (wX1 h0 E σ2) r := by
  refine g_enterI (own := RX1) (lv := [(0, .ref h0), (1, .int x1), (2, .int x2)]) (by decide +kernel) rfl (Nat.le_of_ble_eq_true rfl) rfl ?_
  intro p e s m args below meth c A C
  rw [fX1_beginsRange] at hF
  refine g_aload_n C dX1_beginsRange_0 0 rfl ?_
  refine g_iload_n C dX1_beginsRange_1 1 rfl ?_
  obtain ⟨r1, s1, h1, hF⟩ := bd_some hF
  refine g_callV C (kX1_countOf l D h0 E _ _ _ _ h1) gV_X1_countOf rfl rfl hn_X1_countOf rfl (Nat.le_of_ble_eq_true rfl) (Nat.le_of_ble_eq_true rfl) rfl (Nat.le_of_ble_eq_true rfl) dX1_beginsRange_2 ?_
  refine g_if_le (tgt := 12) C dX1_beginsRange_5 rfl (fun hc hF => ?_) (fun hc hF => ?_) hF
  · refine g_iconst (v := (nI 0)) C dX1_beginsRange_12 rfl ?_
    refine g_iload_n C dX1_beginsRange_13 2 rfl ?_
    refine g_icmp_ne (tgt := 21) C dX1_beginsRange_14 rfl (fun hc hF => ?_) (fun hc hF => ?_) hF
    · refine g_iconst (v := (nI 0)) C dX1_beginsRange_21 rfl ?_
      refine g_istore_n (lv2 := [(3, .int (nI 0)), (0, .ref h0), (1, .int x1), (2, .int x2)]) C dX1_beginsRange_22 (Nat.le_of_ble_eq_true rfl) rfl ?_
      refine g_iload_n C dX1_beginsRange_23 0 rfl ?_
      refine g_if_eq (tgt := 50) C dX1_beginsRange_24 rfl (fun hc hF => ?_) (fun hc hF => ?_) hF
      · refine g_iconst (v := (nI 0)) C dX1_beginsRange_50 rfl ?_
        exact x1_zret C rfl rfl dX1_beginsRange_51 hF
      · refine g_iload_n C dX1_beginsRange_27 2 rfl ?_
        refine g_if_eq (tgt := 46) C dX1_beginsRange_28 rfl (fun hc hF => ?_) (fun hc hF => ?_) hF
        · refine g_iconst (v := (nI 1)) C dX1_beginsRange_46 rfl ?_
          refine g_goto (tgt := 51) C dX1_beginsRange_47 rfl ?_
          exact x1_zret C rfl rfl dX1_beginsRange_51 hF
        · refine g_aload_n C dX1_beginsRange_31 1 rfl ?_
          refine g_iload_n C dX1_beginsRange_32 2 rfl ?_
          refine g_iconst (v := (nI 1)) C dX1_beginsRange_33 rfl ?_
          refine g_isub C dX1_beginsRange_34 ?_
          obtain ⟨r2, s2, h2, hF⟩ := bd_some hF
          refine g_callV C (kX1_countOf l D h0 E _ _ _ _ h2) gV_X1_countOf rfl rfl hn_X1_countOf rfl (Nat.le_of_ble_eq_true rfl) (Nat.le_of_ble_eq_true rfl) rfl (Nat.le_of_ble_eq_true rfl) dX1_beginsRange_35 ?_
          refine g_aload_n C dX1_beginsRange_38 1 rfl ?_
          refine g_iload_n C dX1_beginsRange_39 2 rfl ?_
          obtain ⟨r3, s3, h3, hF⟩ := bd_some hF
          refine g_callV C (kX1_countOf l D h0 E _ _ _ _ h3) gV_X1_countOf rfl rfl hn_X1_countOf rfl (Nat.le_of_ble_eq_true rfl) (Nat.le_of_ble_eq_true rfl) rfl (Nat.le_of_ble_eq_true rfl) dX1_beginsRange_40 ?_
          refine g_icmp_eq (tgt := 50) C dX1_beginsRange_43 rfl (fun hc hF => ?_) (fun hc hF => ?_) hF
          · refine g_iconst (v := (nI 0)) C dX1_beginsRange_50 rfl ?_
            exact x1_zret C rfl rfl dX1_beginsRange_51 hF
          · refine g_iconst (v := (nI 1)) C dX1_beginsRange_46 rfl ?_
            refine g_goto (tgt := 51) C dX1_beginsRange_47 rfl ?_
            exact x1_zret C rfl rfl dX1_beginsRange_51 hF
    · refine g_iconst (v := (nI 1)) C dX1_beginsRange_17 rfl ?_
      refine g_goto (tgt := 22) C dX1_beginsRange_18 rfl ?_
      refine g_istore_n (lv2 := [(3, .int (nI 1)), (0, .ref h0), (1, .int x1), (2, .int x2)]) C dX1_beginsRange_22 (Nat.le_of_ble_eq_true rfl) rfl ?_
      refine g_iload_n C dX1_beginsRange_23 0 rfl ?_
      refine g_if_eq (tgt := 50) C dX1_beginsRange_24 rfl (fun hc hF => ?_) (fun hc hF => ?_) hF
      · refine g_iconst (v := (nI 0)) C dX1_beginsRange_50 rfl ?_
        exact x1_zret C rfl rfl dX1_beginsRange_51 hF
      · refine g_iload_n C dX1_beginsRange_27 2 rfl ?_
        refine g_if_eq (tgt := 46) C dX1_beginsRange_28 rfl (fun hc hF => ?_) (fun hc hF => ?_) hF
        · refine g_iconst (v := (nI 1)) C dX1_beginsRange_46 rfl ?_
          refine g_goto (tgt := 51) C dX1_beginsRange_47 rfl ?_
          exact x1_zret C rfl rfl dX1_beginsRange_51 hF
        · refine g_aload_n C dX1_beginsRange_31 1 rfl ?_
          refine g_iload_n C dX1_beginsRange_32 2 rfl ?_
          refine g_iconst (v := (nI 1)) C dX1_beginsRange_33 rfl ?_
          refine g_isub C dX1_beginsRange_34 ?_
          obtain ⟨r4, s4, h4, hF⟩ := bd_some hF
          refine g_callV C (kX1_countOf l D h0 E _ _ _ _ h4) gV_X1_countOf rfl rfl hn_X1_countOf rfl (Nat.le_of_ble_eq_true rfl) (Nat.le_of_ble_eq_true rfl) rfl (Nat.le_of_ble_eq_true rfl) dX1_beginsRange_35 ?_
          refine g_aload_n C dX1_beginsRange_38 1 rfl ?_
          refine g_iload_n C dX1_beginsRange_39 2 rfl ?_
          obtain ⟨r5, s5, h5, hF⟩ := bd_some hF
          refine g_callV C (kX1_countOf l D h0 E _ _ _ _ h5) gV_X1_countOf rfl rfl hn_X1_countOf rfl (Nat.le_of_ble_eq_true rfl) (Nat.le_of_ble_eq_true rfl) rfl (Nat.le_of_ble_eq_true rfl) dX1_beginsRange_40 ?_
          refine g_icmp_eq (tgt := 50) C dX1_beginsRange_43 rfl (fun hc hF => ?_) (fun hc hF => ?_) hF
          · refine g_iconst (v := (nI 0)) C dX1_beginsRange_50 rfl ?_
            exact x1_zret C rfl rfl dX1_beginsRange_51 hF
          · refine g_iconst (v := (nI 1)) C dX1_beginsRange_46 rfl ?_
            refine g_goto (tgt := 51) C dX1_beginsRange_47 rfl ?_
            exact x1_zret C rfl rfl dX1_beginsRange_51 hF
  · refine g_iconst (v := (nI 1)) C dX1_beginsRange_8 rfl ?_
    refine g_goto (tgt := 13) C dX1_beginsRange_9 rfl ?_
    refine g_iload_n C dX1_beginsRange_13 2 rfl ?_
    refine g_icmp_ne (tgt := 21) C dX1_beginsRange_14 rfl (fun hc hF => ?_) (fun hc hF => ?_) hF
    · refine g_iconst (v := (nI 0)) C dX1_beginsRange_21 rfl ?_
      refine g_istore_n (lv2 := [(3, .int (nI 0)), (0, .ref h0), (1, .int x1), (2, .int x2)]) C dX1_beginsRange_22 (Nat.le_of_ble_eq_true rfl) rfl ?_
      refine g_iload_n C dX1_beginsRange_23 0 rfl ?_
      refine g_if_eq (tgt := 50) C dX1_beginsRange_24 rfl (fun hc hF => ?_) (fun hc hF => ?_) hF
      · refine g_iconst (v := (nI 0)) C dX1_beginsRange_50 rfl ?_
        exact x1_zret C rfl rfl dX1_beginsRange_51 hF
      · refine g_iload_n C dX1_beginsRange_27 2 rfl ?_
        refine g_if_eq (tgt := 46) C dX1_beginsRange_28 rfl (fun hc hF => ?_) (fun hc hF => ?_) hF
        · refine g_iconst (v := (nI 1)) C dX1_beginsRange_46 rfl ?_
          refine g_goto (tgt := 51) C dX1_beginsRange_47 rfl ?_
          exact x1_zret C rfl rfl dX1_beginsRange_51 hF
        · refine g_aload_n C dX1_beginsRange_31 1 rfl ?_
          refine g_iload_n C dX1_beginsRange_32 2 rfl ?_
          refine g_iconst (v := (nI 1)) C dX1_beginsRange_33 rfl ?_
          refine g_isub C dX1_beginsRange_34 ?_
          obtain ⟨r6, s6, h6, hF⟩ := bd_some hF
          refine g_callV C (kX1_countOf l D h0 E _ _ _ _ h6) gV_X1_countOf rfl rfl hn_X1_countOf rfl (Nat.le_of_ble_eq_true rfl) (Nat.le_of_ble_eq_true rfl) rfl (Nat.le_of_ble_eq_true rfl) dX1_beginsRange_35 ?_
          refine g_aload_n C dX1_beginsRange_38 1 rfl ?_
          refine g_iload_n C dX1_beginsRange_39 2 rfl ?_
          obtain ⟨r7, s7, h7, hF⟩ := bd_some hF
          refine g_callV C (kX1_countOf l D h0 E _ _ _ _ h7) gV_X1_countOf rfl rfl hn_X1_countOf rfl (Nat.le_of_ble_eq_true rfl) (Nat.le_of_ble_eq_true rfl) rfl (Nat.le_of_ble_eq_true rfl) dX1_beginsRange_40 ?_
          refine g_icmp_eq (tgt := 50) C dX1_beginsRange_43 rfl (fun hc hF => ?_) (fun hc hF => ?_) hF
          · refine g_iconst (v := (nI 0)) C dX1_beginsRange_50 rfl ?_
            exact x1_zret C rfl rfl dX1_beginsRange_51 hF
          · refine g_iconst (v := (nI 1)) C dX1_beginsRange_46 rfl ?_
            refine g_goto (tgt := 51) C dX1_beginsRange_47 rfl ?_
            exact x1_zret C rfl rfl dX1_beginsRange_51 hF
    · refine g_iconst (v := (nI 1)) C dX1_beginsRange_17 rfl ?_
      refine g_goto (tgt := 22) C dX1_beginsRange_18 rfl ?_
      refine g_istore_n (lv2 := [(3, .int (nI 1)), (0, .ref h0), (1, .int x1), (2, .int x2)]) C dX1_beginsRange_22 (Nat.le_of_ble_eq_true rfl) rfl ?_
      refine g_iload_n C dX1_beginsRange_23 0 rfl ?_
      refine g_if_eq (tgt := 50) C dX1_beginsRange_24 rfl (fun hc hF => ?_) (fun hc hF => ?_) hF
      · refine g_iconst (v := (nI 0)) C dX1_beginsRange_50 rfl ?_
        exact x1_zret C rfl rfl dX1_beginsRange_51 hF
      · refine g_iload_n C dX1_beginsRange_27 2 rfl ?_
        refine g_if_eq (tgt := 46) C dX1_beginsRange_28 rfl (fun hc hF => ?_) (fun hc hF => ?_) hF
        · refine g_iconst (v := (nI 1)) C dX1_beginsRange_46 rfl ?_
          refine g_goto (tgt := 51) C dX1_beginsRange_47 rfl ?_
          exact x1_zret C rfl rfl dX1_beginsRange_51 hF
        · refine g_aload_n C dX1_beginsRange_31 1 rfl ?_
          refine g_iload_n C dX1_beginsRange_32 2 rfl ?_
          refine g_iconst (v := (nI 1)) C dX1_beginsRange_33 rfl ?_
          refine g_isub C dX1_beginsRange_34 ?_
          obtain ⟨r8, s8, h8, hF⟩ := bd_some hF
          refine g_callV C (kX1_countOf l D h0 E _ _ _ _ h8) gV_X1_countOf rfl rfl hn_X1_countOf rfl (Nat.le_of_ble_eq_true rfl) (Nat.le_of_ble_eq_true rfl) rfl (Nat.le_of_ble_eq_true rfl) dX1_beginsRange_35 ?_
          refine g_aload_n C dX1_beginsRange_38 1 rfl ?_
          refine g_iload_n C dX1_beginsRange_39 2 rfl ?_
          obtain ⟨r9, s9, h9, hF⟩ := bd_some hF
          refine g_callV C (kX1_countOf l D h0 E _ _ _ _ h9) gV_X1_countOf rfl rfl hn_X1_countOf rfl (Nat.le_of_ble_eq_true rfl) (Nat.le_of_ble_eq_true rfl) rfl (Nat.le_of_ble_eq_true rfl) dX1_beginsRange_40 ?_
          refine g_icmp_eq (tgt := 50) C dX1_beginsRange_43 rfl (fun hc hF => ?_) (fun hc hF => ?_) hF
          · refine g_iconst (v := (nI 0)) C dX1_beginsRange_50 rfl ?_
            exact x1_zret C rfl rfl dX1_beginsRange_51 hF
          · refine g_iconst (v := (nI 1)) C dX1_beginsRange_46 rfl ?_
            refine g_goto (tgt := 51) C dX1_beginsRange_47 rfl ?_
            exact x1_zret C rfl rfl dX1_beginsRange_51 hF
set_option maxRecDepth 100000 in
set_option maxHeartbeats 4000000 in
theorem wX1_ranges_L4 {p : Program} {l : Launch} {e : Env} {s : State} {m : MethodId} {args : Array Value} {below : List Frame} {meth : Method} {c : Code} {A : Nat → Prop} {D : va_G} {h0 : Nat} {E : EX} {σ2 : SX} {r : Int32} (C : GC p { frames := 2, cells := 0, slots := 0, locals := 46 } s m args meth c A D cX1_ranges 4 0 0 (tysX1 E) RX1 (some .int)) : ∀ (n : Nat) (x1 : Int32) (x2 : Int32) (x3 : Int32) (σ : SX), fX1_ranges_L4 n x1 x2 x3 σ = some (r, σ2) → GW p l e { frames := 2, cells := 0, slots := 0, locals := 46 } s m args below meth c (QI D (wX1 h0 E σ2) r A below args s) A D 4 0 0 (wX1 h0 E σ) 4 [(0, .ref h0), (1, .int x1), (2, .int x2), (3, .int x3)] [] := by
  intro n
  induction n with
  | zero => intro x1 x2 x3 σ hF; simp only [fX1_ranges_L4] at hF; cases hF
  | succ n ih =>
    intro x1 x2 x3 σ hF
    rw [fX1_ranges_L4] at hF
    refine g_iload_n C dX1_ranges_4 3 rfl ?_
    refine g_bipush (v := (nI 48)) C dX1_ranges_5 rfl ?_
    refine g_icmp_ge (tgt := 33) C dX1_ranges_7 rfl (fun hc hF => ?_) (fun hc hF => ?_) hF
    · refine g_iload_n C dX1_ranges_33 2 rfl ?_
      exact x1_iret C rfl dX1_ranges_34 hF
    · refine g_iload_n C dX1_ranges_10 2 rfl ?_
      refine g_aload_n C dX1_ranges_11 0 rfl ?_
      refine g_iload_n C dX1_ranges_12 3 rfl ?_
      refine g_iload_n C dX1_ranges_13 1 rfl ?_
      obtain ⟨r1, s1, h1, hF⟩ := bd_some hF
      refine g_callV C (kX1_beginsRange l D h0 E _ _ _ _ _ h1) gV_X1_beginsRange rfl rfl hn_X1_beginsRange rfl (Nat.le_of_ble_eq_true rfl) (Nat.le_of_ble_eq_true rfl) rfl (Nat.le_of_ble_eq_true rfl) dX1_ranges_14 ?_
      refine g_if_eq (tgt := 24) C dX1_ranges_17 rfl (fun hc hF => ?_) (fun hc hF => ?_) hF
      · refine g_iconst (v := (nI 0)) C dX1_ranges_24 rfl ?_
        refine g_iadd C dX1_ranges_25 ?_
        refine g_istore_n (lv2 := [(2, .int (x2 + (nI 0))), (0, .ref h0), (1, .int x1), (3, .int x3)]) C dX1_ranges_26 (Nat.le_of_ble_eq_true rfl) rfl ?_
        refine g_iinc (v := (x3 + nI 1)) (lv2 := [(3, .int (x3 + nI 1)), (2, .int (x2 + (nI 0))), (0, .ref h0), (1, .int x1)]) C dX1_ranges_27 3 rfl rfl (Nat.le_of_ble_eq_true rfl) rfl ?_
        refine g_goto (tgt := 4) C dX1_ranges_30 rfl ?_
        refine g_sub [2, 3, 1, 0] (lv2 := [(0, .ref h0), (1, .int x1), (2, .int (x2 + (nI 0))), (3, .int (x3 + nI 1))]) rfl ?_
        exact ih _ _ _ _ hF
      · refine g_iconst (v := (nI 1)) C dX1_ranges_20 rfl ?_
        refine g_goto (tgt := 25) C dX1_ranges_21 rfl ?_
        refine g_iadd C dX1_ranges_25 ?_
        refine g_istore_n (lv2 := [(2, .int (x2 + (nI 1))), (0, .ref h0), (1, .int x1), (3, .int x3)]) C dX1_ranges_26 (Nat.le_of_ble_eq_true rfl) rfl ?_
        refine g_iinc (v := (x3 + nI 1)) (lv2 := [(3, .int (x3 + nI 1)), (2, .int (x2 + (nI 1))), (0, .ref h0), (1, .int x1)]) C dX1_ranges_27 3 rfl rfl (Nat.le_of_ble_eq_true rfl) rfl ?_
        refine g_goto (tgt := 4) C dX1_ranges_30 rfl ?_
        refine g_sub [2, 3, 1, 0] (lv2 := [(0, .ref h0), (1, .int x1), (2, .int (x2 + (nI 1))), (3, .int (x3 + nI 1))]) rfl ?_
        exact ih _ _ _ _ hF
set_option maxRecDepth 100000 in
set_option maxHeartbeats 4000000 in
theorem kX1_ranges (l : Launch) (D : va_G) (h0 : Nat) (E : EX) (x1 : Int32) (σ : SX) (r : Int32) (σ2 : SX) (hF : fX1_ranges x1 σ = some (r, σ2)) : MI l D (tysX1 E) yX1_ranges cX1_ranges 4 (some .int) 2 46 [.ref h0, .int x1] (wX1 h0 E σ) (wX1 h0 E σ2) r := by
  refine g_enterI (own := RX1) (lv := [(0, .ref h0), (1, .int x1)]) (by decide +kernel) rfl (Nat.le_of_ble_eq_true rfl) rfl ?_
  intro p e s m args below meth c A C
  rw [fX1_ranges] at hF
  refine g_iconst (v := (nI 0)) C dX1_ranges_0 rfl ?_
  refine g_istore_n (lv2 := [(2, .int (nI 0)), (0, .ref h0), (1, .int x1)]) C dX1_ranges_1 (Nat.le_of_ble_eq_true rfl) rfl ?_
  refine g_iconst (v := (nI 0)) C dX1_ranges_2 rfl ?_
  refine g_istore_n (lv2 := [(3, .int (nI 0)), (2, .int (nI 0)), (0, .ref h0), (1, .int x1)]) C dX1_ranges_3 (Nat.le_of_ble_eq_true rfl) rfl ?_
  refine g_sub [2, 3, 1, 0] (lv2 := [(0, .ref h0), (1, .int x1), (2, .int (nI 0)), (3, .int (nI 0))]) rfl ?_
  exact wX1_ranges_L4 C FU _ _ _ _ hF
set_option maxRecDepth 100000 in
set_option maxHeartbeats 4000000 in
theorem wX1_lengthOfRange_L2 {p : Program} {l : Launch} {e : Env} {s : State} {m : MethodId} {args : Array Value} {below : List Frame} {meth : Method} {c : Code} {A : Nat → Prop} {D : va_G} {h0 : Nat} {E : EX} {σ2 : SX} {r : Int32} (C : GC p { frames := 1, cells := 0, slots := 0, locals := 23 } s m args meth c A D cX1_lengthOfRange 3 0 0 (tysX1 E) RX1 (some .int)) : ∀ (n : Nat) (x1 : Int32) (x2 : Int32) (σ : SX), fX1_lengthOfRange_L2 n x1 x2 σ = some (r, σ2) → GW p l e { frames := 1, cells := 0, slots := 0, locals := 23 } s m args below meth c (QI D (wX1 h0 E σ2) r A below args s) A D 3 0 0 (wX1 h0 E σ) 2 [(0, .ref h0), (1, .int x1), (2, .int x2)] [] := by
  intro n
  induction n with
  | zero => intro x1 x2 σ hF; simp only [fX1_lengthOfRange_L2] at hF; cases hF
  | succ n ih =>
    intro x1 x2 σ hF
    rw [fX1_lengthOfRange_L2] at hF
    refine g_iload_n C dX1_lengthOfRange_2 1 rfl ?_
    refine g_iload_n C dX1_lengthOfRange_3 2 rfl ?_
    refine g_iadd C dX1_lengthOfRange_4 ?_
    refine g_bipush (v := (nI 48)) C dX1_lengthOfRange_5 rfl ?_
    refine g_icmp_ge (tgt := 31) C dX1_lengthOfRange_7 rfl (fun hc hF => ?_) (fun hc hF => ?_) hF
    · refine g_iload_n C dX1_lengthOfRange_31 2 rfl ?_
      exact x1_iret C rfl dX1_lengthOfRange_32 hF
    · refine g_aload_n C dX1_lengthOfRange_10 0 rfl ?_
      refine g_iload_n C dX1_lengthOfRange_11 1 rfl ?_
      refine g_iload_n C dX1_lengthOfRange_12 2 rfl ?_
      refine g_iadd C dX1_lengthOfRange_13 ?_
      obtain ⟨r1, s1, h1, hF⟩ := bd_some hF
      refine g_callV C (kX1_countOf l D h0 E _ _ _ _ h1) gV_X1_countOf rfl rfl hn_X1_countOf rfl (Nat.le_of_ble_eq_true rfl) (Nat.le_of_ble_eq_true rfl) rfl (Nat.le_of_ble_eq_true rfl) dX1_lengthOfRange_14 ?_
      refine g_aload_n C dX1_lengthOfRange_17 0 rfl ?_
      refine g_iload_n C dX1_lengthOfRange_18 1 rfl ?_
      obtain ⟨r2, s2, h2, hF⟩ := bd_some hF
      refine g_callV C (kX1_countOf l D h0 E _ _ _ _ h2) gV_X1_countOf rfl rfl hn_X1_countOf rfl (Nat.le_of_ble_eq_true rfl) (Nat.le_of_ble_eq_true rfl) rfl (Nat.le_of_ble_eq_true rfl) dX1_lengthOfRange_19 ?_
      refine g_icmp_ne (tgt := 31) C dX1_lengthOfRange_22 rfl (fun hc hF => ?_) (fun hc hF => ?_) hF
      · refine g_iload_n C dX1_lengthOfRange_31 2 rfl ?_
        exact x1_iret C rfl dX1_lengthOfRange_32 hF
      · refine g_iinc (v := (x2 + nI 1)) (lv2 := [(2, .int (x2 + nI 1)), (0, .ref h0), (1, .int x1)]) C dX1_lengthOfRange_25 2 rfl rfl (Nat.le_of_ble_eq_true rfl) rfl ?_
        refine g_goto (tgt := 2) C dX1_lengthOfRange_28 rfl ?_
        refine g_sub [1, 2, 0] (lv2 := [(0, .ref h0), (1, .int x1), (2, .int (x2 + nI 1))]) rfl ?_
        exact ih _ _ _ hF
set_option maxRecDepth 100000 in
set_option maxHeartbeats 4000000 in
theorem kX1_lengthOfRange (l : Launch) (D : va_G) (h0 : Nat) (E : EX) (x1 : Int32) (σ : SX) (r : Int32) (σ2 : SX) (hF : fX1_lengthOfRange x1 σ = some (r, σ2)) : MI l D (tysX1 E) yX1_lengthOfRange cX1_lengthOfRange 3 (some .int) 1 23 [.ref h0, .int x1] (wX1 h0 E σ) (wX1 h0 E σ2) r := by
  refine g_enterI (own := RX1) (lv := [(0, .ref h0), (1, .int x1)]) (by decide +kernel) rfl (Nat.le_of_ble_eq_true rfl) rfl ?_
  intro p e s m args below meth c A C
  rw [fX1_lengthOfRange] at hF
  refine g_iconst (v := (nI 1)) C dX1_lengthOfRange_0 rfl ?_
  refine g_istore_n (lv2 := [(2, .int (nI 1)), (0, .ref h0), (1, .int x1)]) C dX1_lengthOfRange_1 (Nat.le_of_ble_eq_true rfl) rfl ?_
  refine g_sub [1, 2, 0] (lv2 := [(0, .ref h0), (1, .int x1), (2, .int (nI 1))]) rfl ?_
  exact wX1_lengthOfRange_L2 C FU _ _ _ hF
set_option maxRecDepth 100000 in
set_option maxHeartbeats 4000000 in
theorem wX1_range_L27 {p : Program} {l : Launch} {e : Env} {s : State} {m : MethodId} {args : Array Value} {below : List Frame} {meth : Method} {c : Code} {A : Nat → Prop} {D : va_G} {h0 : Nat} {E : EX} {σ2 : SX} {r : Int32} (C : GC p { frames := 2, cells := 0, slots := 0, locals := 46 } s m args meth c A D cX1_range 5 0 0 (tysX1 E) RX1 (some .int)) : ∀ (n : Nat) (x1 : Int32) (x2 : Int32) (x3 : Int32) (x4 : Int32) (σ : SX), fX1_range_L27 n x1 x2 x3 x4 σ = some (r, σ2) → GW p l e { frames := 2, cells := 0, slots := 0, locals := 46 } s m args below meth c (QI D (wX1 h0 E σ2) r A below args s) A D 5 0 0 (wX1 h0 E σ) 27 [(0, .ref h0), (1, .int x1), (2, .int x2), (3, .int x3), (4, .int x4)] [] := by
  intro n
  induction n with
  | zero => intro x1 x2 x3 x4 σ hF; simp only [fX1_range_L27] at hF; cases hF
  | succ n ih =>
    intro x1 x2 x3 x4 σ hF
    rw [fX1_range_L27] at hF
    refine g_iload C dX1_range_27 4 rfl ?_
    refine g_bipush (v := (nI 48)) C dX1_range_29 rfl ?_
    refine g_icmp_ge (tgt := 102) C dX1_range_31 rfl (fun hc hF => ?_) (fun hc hF => ?_) hF
    · refine g_bipush (v := nN) C dX1_range_102 rfl ?_
      exact x1_iret C rfl dX1_range_104 hF
    · refine g_aload_n C dX1_range_34 0 rfl ?_
      refine g_iload C dX1_range_35 4 rfl ?_
      refine g_iload_n C dX1_range_37 2 rfl ?_
      refine g_iconst (v := (nI 1)) C dX1_range_38 rfl ?_
      refine g_icmp_le (tgt := 46) C dX1_range_39 rfl (fun hc hF => ?_) (fun hc hF => ?_) hF
      · refine g_iconst (v := (nI 0)) C dX1_range_46 rfl ?_
        obtain ⟨r1, s1, h1, hF⟩ := bd_some hF
        refine g_callV C (kX1_beginsRange l D h0 E _ _ _ _ _ h1) gV_X1_beginsRange rfl rfl hn_X1_beginsRange rfl (Nat.le_of_ble_eq_true rfl) (Nat.le_of_ble_eq_true rfl) rfl (Nat.le_of_ble_eq_true rfl) dX1_range_47 ?_
        refine g_if_eq (tgt := 96) C dX1_range_50 rfl (fun hc hF => ?_) (fun hc hF => ?_) hF
        · refine g_iinc (v := (x4 + nI 1)) (lv2 := [(4, .int (x4 + nI 1)), (0, .ref h0), (1, .int x1), (2, .int x2), (3, .int x3)]) C dX1_range_96 4 rfl rfl (Nat.le_of_ble_eq_true rfl) rfl ?_
          refine g_goto (tgt := 27) C dX1_range_99 rfl ?_
          refine g_sub [1, 2, 3, 4, 0] (lv2 := [(0, .ref h0), (1, .int x1), (2, .int x2), (3, .int x3), (4, .int (x4 + nI 1))]) rfl ?_
          exact ih _ _ _ _ _ hF
        · refine g_iload_n C dX1_range_53 3 rfl ?_
          refine g_iload_n C dX1_range_54 1 rfl ?_
          refine g_icmp_ne (tgt := 93) C dX1_range_55 rfl (fun hc hF => ?_) (fun hc hF => ?_) hF
          · refine g_iinc (v := (x3 + nI 1)) (lv2 := [(3, .int (x3 + nI 1)), (0, .ref h0), (1, .int x1), (2, .int x2), (4, .int x4)]) C dX1_range_93 3 rfl rfl (Nat.le_of_ble_eq_true rfl) rfl ?_
            refine g_iinc (v := (x4 + nI 1)) (lv2 := [(4, .int (x4 + nI 1)), (3, .int (x3 + nI 1)), (0, .ref h0), (1, .int x1), (2, .int x2)]) C dX1_range_96 4 rfl rfl (Nat.le_of_ble_eq_true rfl) rfl ?_
            refine g_goto (tgt := 27) C dX1_range_99 rfl ?_
            refine g_sub [2, 3, 4, 1, 0] (lv2 := [(0, .ref h0), (1, .int x1), (2, .int x2), (3, .int (x3 + nI 1)), (4, .int (x4 + nI 1))]) rfl ?_
            exact ih _ _ _ _ _ hF
          · refine g_iload_n C dX1_range_58 2 rfl ?_
            refine g_if_eq (tgt := 67) C dX1_range_59 rfl (fun hc hF => ?_) (fun hc hF => ?_) hF
            · refine g_iload C dX1_range_67 4 rfl ?_
              refine g_goto (tgt := 92) C dX1_range_69 rfl ?_
              exact x1_iret C rfl dX1_range_92 hF
            · refine g_iload_n C dX1_range_62 2 rfl ?_
              refine g_iconst (v := (nI 2)) C dX1_range_63 rfl ?_
              refine g_icmp_ne (tgt := 72) C dX1_range_64 rfl (fun hc hF => ?_) (fun hc hF => ?_) hF
              · refine g_iload_n C dX1_range_72 2 rfl ?_
                refine g_iconst (v := (nI 4)) C dX1_range_73 rfl ?_
                refine g_icmp_ne (tgt := 86) C dX1_range_74 rfl (fun hc hF => ?_) (fun hc hF => ?_) hF
                · refine g_aload_n C dX1_range_86 0 rfl ?_
                  refine g_iload C dX1_range_87 4 rfl ?_
                  obtain ⟨r2, s2, h2, hF⟩ := bd_some hF
                  refine g_callV C (kX1_lengthOfRange l D h0 E _ _ _ _ h2) gV_X1_lengthOfRange rfl rfl hn_X1_lengthOfRange rfl (Nat.le_of_ble_eq_true rfl) (Nat.le_of_ble_eq_true rfl) rfl (Nat.le_of_ble_eq_true rfl) dX1_range_89 ?_
                  exact x1_iret C rfl dX1_range_92 hF
                · refine g_aload_n C dX1_range_77 0 rfl ?_
                  refine g_iload C dX1_range_78 4 rfl ?_
                  obtain ⟨r3, s3, h3, hF⟩ := bd_some hF
                  refine g_callV C (kX1_countOf l D h0 E _ _ _ _ h3) gV_X1_countOf rfl rfl hn_X1_countOf rfl (Nat.le_of_ble_eq_true rfl) (Nat.le_of_ble_eq_true rfl) rfl (Nat.le_of_ble_eq_true rfl) dX1_range_80 ?_
                  refine g_goto (tgt := 92) C dX1_range_83 rfl ?_
                  exact x1_iret C rfl dX1_range_92 hF
              · refine g_iload C dX1_range_67 4 rfl ?_
                refine g_goto (tgt := 92) C dX1_range_69 rfl ?_
                exact x1_iret C rfl dX1_range_92 hF
      · refine g_iconst (v := (nI 1)) C dX1_range_42 rfl ?_
        refine g_goto (tgt := 47) C dX1_range_43 rfl ?_
        obtain ⟨r4, s4, h4, hF⟩ := bd_some hF
        refine g_callV C (kX1_beginsRange l D h0 E _ _ _ _ _ h4) gV_X1_beginsRange rfl rfl hn_X1_beginsRange rfl (Nat.le_of_ble_eq_true rfl) (Nat.le_of_ble_eq_true rfl) rfl (Nat.le_of_ble_eq_true rfl) dX1_range_47 ?_
        refine g_if_eq (tgt := 96) C dX1_range_50 rfl (fun hc hF => ?_) (fun hc hF => ?_) hF
        · refine g_iinc (v := (x4 + nI 1)) (lv2 := [(4, .int (x4 + nI 1)), (0, .ref h0), (1, .int x1), (2, .int x2), (3, .int x3)]) C dX1_range_96 4 rfl rfl (Nat.le_of_ble_eq_true rfl) rfl ?_
          refine g_goto (tgt := 27) C dX1_range_99 rfl ?_
          refine g_sub [1, 2, 3, 4, 0] (lv2 := [(0, .ref h0), (1, .int x1), (2, .int x2), (3, .int x3), (4, .int (x4 + nI 1))]) rfl ?_
          exact ih _ _ _ _ _ hF
        · refine g_iload_n C dX1_range_53 3 rfl ?_
          refine g_iload_n C dX1_range_54 1 rfl ?_
          refine g_icmp_ne (tgt := 93) C dX1_range_55 rfl (fun hc hF => ?_) (fun hc hF => ?_) hF
          · refine g_iinc (v := (x3 + nI 1)) (lv2 := [(3, .int (x3 + nI 1)), (0, .ref h0), (1, .int x1), (2, .int x2), (4, .int x4)]) C dX1_range_93 3 rfl rfl (Nat.le_of_ble_eq_true rfl) rfl ?_
            refine g_iinc (v := (x4 + nI 1)) (lv2 := [(4, .int (x4 + nI 1)), (3, .int (x3 + nI 1)), (0, .ref h0), (1, .int x1), (2, .int x2)]) C dX1_range_96 4 rfl rfl (Nat.le_of_ble_eq_true rfl) rfl ?_
            refine g_goto (tgt := 27) C dX1_range_99 rfl ?_
            refine g_sub [2, 3, 4, 1, 0] (lv2 := [(0, .ref h0), (1, .int x1), (2, .int x2), (3, .int (x3 + nI 1)), (4, .int (x4 + nI 1))]) rfl ?_
            exact ih _ _ _ _ _ hF
          · refine g_iload_n C dX1_range_58 2 rfl ?_
            refine g_if_eq (tgt := 67) C dX1_range_59 rfl (fun hc hF => ?_) (fun hc hF => ?_) hF
            · refine g_iload C dX1_range_67 4 rfl ?_
              refine g_goto (tgt := 92) C dX1_range_69 rfl ?_
              exact x1_iret C rfl dX1_range_92 hF
            · refine g_iload_n C dX1_range_62 2 rfl ?_
              refine g_iconst (v := (nI 2)) C dX1_range_63 rfl ?_
              refine g_icmp_ne (tgt := 72) C dX1_range_64 rfl (fun hc hF => ?_) (fun hc hF => ?_) hF
              · refine g_iload_n C dX1_range_72 2 rfl ?_
                refine g_iconst (v := (nI 4)) C dX1_range_73 rfl ?_
                refine g_icmp_ne (tgt := 86) C dX1_range_74 rfl (fun hc hF => ?_) (fun hc hF => ?_) hF
                · refine g_aload_n C dX1_range_86 0 rfl ?_
                  refine g_iload C dX1_range_87 4 rfl ?_
                  obtain ⟨r5, s5, h5, hF⟩ := bd_some hF
                  refine g_callV C (kX1_lengthOfRange l D h0 E _ _ _ _ h5) gV_X1_lengthOfRange rfl rfl hn_X1_lengthOfRange rfl (Nat.le_of_ble_eq_true rfl) (Nat.le_of_ble_eq_true rfl) rfl (Nat.le_of_ble_eq_true rfl) dX1_range_89 ?_
                  exact x1_iret C rfl dX1_range_92 hF
                · refine g_aload_n C dX1_range_77 0 rfl ?_
                  refine g_iload C dX1_range_78 4 rfl ?_
                  obtain ⟨r6, s6, h6, hF⟩ := bd_some hF
                  refine g_callV C (kX1_countOf l D h0 E _ _ _ _ h6) gV_X1_countOf rfl rfl hn_X1_countOf rfl (Nat.le_of_ble_eq_true rfl) (Nat.le_of_ble_eq_true rfl) rfl (Nat.le_of_ble_eq_true rfl) dX1_range_80 ?_
                  refine g_goto (tgt := 92) C dX1_range_83 rfl ?_
                  exact x1_iret C rfl dX1_range_92 hF
              · refine g_iload C dX1_range_67 4 rfl ?_
                refine g_goto (tgt := 92) C dX1_range_69 rfl ?_
                exact x1_iret C rfl dX1_range_92 hF
set_option maxRecDepth 100000 in
set_option maxHeartbeats 4000000 in
theorem kX1_range (l : Launch) (D : va_G) (h0 : Nat) (E : EX) (x1 : Int32) (x2 : Int32) (σ : SX) (r : Int32) (σ2 : SX) (hF : fX1_range x1 x2 σ = some (r, σ2)) : MI l D (tysX1 E) yX1_range cX1_range 5 (some .int) 2 46 [.ref h0, .int x1, .int x2] (wX1 h0 E σ) (wX1 h0 E σ2) r := by
  refine g_enterI (own := RX1) (lv := [(0, .ref h0), (1, .int x1), (2, .int x2)]) (by decide +kernel) rfl (Nat.le_of_ble_eq_true rfl) rfl ?_
  intro p e s m args below meth c A C
  rw [fX1_range] at hF
  refine g_iload_n C dX1_range_0 1 rfl ?_
  refine g_iconst (v := (nI 0)) C dX1_range_1 rfl ?_
  refine g_bipush (v := (nI 47)) C dX1_range_2 rfl ?_
  obtain ⟨r1, h1, hF⟩ := bs_some hF
  refine g_callS C (kX1_within l D _ _ _ _ h1) gS_X1_within hn_X1_within rfl (Nat.le_of_ble_eq_true rfl) (Nat.le_of_ble_eq_true rfl) rfl (Nat.le_of_ble_eq_true rfl) dX1_range_4 ?_
  refine g_if_eq (tgt := 19) C dX1_range_7 rfl (fun hc hF => ?_) (fun hc hF => ?_) hF
  · refine g_bipush (v := (-2)) C dX1_range_19 rfl ?_
    exact x1_iret C rfl dX1_range_21 hF
  · refine g_iload_n C dX1_range_10 2 rfl ?_
    refine g_iconst (v := (nI 0)) C dX1_range_11 rfl ?_
    refine g_iconst (v := (nI 4)) C dX1_range_12 rfl ?_
    obtain ⟨r2, h2, hF⟩ := bs_some hF
    refine g_callS C (kX1_within l D _ _ _ _ h2) gS_X1_within hn_X1_within rfl (Nat.le_of_ble_eq_true rfl) (Nat.le_of_ble_eq_true rfl) rfl (Nat.le_of_ble_eq_true rfl) dX1_range_13 ?_
    refine g_if_ne (tgt := 22) C dX1_range_16 rfl (fun hc hF => ?_) (fun hc hF => ?_) hF
    · refine g_iconst (v := (nI 0)) C dX1_range_22 rfl ?_
      refine g_istore_n (lv2 := [(3, .int (nI 0)), (0, .ref h0), (1, .int x1), (2, .int x2)]) C dX1_range_23 (Nat.le_of_ble_eq_true rfl) rfl ?_
      refine g_iconst (v := (nI 0)) C dX1_range_24 rfl ?_
      refine g_istore (lv2 := [(4, .int (nI 0)), (3, .int (nI 0)), (0, .ref h0), (1, .int x1), (2, .int x2)]) C dX1_range_25 (Nat.le_of_ble_eq_true rfl) rfl ?_
      refine g_sub [2, 3, 4, 1, 0] (lv2 := [(0, .ref h0), (1, .int x1), (2, .int x2), (3, .int (nI 0)), (4, .int (nI 0))]) rfl ?_
      exact wX1_range_L27 C FU _ _ _ _ _ hF
    · refine g_bipush (v := (-2)) C dX1_range_19 rfl ?_
      exact x1_iret C rfl dX1_range_21 hF
set_option maxRecDepth 100000 in
set_option maxHeartbeats 4000000 in
theorem wX1_manyWith_L5 {p : Program} {l : Launch} {e : Env} {s : State} {m : MethodId} {args : Array Value} {below : List Frame} {meth : Method} {c : Code} {A : Nat → Prop} {D : va_G} {h0 : Nat} {E : EX} {σ2 : SX} {r : Int32} (C : GC p { frames := 1, cells := 0, slots := 0, locals := 23 } s m args meth c A D cX1_manyWith 5 0 0 (tysX1 E) RX1 (some .int)) : ∀ (n : Nat) (x1 : Int32) (x2 : Int32) (x3 : Int32) (x4 : Int32) (σ : SX), fX1_manyWith_L5 n x1 x2 x3 x4 σ = some (r, σ2) → GW p l e { frames := 1, cells := 0, slots := 0, locals := 23 } s m args below meth c (QI D (wX1 h0 E σ2) r A below args s) A D 5 0 0 (wX1 h0 E σ) 5 [(0, .ref h0), (1, .int x1), (2, .int x2), (3, .int x3), (4, .int x4)] [] := by
  intro n
  induction n with
  | zero => intro x1 x2 x3 x4 σ hF; simp only [fX1_manyWith_L5] at hF; cases hF
  | succ n ih =>
    intro x1 x2 x3 x4 σ hF
    rw [fX1_manyWith_L5] at hF
    refine g_iload C dX1_manyWith_5 4 rfl ?_
    refine g_bipush (v := (nI 48)) C dX1_manyWith_7 rfl ?_
    refine g_icmp_ge (tgt := 40) C dX1_manyWith_9 rfl (fun hc hF => ?_) (fun hc hF => ?_) hF
    · refine g_iload_n C dX1_manyWith_40 3 rfl ?_
      exact x1_iret C rfl dX1_manyWith_41 hF
    · refine g_iload_n C dX1_manyWith_12 3 rfl ?_
      refine g_aload_n C dX1_manyWith_13 0 rfl ?_
      refine g_iload C dX1_manyWith_14 4 rfl ?_
      obtain ⟨r1, s1, h1, hF⟩ := bd_some hF
      refine g_callV C (kX1_countOf l D h0 E _ _ _ _ h1) gV_X1_countOf rfl rfl hn_X1_countOf rfl (Nat.le_of_ble_eq_true rfl) (Nat.le_of_ble_eq_true rfl) rfl (Nat.le_of_ble_eq_true rfl) dX1_manyWith_16 ?_
      refine g_iload_n C dX1_manyWith_19 1 rfl ?_
      refine g_iload_n C dX1_manyWith_20 2 rfl ?_
      obtain ⟨r2, h2, hF⟩ := bs_some hF
      refine g_callS C (kX1_within l D _ _ _ _ h2) gS_X1_within hn_X1_within rfl (Nat.le_of_ble_eq_true rfl) (Nat.le_of_ble_eq_true rfl) rfl (Nat.le_of_ble_eq_true rfl) dX1_manyWith_21 ?_
      refine g_if_eq (tgt := 31) C dX1_manyWith_24 rfl (fun hc hF => ?_) (fun hc hF => ?_) hF
      · refine g_iconst (v := (nI 0)) C dX1_manyWith_31 rfl ?_
        refine g_iadd C dX1_manyWith_32 ?_
        refine g_istore_n (lv2 := [(3, .int (x3 + (nI 0))), (0, .ref h0), (1, .int x1), (2, .int x2), (4, .int x4)]) C dX1_manyWith_33 (Nat.le_of_ble_eq_true rfl) rfl ?_
        refine g_iinc (v := (x4 + nI 1)) (lv2 := [(4, .int (x4 + nI 1)), (3, .int (x3 + (nI 0))), (0, .ref h0), (1, .int x1), (2, .int x2)]) C dX1_manyWith_34 4 rfl rfl (Nat.le_of_ble_eq_true rfl) rfl ?_
        refine g_goto (tgt := 5) C dX1_manyWith_37 rfl ?_
        refine g_sub [2, 3, 4, 1, 0] (lv2 := [(0, .ref h0), (1, .int x1), (2, .int x2), (3, .int (x3 + (nI 0))), (4, .int (x4 + nI 1))]) rfl ?_
        exact ih _ _ _ _ _ hF
      · refine g_iconst (v := (nI 1)) C dX1_manyWith_27 rfl ?_
        refine g_goto (tgt := 32) C dX1_manyWith_28 rfl ?_
        refine g_iadd C dX1_manyWith_32 ?_
        refine g_istore_n (lv2 := [(3, .int (x3 + (nI 1))), (0, .ref h0), (1, .int x1), (2, .int x2), (4, .int x4)]) C dX1_manyWith_33 (Nat.le_of_ble_eq_true rfl) rfl ?_
        refine g_iinc (v := (x4 + nI 1)) (lv2 := [(4, .int (x4 + nI 1)), (3, .int (x3 + (nI 1))), (0, .ref h0), (1, .int x1), (2, .int x2)]) C dX1_manyWith_34 4 rfl rfl (Nat.le_of_ble_eq_true rfl) rfl ?_
        refine g_goto (tgt := 5) C dX1_manyWith_37 rfl ?_
        refine g_sub [2, 3, 4, 1, 0] (lv2 := [(0, .ref h0), (1, .int x1), (2, .int x2), (3, .int (x3 + (nI 1))), (4, .int (x4 + nI 1))]) rfl ?_
        exact ih _ _ _ _ _ hF
set_option maxRecDepth 100000 in
set_option maxHeartbeats 4000000 in
theorem kX1_manyWith (l : Launch) (D : va_G) (h0 : Nat) (E : EX) (x1 : Int32) (x2 : Int32) (σ : SX) (r : Int32) (σ2 : SX) (hF : fX1_manyWith x1 x2 σ = some (r, σ2)) : MI l D (tysX1 E) yX1_manyWith cX1_manyWith 5 (some .int) 1 23 [.ref h0, .int x1, .int x2] (wX1 h0 E σ) (wX1 h0 E σ2) r := by
  refine g_enterI (own := RX1) (lv := [(0, .ref h0), (1, .int x1), (2, .int x2)]) (by decide +kernel) rfl (Nat.le_of_ble_eq_true rfl) rfl ?_
  intro p e s m args below meth c A C
  rw [fX1_manyWith] at hF
  refine g_iconst (v := (nI 0)) C dX1_manyWith_0 rfl ?_
  refine g_istore_n (lv2 := [(3, .int (nI 0)), (0, .ref h0), (1, .int x1), (2, .int x2)]) C dX1_manyWith_1 (Nat.le_of_ble_eq_true rfl) rfl ?_
  refine g_iconst (v := (nI 0)) C dX1_manyWith_2 rfl ?_
  refine g_istore (lv2 := [(4, .int (nI 0)), (3, .int (nI 0)), (0, .ref h0), (1, .int x1), (2, .int x2)]) C dX1_manyWith_3 (Nat.le_of_ble_eq_true rfl) rfl ?_
  refine g_sub [2, 3, 4, 1, 0] (lv2 := [(0, .ref h0), (1, .int x1), (2, .int x2), (3, .int (nI 0)), (4, .int (nI 0))]) rfl ?_
  exact wX1_manyWith_L5 C FU _ _ _ _ _ hF
set_option maxRecDepth 100000 in
set_option maxHeartbeats 4000000 in
theorem kX1_many (l : Launch) (D : va_G) (h0 : Nat) (E : EX) (x1 : Int32) (σ : SX) (r : Int32) (σ2 : SX) (hF : fX1_many x1 σ = some (r, σ2)) : MI l D (tysX1 E) yX1_many cX1_many 2 (some .int) 3 69 [.ref h0, .int x1] (wX1 h0 E σ) (wX1 h0 E σ2) r := by
  refine g_enterI (own := RX1) (lv := [(0, .ref h0), (1, .int x1)]) (by decide +kernel) rfl (Nat.le_of_ble_eq_true rfl) rfl ?_
  intro p e s m args below meth c A C
  rw [fX1_many] at hF
  refine g_iload_n C dX1_many_0 1 rfl ?_
  refine g_case (x1 = nI 0) (fun hc0 hF => ?_) (fun hc0 hF => ?_) hF
  · refine g_tswI (tgt := 40) C dX1_many_1 hc0 (by decide) (by decide) rfl rfl ?_
    refine g_aload_n C dX1_many_40 0 rfl ?_
    refine g_iconst (v := (nI 0)) C dX1_many_41 rfl ?_
    refine g_iconst (v := (nI 0)) C dX1_many_42 rfl ?_
    obtain ⟨r1, s1, h1, hF⟩ := bd_some hF
    refine g_callV C (kX1_manyWith l D h0 E _ _ _ _ _ h1) gV_X1_manyWith rfl rfl hn_X1_manyWith rfl (Nat.le_of_ble_eq_true rfl) (Nat.le_of_ble_eq_true rfl) rfl (Nat.le_of_ble_eq_true rfl) dX1_many_43 ?_
    exact x1_iret C rfl dX1_many_46 hF
  refine g_case (x1 = nI 1) (fun hc1 hF => ?_) (fun hc1 hF => ?_) hF
  · refine g_tswI (tgt := 47) C dX1_many_1 hc1 (by decide) (by decide) rfl rfl ?_
    refine g_aload_n C dX1_many_47 0 rfl ?_
    refine g_iconst (v := (nI 2)) C dX1_many_48 rfl ?_
    refine g_bipush (v := (nI 96)) C dX1_many_49 rfl ?_
    obtain ⟨r2, s2, h2, hF⟩ := bd_some hF
    refine g_callV C (kX1_manyWith l D h0 E _ _ _ _ _ h2) gV_X1_manyWith rfl rfl hn_X1_manyWith rfl (Nat.le_of_ble_eq_true rfl) (Nat.le_of_ble_eq_true rfl) rfl (Nat.le_of_ble_eq_true rfl) dX1_many_51 ?_
    exact x1_iret C rfl dX1_many_54 hF
  refine g_case (x1 = nI 2) (fun hc2 hF => ?_) (fun hc2 hF => ?_) hF
  · refine g_tswI (tgt := 55) C dX1_many_1 hc2 (by decide) (by decide) rfl rfl ?_
    refine g_aload_n C dX1_many_55 0 rfl ?_
    refine g_iconst (v := (nI 0)) C dX1_many_56 rfl ?_
    obtain ⟨r3, s3, h3, hF⟩ := bd_some hF
    refine g_callV C (kX1_ranges l D h0 E _ _ _ _ h3) gV_X1_ranges rfl rfl hn_X1_ranges rfl (Nat.le_of_ble_eq_true rfl) (Nat.le_of_ble_eq_true rfl) rfl (Nat.le_of_ble_eq_true rfl) dX1_many_57 ?_
    exact x1_iret C rfl dX1_many_60 hF
  refine g_case (x1 = nI 3) (fun hc3 hF => ?_) (fun hc3 hF => ?_) hF
  · refine g_tswI (tgt := 61) C dX1_many_1 hc3 (by decide) (by decide) rfl rfl ?_
    refine g_aload_n C dX1_many_61 0 rfl ?_
    refine g_iconst (v := (nI 1)) C dX1_many_62 rfl ?_
    obtain ⟨r4, s4, h4, hF⟩ := bd_some hF
    refine g_callV C (kX1_ranges l D h0 E _ _ _ _ h4) gV_X1_ranges rfl rfl hn_X1_ranges rfl (Nat.le_of_ble_eq_true rfl) (Nat.le_of_ble_eq_true rfl) rfl (Nat.le_of_ble_eq_true rfl) dX1_many_63 ?_
    exact x1_iret C rfl dX1_many_66 hF
  refine g_case (x1 = nI 4) (fun hc4 hF => ?_) (fun hc4 hF => ?_) hF
  · refine g_tswI (tgt := 67) C dX1_many_1 hc4 (by decide) (by decide) rfl rfl ?_
    refine g_aload_n C dX1_many_67 0 rfl ?_
    refine x1_get3 C dX1_many_68 ?_
    refine g_if_eq (tgt := 78) C dX1_many_71 rfl (fun hc hF => ?_) (fun hc hF => ?_) hF
    · refine g_iconst (v := (nI 0)) C dX1_many_78 rfl ?_
      exact x1_iret C rfl dX1_many_79 hF
    · refine g_iconst (v := (nI 1)) C dX1_many_74 rfl ?_
      refine g_goto (tgt := 79) C dX1_many_75 rfl ?_
      exact x1_iret C rfl dX1_many_79 hF
  refine g_case (x1 = nI 5) (fun hc5 hF => ?_) (fun hc5 hF => ?_) hF
  · refine g_tswI (tgt := 80) C dX1_many_1 hc5 (by decide) (by decide) rfl rfl ?_
    refine g_aload_n C dX1_many_80 0 rfl ?_
    refine x1_get3 C dX1_many_81 ?_
    refine g_if_eq (tgt := 99) C dX1_many_84 rfl (fun hc hF => ?_) (fun hc hF => ?_) hF
    · refine g_iconst (v := (nI 0)) C dX1_many_99 rfl ?_
      exact x1_iret C rfl dX1_many_100 hF
    · refine g_aload_n C dX1_many_87 0 rfl ?_
      refine x1_get15 C dX1_many_88 ?_
      refine g_aload_n C dX1_many_91 0 rfl ?_
      refine x1_get16 C dX1_many_92 ?_
      refine g_isub C dX1_many_95 ?_
      refine g_goto (tgt := 100) C dX1_many_96 rfl ?_
      exact x1_iret C rfl dX1_many_100 hF
  refine g_tswO (tgt := 101) C dX1_many_1 (sw_out (hi := 5) (by decide) (fun j hj => by rcases (show j = 0 ∨ j = 1 ∨ j = 2 ∨ j = 3 ∨ j = 4 ∨ j = 5 by omega) with rfl | rfl | rfl | rfl | rfl | rfl <;> assumption)) rfl ?_
  refine g_bipush (v := (-2)) C dX1_many_101 rfl ?_
  exact x1_iret C rfl dX1_many_103 hF
