set_option maxRecDepth 100000 in
set_option maxHeartbeats 4000000 in
theorem kX0_isFile (l : Launch) (D : va_G) (x0 : Int32) (r : Int32) (hF : fX0_isFile x0 = some r) : MI l D [] yX0_isFile cX0_isFile 1 (some .boolean) 0 0 [.int x0] [] [] r := by
  refine g_enterI (own := RX0) (lv := [(0, .int x0)]) (by decide +kernel) rfl (Nat.le_of_ble_eq_true rfl) rfl ?_
  intro p e s m args below meth c A C
  rw [fX0_isFile] at hF
  refine g_iload_n C dX0_isFile_0 0 rfl ?_
  refine g_if_lt (tgt := 13) C dX0_isFile_1 rfl (fun hc hF => ?_) (fun hc hF => ?_) hF
  · refine g_iconst (v := (nI 0)) C dX0_isFile_13 rfl ?_
    exact s_zret C rfl rfl dX0_isFile_14 hF
  · refine g_iload_n C dX0_isFile_4 0 rfl ?_
    refine g_iconst (v := (nI 4)) C dX0_isFile_5 rfl ?_
    refine g_icmp_ge (tgt := 13) C dX0_isFile_6 rfl (fun hc hF => ?_) (fun hc hF => ?_) hF
    · refine g_iconst (v := (nI 0)) C dX0_isFile_13 rfl ?_
      exact s_zret C rfl rfl dX0_isFile_14 hF
    · refine g_iconst (v := (nI 1)) C dX0_isFile_9 rfl ?_
      refine g_goto (tgt := 14) C dX0_isFile_10 rfl ?_
      exact s_zret C rfl rfl dX0_isFile_14 hF
set_option maxRecDepth 100000 in
set_option maxHeartbeats 4000000 in
theorem kX0_sizeOf (l : Launch) (D : va_G) (h0 : Nat) (E : EX) (x1 : Int32) (σ : SX) (r : Int32) (σ2 : SX) (hF : fX0_sizeOf x1 σ = some (r, σ2)) : MI l D (tysX0 E) yX0_sizeOf cX0_sizeOf 2 (some .int) 1 20 [.ref h0, .int x1] (wX0 h0 E σ) (wX0 h0 E σ2) r := by
  refine g_enterI (own := RX0) (lv := [(0, .ref h0), (1, .int x1)]) (by decide +kernel) rfl (Nat.le_of_ble_eq_true rfl) rfl ?_
  intro p e s m args below meth c A C
  rw [fX0_sizeOf] at hF
  refine g_iload_n C dX0_sizeOf_0 1 rfl ?_
  obtain ⟨r1, h1, hF⟩ := bs_some hF
  refine g_callS C (kX0_isFile l D _ _ h1) gS_X0_isFile hn_X0_isFile rfl (Nat.le_of_ble_eq_true rfl) (Nat.le_of_ble_eq_true rfl) rfl (Nat.le_of_ble_eq_true rfl) dX0_sizeOf_1 ?_
  refine g_if_eq (tgt := 16) C dX0_sizeOf_4 rfl (fun hc hF => ?_) (fun hc hF => ?_) hF
  · refine g_iconst (v := (nI 0)) C dX0_sizeOf_16 rfl ?_
    exact x0_iret C rfl dX0_sizeOf_17 hF
  · refine g_aload_n C dX0_sizeOf_7 0 rfl ?_
    refine x0_get3 C dX0_sizeOf_8 ?_
    refine g_iload_n C dX0_sizeOf_11 1 rfl ?_
    refine x0_ld3 C dX0_sizeOf_12 (fun hF => ?_) hF
    refine g_goto (tgt := 17) C dX0_sizeOf_13 rfl ?_
    exact x0_iret C rfl dX0_sizeOf_17 hF
set_option maxRecDepth 100000 in
set_option maxHeartbeats 4000000 in
theorem kX0_isPlace (l : Launch) (D : va_G) (x0 : Int32) (r : Int32) (hF : fX0_isPlace x0 = some r) : MI l D [] yX0_isPlace cX0_isPlace 1 (some .boolean) 0 0 [.int x0] [] [] r := by
  refine g_enterI (own := RX0) (lv := [(0, .int x0)]) (by decide +kernel) rfl (Nat.le_of_ble_eq_true rfl) rfl ?_
  intro p e s m args below meth c A C
  rw [fX0_isPlace] at hF
  refine g_iload_n C dX0_isPlace_0 0 rfl ?_
  refine g_if_lt (tgt := 14) C dX0_isPlace_1 rfl (fun hc hF => ?_) (fun hc hF => ?_) hF
  · refine g_iconst (v := (nI 0)) C dX0_isPlace_14 rfl ?_
    exact s_zret C rfl rfl dX0_isPlace_15 hF
  · refine g_iload_n C dX0_isPlace_4 0 rfl ?_
    refine g_bipush (v := (nI 24)) C dX0_isPlace_5 rfl ?_
    refine g_icmp_ge (tgt := 14) C dX0_isPlace_7 rfl (fun hc hF => ?_) (fun hc hF => ?_) hF
    · refine g_iconst (v := (nI 0)) C dX0_isPlace_14 rfl ?_
      exact s_zret C rfl rfl dX0_isPlace_15 hF
    · refine g_iconst (v := (nI 1)) C dX0_isPlace_10 rfl ?_
      refine g_goto (tgt := 15) C dX0_isPlace_11 rfl ?_
      exact s_zret C rfl rfl dX0_isPlace_15 hF
set_option maxRecDepth 100000 in
set_option maxHeartbeats 4000000 in
theorem kX0_blockAt (l : Launch) (D : va_G) (h0 : Nat) (E : EX) (x1 : Int32) (x2 : Int32) (σ : SX) (r : Int32) (σ2 : SX) (hF : fX0_blockAt x1 x2 σ = some (r, σ2)) : MI l D (tysX0 E) yX0_blockAt cX0_blockAt 3 (some .int) 1 20 [.ref h0, .int x1, .int x2] (wX0 h0 E σ) (wX0 h0 E σ2) r := by
  refine g_enterI (own := RX0) (lv := [(0, .ref h0), (1, .int x1), (2, .int x2)]) (by decide +kernel) rfl (Nat.le_of_ble_eq_true rfl) rfl ?_
  intro p e s m args below meth c A C
  rw [fX0_blockAt] at hF
  refine g_iload_n C dX0_blockAt_0 1 rfl ?_
  obtain ⟨r1, h1, hF⟩ := bs_some hF
  refine g_callS C (kX0_isFile l D _ _ h1) gS_X0_isFile hn_X0_isFile rfl (Nat.le_of_ble_eq_true rfl) (Nat.le_of_ble_eq_true rfl) rfl (Nat.le_of_ble_eq_true rfl) dX0_blockAt_1 ?_
  refine g_if_eq (tgt := 28) C dX0_blockAt_4 rfl (fun hc hF => ?_) (fun hc hF => ?_) hF
  · refine g_bipush (v := nN) C dX0_blockAt_28 rfl ?_
    exact x0_iret C rfl dX0_blockAt_30 hF
  · refine g_iload_n C dX0_blockAt_7 2 rfl ?_
    obtain ⟨r2, h2, hF⟩ := bs_some hF
    refine g_callS C (kX0_isPlace l D _ _ h2) gS_X0_isPlace hn_X0_isPlace rfl (Nat.le_of_ble_eq_true rfl) (Nat.le_of_ble_eq_true rfl) rfl (Nat.le_of_ble_eq_true rfl) dX0_blockAt_8 ?_
    refine g_if_eq (tgt := 28) C dX0_blockAt_11 rfl (fun hc hF => ?_) (fun hc hF => ?_) hF
    · refine g_bipush (v := nN) C dX0_blockAt_28 rfl ?_
      exact x0_iret C rfl dX0_blockAt_30 hF
    · refine g_aload_n C dX0_blockAt_14 0 rfl ?_
      refine x0_get2 C dX0_blockAt_15 ?_
      refine g_iload_n C dX0_blockAt_18 1 rfl ?_
      refine g_bipush (v := (nI 24)) C dX0_blockAt_19 rfl ?_
      refine g_imul C dX0_blockAt_21 ?_
      refine g_iload_n C dX0_blockAt_22 2 rfl ?_
      refine g_iadd C dX0_blockAt_23 ?_
      refine x0_ld2 C dX0_blockAt_24 (fun hF => ?_) hF
      refine g_goto (tgt := 30) C dX0_blockAt_25 rfl ?_
      exact x0_iret C rfl dX0_blockAt_30 hF
set_option maxRecDepth 100000 in
set_option maxHeartbeats 4000000 in
theorem kX0_isBlock (l : Launch) (D : va_G) (x0 : Int32) (r : Int32) (hF : fX0_isBlock x0 = some r) : MI l D [] yX0_isBlock cX0_isBlock 1 (some .boolean) 0 0 [.int x0] [] [] r := by
  refine g_enterI (own := RX0) (lv := [(0, .int x0)]) (by decide +kernel) rfl (Nat.le_of_ble_eq_true rfl) rfl ?_
  intro p e s m args below meth c A C
  rw [fX0_isBlock] at hF
  refine g_iload_n C dX0_isBlock_0 0 rfl ?_
  refine g_if_lt (tgt := 14) C dX0_isBlock_1 rfl (fun hc hF => ?_) (fun hc hF => ?_) hF
  · refine g_iconst (v := (nI 0)) C dX0_isBlock_14 rfl ?_
    exact s_zret C rfl rfl dX0_isBlock_15 hF
  · refine g_iload_n C dX0_isBlock_4 0 rfl ?_
    refine g_bipush (v := (nI 48)) C dX0_isBlock_5 rfl ?_
    refine g_icmp_ge (tgt := 14) C dX0_isBlock_7 rfl (fun hc hF => ?_) (fun hc hF => ?_) hF
    · refine g_iconst (v := (nI 0)) C dX0_isBlock_14 rfl ?_
      exact s_zret C rfl rfl dX0_isBlock_15 hF
    · refine g_iconst (v := (nI 1)) C dX0_isBlock_10 rfl ?_
      refine g_goto (tgt := 15) C dX0_isBlock_11 rfl ?_
      exact s_zret C rfl rfl dX0_isBlock_15 hF
set_option maxRecDepth 100000 in
set_option maxHeartbeats 4000000 in
theorem kX0_cellOf (l : Launch) (D : va_G) (h0 : Nat) (E : EX) (x1 : Int32) (x2 : Int32) (σ : SX) (r : Int32) (σ2 : SX) (hF : fX0_cellOf x1 x2 σ = some (r, σ2)) : MI l D (tysX0 E) yX0_cellOf cX0_cellOf 3 (some .int) 1 20 [.ref h0, .int x1, .int x2] (wX0 h0 E σ) (wX0 h0 E σ2) r := by
  refine g_enterI (own := RX0) (lv := [(0, .ref h0), (1, .int x1), (2, .int x2)]) (by decide +kernel) rfl (Nat.le_of_ble_eq_true rfl) rfl ?_
  intro p e s m args below meth c A C
  rw [fX0_cellOf] at hF
  refine g_iload_n C dX0_cellOf_0 1 rfl ?_
  obtain ⟨r1, h1, hF⟩ := bs_some hF
  refine g_callS C (kX0_isBlock l D _ _ h1) gS_X0_isBlock hn_X0_isBlock rfl (Nat.le_of_ble_eq_true rfl) (Nat.le_of_ble_eq_true rfl) rfl (Nat.le_of_ble_eq_true rfl) dX0_cellOf_1 ?_
  refine g_if_eq (tgt := 29) C dX0_cellOf_4 rfl (fun hc hF => ?_) (fun hc hF => ?_) hF
  · refine g_iconst (v := (nI 0)) C dX0_cellOf_29 rfl ?_
    exact x0_iret C rfl dX0_cellOf_30 hF
  · refine g_iload_n C dX0_cellOf_7 2 rfl ?_
    refine g_if_lt (tgt := 29) C dX0_cellOf_8 rfl (fun hc hF => ?_) (fun hc hF => ?_) hF
    · refine g_iconst (v := (nI 0)) C dX0_cellOf_29 rfl ?_
      exact x0_iret C rfl dX0_cellOf_30 hF
    · refine g_iload_n C dX0_cellOf_11 2 rfl ?_
      refine g_iconst (v := (nI 4)) C dX0_cellOf_12 rfl ?_
      refine g_icmp_ge (tgt := 29) C dX0_cellOf_13 rfl (fun hc hF => ?_) (fun hc hF => ?_) hF
      · refine g_iconst (v := (nI 0)) C dX0_cellOf_29 rfl ?_
        exact x0_iret C rfl dX0_cellOf_30 hF
      · refine g_aload_n C dX0_cellOf_16 0 rfl ?_
        refine x0_get0 C dX0_cellOf_17 ?_
        refine g_iload_n C dX0_cellOf_20 1 rfl ?_
        refine g_iconst (v := (nI 4)) C dX0_cellOf_21 rfl ?_
        refine g_imul C dX0_cellOf_22 ?_
        refine g_iload_n C dX0_cellOf_23 2 rfl ?_
        refine g_iadd C dX0_cellOf_24 ?_
        refine x0_ld0 C dX0_cellOf_25 (fun hF => ?_) hF
        refine g_goto (tgt := 30) C dX0_cellOf_26 rfl ?_
        exact x0_iret C rfl dX0_cellOf_30 hF
set_option maxRecDepth 100000 in
set_option maxHeartbeats 4000000 in
theorem kX0_read (l : Launch) (D : va_G) (h0 : Nat) (E : EX) (x1 : Int32) (x2 : Int32) (σ : SX) (r : Int32) (σ2 : SX) (hF : fX0_read x1 x2 σ = some (r, σ2)) : MI l D (tysX0 E) yX0_read cX0_read 3 (some .int) 2 42 [.ref h0, .int x1, .int x2] (wX0 h0 E σ) (wX0 h0 E σ2) r := by
  refine g_enterI (own := RX0) (lv := [(0, .ref h0), (1, .int x1), (2, .int x2)]) (by decide +kernel) rfl (Nat.le_of_ble_eq_true rfl) rfl ?_
  intro p e s m args below meth c A C
  rw [fX0_read] at hF
  refine g_iload_n C dX0_read_0 1 rfl ?_
  obtain ⟨r1, h1, hF⟩ := bs_some hF
  refine g_callS C (kX0_isFile l D _ _ h1) gS_X0_isFile hn_X0_isFile rfl (Nat.le_of_ble_eq_true rfl) (Nat.le_of_ble_eq_true rfl) rfl (Nat.le_of_ble_eq_true rfl) dX0_read_1 ?_
  refine g_if_ne (tgt := 9) C dX0_read_4 rfl (fun hc hF => ?_) (fun hc hF => ?_) hF
  · refine g_iload_n C dX0_read_9 2 rfl ?_
    refine g_if_lt (tgt := 22) C dX0_read_10 rfl (fun hc hF => ?_) (fun hc hF => ?_) hF
    · refine g_bipush (v := (-2)) C dX0_read_22 rfl ?_
      exact x0_iret C rfl dX0_read_24 hF
    · refine g_iload_n C dX0_read_13 2 rfl ?_
      refine g_aload_n C dX0_read_14 0 rfl ?_
      refine g_iload_n C dX0_read_15 1 rfl ?_
      obtain ⟨r2, s2, h2, hF⟩ := bd_some hF
      refine g_callV C (kX0_sizeOf l D h0 E _ _ _ _ h2) gV_X0_sizeOf rfl rfl hn_X0_sizeOf rfl (Nat.le_of_ble_eq_true rfl) (Nat.le_of_ble_eq_true rfl) rfl (Nat.le_of_ble_eq_true rfl) dX0_read_16 ?_
      refine g_icmp_lt (tgt := 25) C dX0_read_19 rfl (fun hc hF => ?_) (fun hc hF => ?_) hF
      · refine g_aload_n C dX0_read_25 0 rfl ?_
        refine g_aload_n C dX0_read_26 0 rfl ?_
        refine g_iload_n C dX0_read_27 1 rfl ?_
        refine g_iload_n C dX0_read_28 2 rfl ?_
        refine g_iconst (v := (nI 4)) C dX0_read_29 rfl ?_
        refine g_idiv C dX0_read_30 (by decide) ?_
        obtain ⟨r3, s3, h3, hF⟩ := bd_some hF
        refine g_callV C (kX0_blockAt l D h0 E _ _ _ _ _ h3) gV_X0_blockAt rfl rfl hn_X0_blockAt rfl (Nat.le_of_ble_eq_true rfl) (Nat.le_of_ble_eq_true rfl) rfl (Nat.le_of_ble_eq_true rfl) dX0_read_31 ?_
        refine g_iload_n C dX0_read_34 2 rfl ?_
        refine g_iconst (v := (nI 4)) C dX0_read_35 rfl ?_
        refine g_irem C dX0_read_36 (by decide) ?_
        obtain ⟨r4, s4, h4, hF⟩ := bd_some hF
        refine g_callV C (kX0_cellOf l D h0 E _ _ _ _ _ h4) gV_X0_cellOf rfl rfl hn_X0_cellOf rfl (Nat.le_of_ble_eq_true rfl) (Nat.le_of_ble_eq_true rfl) rfl (Nat.le_of_ble_eq_true rfl) dX0_read_37 ?_
        exact x0_iret C rfl dX0_read_40 hF
      · refine g_bipush (v := (-2)) C dX0_read_22 rfl ?_
        exact x0_iret C rfl dX0_read_24 hF
  · refine g_iconst (v := (-1)) C dX0_read_7 rfl ?_
    exact x0_iret C rfl dX0_read_8 hF
set_option maxRecDepth 100000 in
set_option maxHeartbeats 4000000 in
theorem kX0_isCellRange (l : Launch) (D : va_G) (x0 : Int32) (x1 : Int32) (r : Int32) (hF : fX0_isCellRange x0 x1 = some r) : MI l D [] yX0_isCellRange cX0_isCellRange 2 (some .boolean) 0 0 [.int x0, .int x1] [] [] r := by
  refine g_enterI (own := RX0) (lv := [(0, .int x0), (1, .int x1)]) (by decide +kernel) rfl (Nat.le_of_ble_eq_true rfl) rfl ?_
  intro p e s m args below meth c A C
  rw [fX0_isCellRange] at hF
  refine g_iload_n C dX0_isCellRange_0 0 rfl ?_
  refine g_if_lt (tgt := 27) C dX0_isCellRange_1 rfl (fun hc hF => ?_) (fun hc hF => ?_) hF
  · refine g_iconst (v := (nI 0)) C dX0_isCellRange_27 rfl ?_
    exact s_zret C rfl rfl dX0_isCellRange_28 hF
  · refine g_iload_n C dX0_isCellRange_4 0 rfl ?_
    refine g_bipush (v := (nI 96)) C dX0_isCellRange_5 rfl ?_
    refine g_icmp_ge (tgt := 27) C dX0_isCellRange_7 rfl (fun hc hF => ?_) (fun hc hF => ?_) hF
    · refine g_iconst (v := (nI 0)) C dX0_isCellRange_27 rfl ?_
      exact s_zret C rfl rfl dX0_isCellRange_28 hF
    · refine g_iload_n C dX0_isCellRange_10 1 rfl ?_
      refine g_iconst (v := (nI 1)) C dX0_isCellRange_11 rfl ?_
      refine g_icmp_lt (tgt := 27) C dX0_isCellRange_12 rfl (fun hc hF => ?_) (fun hc hF => ?_) hF
      · refine g_iconst (v := (nI 0)) C dX0_isCellRange_27 rfl ?_
        exact s_zret C rfl rfl dX0_isCellRange_28 hF
      · refine g_iload_n C dX0_isCellRange_15 1 rfl ?_
        refine g_bipush (v := (nI 96)) C dX0_isCellRange_16 rfl ?_
        refine g_iload_n C dX0_isCellRange_18 0 rfl ?_
        refine g_isub C dX0_isCellRange_19 ?_
        refine g_icmp_gt (tgt := 27) C dX0_isCellRange_20 rfl (fun hc hF => ?_) (fun hc hF => ?_) hF
        · refine g_iconst (v := (nI 0)) C dX0_isCellRange_27 rfl ?_
          exact s_zret C rfl rfl dX0_isCellRange_28 hF
        · refine g_iconst (v := (nI 1)) C dX0_isCellRange_23 rfl ?_
          refine g_goto (tgt := 28) C dX0_isCellRange_24 rfl ?_
          exact s_zret C rfl rfl dX0_isCellRange_28 hF
set_option maxRecDepth 100000 in
set_option maxHeartbeats 4000000 in
theorem kX0_countOf (l : Launch) (D : va_G) (h0 : Nat) (E : EX) (x1 : Int32) (σ : SX) (r : Int32) (σ2 : SX) (hF : fX0_countOf x1 σ = some (r, σ2)) : MI l D (tysX0 E) yX0_countOf cX0_countOf 2 (some .int) 1 20 [.ref h0, .int x1] (wX0 h0 E σ) (wX0 h0 E σ2) r := by
  refine g_enterI (own := RX0) (lv := [(0, .ref h0), (1, .int x1)]) (by decide +kernel) rfl (Nat.le_of_ble_eq_true rfl) rfl ?_
  intro p e s m args below meth c A C
  rw [fX0_countOf] at hF
  refine g_iload_n C dX0_countOf_0 1 rfl ?_
  obtain ⟨r1, h1, hF⟩ := bs_some hF
  refine g_callS C (kX0_isBlock l D _ _ h1) gS_X0_isBlock hn_X0_isBlock rfl (Nat.le_of_ble_eq_true rfl) (Nat.le_of_ble_eq_true rfl) rfl (Nat.le_of_ble_eq_true rfl) dX0_countOf_1 ?_
  refine g_if_eq (tgt := 16) C dX0_countOf_4 rfl (fun hc hF => ?_) (fun hc hF => ?_) hF
  · refine g_iconst (v := (nI 0)) C dX0_countOf_16 rfl ?_
    exact x0_iret C rfl dX0_countOf_17 hF
  · refine g_aload_n C dX0_countOf_7 0 rfl ?_
    refine x0_get1 C dX0_countOf_8 ?_
    refine g_iload_n C dX0_countOf_11 1 rfl ?_
    refine x0_ld1 C dX0_countOf_12 (fun hF => ?_) hF
    refine g_goto (tgt := 17) C dX0_countOf_13 rfl ?_
    exact x0_iret C rfl dX0_countOf_17 hF
set_option maxRecDepth 100000 in
set_option maxHeartbeats 4000000 in
theorem kX0_addIfNeedy (l : Launch) (D : va_G) (h0 : Nat) (E : EX) (x1 : Int32) (x2 : Int32) (x3 : Int32) (σ : SX) (r : Int32) (σ2 : SX) (hF : fX0_addIfNeedy x1 x2 x3 σ = some (r, σ2)) : MV l D (tysX0 E) yX0_addIfNeedy cX0_addIfNeedy 6 none 2 42 [.ref h0, .int x1, .int x2, .int x3] (wX0 h0 E σ) (wX0 h0 E σ2) := by
  refine g_enterV (own := RX0) (lv := [(0, .ref h0), (1, .int x1), (2, .int x2), (3, .int x3)]) (by decide +kernel) rfl (Nat.le_of_ble_eq_true rfl) rfl ?_
  intro p e s m args below meth c A C
  rw [fX0_addIfNeedy] at hF
  refine g_aload_n C dX0_addIfNeedy_0 0 rfl ?_
  refine g_iload_n C dX0_addIfNeedy_1 1 rfl ?_
  refine g_iload_n C dX0_addIfNeedy_2 2 rfl ?_
  obtain ⟨r1, s1, h1, hF⟩ := bd_some hF
  refine g_callV C (kX0_blockAt l D h0 E _ _ _ _ _ h1) gV_X0_blockAt rfl rfl hn_X0_blockAt rfl (Nat.le_of_ble_eq_true rfl) (Nat.le_of_ble_eq_true rfl) rfl (Nat.le_of_ble_eq_true rfl) dX0_addIfNeedy_3 ?_
  refine g_istore (lv2 := [(4, .int r1), (0, .ref h0), (1, .int x1), (2, .int x2), (3, .int x3)]) C dX0_addIfNeedy_6 (Nat.le_of_ble_eq_true rfl) rfl ?_
  refine g_iload C dX0_addIfNeedy_8 0 rfl ?_
  obtain ⟨r2, h2, hF⟩ := bs_some hF
  refine g_callS C (kX0_isBlock l D _ _ h2) gS_X0_isBlock hn_X0_isBlock rfl (Nat.le_of_ble_eq_true rfl) (Nat.le_of_ble_eq_true rfl) rfl (Nat.le_of_ble_eq_true rfl) dX0_addIfNeedy_10 ?_
  refine g_if_eq (tgt := 34) C dX0_addIfNeedy_13 rfl (fun hc hF => ?_) (fun hc hF => ?_) hF
  · refine g_iload_n C dX0_addIfNeedy_34 4 rfl ?_
    refine g_istore (lv2 := [(5, .int x3), (4, .int r1), (0, .ref h0), (1, .int x1), (2, .int x2), (3, .int x3)]) C dX0_addIfNeedy_35 (Nat.le_of_ble_eq_true rfl) rfl ?_
    refine g_iload C dX0_addIfNeedy_37 0 rfl ?_
    refine g_if_eq (tgt := 74) C dX0_addIfNeedy_39 rfl (fun hc hF => ?_) (fun hc hF => ?_) hF
    · exact x0_vret C rfl dX0_addIfNeedy_74 hF
    · refine g_aload_n C dX0_addIfNeedy_42 2 rfl ?_
      refine x0_get5 C dX0_addIfNeedy_43 ?_
      refine g_aload_n C dX0_addIfNeedy_46 2 rfl ?_
      refine x0_get4 C dX0_addIfNeedy_47 ?_
      refine x0_len4 C dX0_addIfNeedy_50 ?_
      refine g_icmp_ge (tgt := 74) C dX0_addIfNeedy_51 rfl (fun hc hF => ?_) (fun hc hF => ?_) hF
      · exact x0_vret C rfl dX0_addIfNeedy_74 hF
      · refine g_aload_n C dX0_addIfNeedy_54 2 rfl ?_
        refine x0_get4 C dX0_addIfNeedy_55 ?_
        refine g_aload_n C dX0_addIfNeedy_58 2 rfl ?_
        refine x0_get5 C dX0_addIfNeedy_59 ?_
        refine g_iload_n C dX0_addIfNeedy_62 4 rfl ?_
        refine x0_st4 C dX0_addIfNeedy_63 (fun hF => ?_) hF
        refine g_aload_n C dX0_addIfNeedy_64 2 rfl ?_
        refine g_dup C dX0_addIfNeedy_65 rfl ?_
        refine x0_get5 C dX0_addIfNeedy_66 ?_
        refine g_iconst (v := (nI 1)) C dX0_addIfNeedy_69 rfl ?_
        refine g_iadd C dX0_addIfNeedy_70 ?_
        refine x0_put5 C dX0_addIfNeedy_71 ?_
        exact x0_vret C rfl dX0_addIfNeedy_74 hF
  · refine g_aload_n C dX0_addIfNeedy_16 1 rfl ?_
    refine g_iload C dX0_addIfNeedy_17 0 rfl ?_
    obtain ⟨r3, s3, h3, hF⟩ := bd_some hF
    refine g_callV C (kX0_countOf l D h0 E _ _ _ _ h3) gV_X0_countOf rfl rfl hn_X0_countOf rfl (Nat.le_of_ble_eq_true rfl) (Nat.le_of_ble_eq_true rfl) rfl (Nat.le_of_ble_eq_true rfl) dX0_addIfNeedy_19 ?_
    refine g_iconst (v := (nI 1)) C dX0_addIfNeedy_22 rfl ?_
    refine g_icmp_le (tgt := 30) C dX0_addIfNeedy_23 rfl (fun hc hF => ?_) (fun hc hF => ?_) hF
    · refine g_iconst (v := (nI 0)) C dX0_addIfNeedy_30 rfl ?_
      refine g_goto (tgt := 35) C dX0_addIfNeedy_31 rfl ?_
      refine g_istore (lv2 := [(5, .int (nI 0)), (4, .int r1), (0, .ref h0), (1, .int x1), (2, .int x2), (3, .int x3)]) C dX0_addIfNeedy_35 (Nat.le_of_ble_eq_true rfl) rfl ?_
      refine g_iload C dX0_addIfNeedy_37 0 rfl ?_
      refine g_if_eq (tgt := 74) C dX0_addIfNeedy_39 rfl (fun hc hF => ?_) (fun hc hF => ?_) hF
      · exact x0_vret C rfl dX0_addIfNeedy_74 hF
      · refine g_aload_n C dX0_addIfNeedy_42 2 rfl ?_
        refine x0_get5 C dX0_addIfNeedy_43 ?_
        refine g_aload_n C dX0_addIfNeedy_46 2 rfl ?_
        refine x0_get4 C dX0_addIfNeedy_47 ?_
        refine x0_len4 C dX0_addIfNeedy_50 ?_
        refine g_icmp_ge (tgt := 74) C dX0_addIfNeedy_51 rfl (fun hc hF => ?_) (fun hc hF => ?_) hF
        · exact x0_vret C rfl dX0_addIfNeedy_74 hF
        · refine g_aload_n C dX0_addIfNeedy_54 2 rfl ?_
          refine x0_get4 C dX0_addIfNeedy_55 ?_
          refine g_aload_n C dX0_addIfNeedy_58 2 rfl ?_
          refine x0_get5 C dX0_addIfNeedy_59 ?_
          refine g_iload_n C dX0_addIfNeedy_62 4 rfl ?_
          refine x0_st4 C dX0_addIfNeedy_63 (fun hF => ?_) hF
          refine g_aload_n C dX0_addIfNeedy_64 2 rfl ?_
          refine g_dup C dX0_addIfNeedy_65 rfl ?_
          refine x0_get5 C dX0_addIfNeedy_66 ?_
          refine g_iconst (v := (nI 1)) C dX0_addIfNeedy_69 rfl ?_
          refine g_iadd C dX0_addIfNeedy_70 ?_
          refine x0_put5 C dX0_addIfNeedy_71 ?_
          exact x0_vret C rfl dX0_addIfNeedy_74 hF
    · refine g_iconst (v := (nI 1)) C dX0_addIfNeedy_26 rfl ?_
      refine g_goto (tgt := 35) C dX0_addIfNeedy_27 rfl ?_
      refine g_istore (lv2 := [(5, .int (nI 1)), (4, .int r1), (0, .ref h0), (1, .int x1), (2, .int x2), (3, .int x3)]) C dX0_addIfNeedy_35 (Nat.le_of_ble_eq_true rfl) rfl ?_
      refine g_iload C dX0_addIfNeedy_37 0 rfl ?_
      refine g_if_eq (tgt := 74) C dX0_addIfNeedy_39 rfl (fun hc hF => ?_) (fun hc hF => ?_) hF
      · exact x0_vret C rfl dX0_addIfNeedy_74 hF
      · refine g_aload_n C dX0_addIfNeedy_42 2 rfl ?_
        refine x0_get5 C dX0_addIfNeedy_43 ?_
        refine g_aload_n C dX0_addIfNeedy_46 2 rfl ?_
        refine x0_get4 C dX0_addIfNeedy_47 ?_
        refine x0_len4 C dX0_addIfNeedy_50 ?_
        refine g_icmp_ge (tgt := 74) C dX0_addIfNeedy_51 rfl (fun hc hF => ?_) (fun hc hF => ?_) hF
        · exact x0_vret C rfl dX0_addIfNeedy_74 hF
        · refine g_aload_n C dX0_addIfNeedy_54 2 rfl ?_
          refine x0_get4 C dX0_addIfNeedy_55 ?_
          refine g_aload_n C dX0_addIfNeedy_58 2 rfl ?_
          refine x0_get5 C dX0_addIfNeedy_59 ?_
          refine g_iload_n C dX0_addIfNeedy_62 4 rfl ?_
          refine x0_st4 C dX0_addIfNeedy_63 (fun hF => ?_) hF
          refine g_aload_n C dX0_addIfNeedy_64 2 rfl ?_
          refine g_dup C dX0_addIfNeedy_65 rfl ?_
          refine x0_get5 C dX0_addIfNeedy_66 ?_
          refine g_iconst (v := (nI 1)) C dX0_addIfNeedy_69 rfl ?_
          refine g_iadd C dX0_addIfNeedy_70 ?_
          refine x0_put5 C dX0_addIfNeedy_71 ?_
          exact x0_vret C rfl dX0_addIfNeedy_74 hF
set_option maxRecDepth 100000 in
set_option maxHeartbeats 4000000 in
theorem wX0_chooseNeedy_L8 {p : Program} {l : Launch} {e : Env} {s : State} {m : MethodId} {args : Array Value} {below : List Frame} {meth : Method} {c : Code} {A : Nat → Prop} {D : va_G} {h0 : Nat} {E : EX} {σ2 : SX} {r : Int32} (C : GC p { frames := 3, cells := 0, slots := 0, locals := 67 } s m args meth c A D cX0_chooseNeedy 6 0 0 (tysX0 E) RX0 none) : ∀ (n : Nat) (x1 : Int32) (x3 : Int32) (x4 : Int32) (x5 : Int32) (σ : SX), fX0_chooseNeedy_L8 n x1 x3 x4 x5 σ = some (r, σ2) → GW p l e { frames := 3, cells := 0, slots := 0, locals := 67 } s m args below meth c (QV D (wX0 h0 E σ2) A below args s) A D 6 0 0 (wX0 h0 E σ) 8 [(0, .ref h0), (1, .int x1), (3, .int x3), (4, .int x4), (5, .int x5)] [] := by
  intro n
  induction n with
  | zero => intro x1 x3 x4 x5 σ hF; simp only [fX0_chooseNeedy_L8] at hF; cases hF
  | succ n ih =>
    intro x1 x3 x4 x5 σ hF
    rw [fX0_chooseNeedy_L8] at hF
    refine g_iload C dX0_chooseNeedy_8 4 rfl ?_
    refine g_iload_n C dX0_chooseNeedy_10 2 rfl ?_
    refine g_icmp_gt (tgt := 29) C dX0_chooseNeedy_11 rfl (fun hc hF => ?_) (fun hc hF => ?_) hF
    · exact x0_vret C rfl dX0_chooseNeedy_29 hF
    · refine g_aload_n C dX0_chooseNeedy_14 0 rfl ?_
      refine g_iload_n C dX0_chooseNeedy_15 1 rfl ?_
      refine g_iload C dX0_chooseNeedy_16 4 rfl ?_
      refine g_iload C dX0_chooseNeedy_18 3 rfl ?_
      obtain ⟨r1, s1, h1, hF⟩ := bd_some hF
      refine g_callVv C (kX0_addIfNeedy l D h0 E _ _ _ _ _ _ h1) gV_X0_addIfNeedy rfl rfl hn_X0_addIfNeedy rfl (Nat.le_of_ble_eq_true rfl) (Nat.le_of_ble_eq_true rfl) rfl (Nat.le_of_ble_eq_true rfl) dX0_chooseNeedy_20 ?_
      refine g_iinc (v := (x5 + nI 1)) (lv2 := [(5, .int (x5 + nI 1)), (0, .ref h0), (1, .int x1), (3, .int x3), (4, .int x4)]) C dX0_chooseNeedy_23 4 rfl rfl (Nat.le_of_ble_eq_true rfl) rfl ?_
      refine g_goto (tgt := 8) C dX0_chooseNeedy_26 rfl ?_
      refine g_sub [1, 2, 3, 4, 0] (lv2 := [(0, .ref h0), (1, .int x1), (3, .int x3), (4, .int x4), (5, .int (x5 + nI 1))]) rfl ?_
      exact ih _ _ _ _ _ hF
set_option maxRecDepth 100000 in
set_option maxHeartbeats 4000000 in
theorem kX0_chooseNeedy (l : Launch) (D : va_G) (h0 : Nat) (E : EX) (x1 : Int32) (x2 : Int32) (x3 : Int32) (x4 : Int32) (σ : SX) (r : Int32) (σ2 : SX) (hF : fX0_chooseNeedy x1 x2 x3 x4 σ = some (r, σ2)) : MV l D (tysX0 E) yX0_chooseNeedy cX0_chooseNeedy 6 none 3 67 [.ref h0, .int x1, .int x2, .int x3, .int x4] (wX0 h0 E σ) (wX0 h0 E σ2) := by
  refine g_enterV (own := RX0) (lv := [(0, .ref h0), (1, .int x1), (2, .int x2), (3, .int x3), (4, .int x4)]) (by decide +kernel) rfl (Nat.le_of_ble_eq_true rfl) rfl ?_
  intro p e s m args below meth c A C
  rw [fX0_chooseNeedy] at hF
  refine g_aload_n C dX0_chooseNeedy_0 0 rfl ?_
  refine g_iconst (v := (nI 0)) C dX0_chooseNeedy_1 rfl ?_
  refine x0_put5 C dX0_chooseNeedy_2 ?_
  refine g_iload_n C dX0_chooseNeedy_5 2 rfl ?_
  refine g_istore (lv2 := [(5, .int x2), (0, .ref h0), (1, .int x1), (2, .int x2), (3, .int x3), (4, .int x4)]) C dX0_chooseNeedy_6 (Nat.le_of_ble_eq_true rfl) rfl ?_
  refine g_sub [1, 2, 4, 5, 0] (lv2 := [(0, .ref h0), (1, .int x1), (3, .int x3), (4, .int x4), (5, .int x2)]) rfl ?_
  exact wX0_chooseNeedy_L8 C FU _ _ _ _ _ hF
set_option maxRecDepth 100000 in
set_option maxHeartbeats 4000000 in
theorem wX0_freeMany_L4 {p : Program} {l : Launch} {e : Env} {s : State} {m : MethodId} {args : Array Value} {below : List Frame} {meth : Method} {c : Code} {A : Nat → Prop} {D : va_G} {h0 : Nat} {E : EX} {σ2 : SX} {r : Int32} (C : GC p { frames := 2, cells := 0, slots := 0, locals := 41 } s m args meth c A D cX0_freeMany 3 0 0 (tysX0 E) RX0 (some .int)) : ∀ (n : Nat) (x1 : Int32) (x2 : Int32) (σ : SX), fX0_freeMany_L4 n x1 x2 σ = some (r, σ2) → GW p l e { frames := 2, cells := 0, slots := 0, locals := 41 } s m args below meth c (QI D (wX0 h0 E σ2) r A below args s) A D 3 0 0 (wX0 h0 E σ) 4 [(0, .ref h0), (1, .int x1), (2, .int x2)] [] := by
  intro n
  induction n with
  | zero => intro x1 x2 σ hF; simp only [fX0_freeMany_L4] at hF; cases hF
  | succ n ih =>
    intro x1 x2 σ hF
    rw [fX0_freeMany_L4] at hF
    refine g_iload_n C dX0_freeMany_4 2 rfl ?_
    refine g_bipush (v := (nI 48)) C dX0_freeMany_5 rfl ?_
    refine g_icmp_ge (tgt := 27) C dX0_freeMany_7 rfl (fun hc hF => ?_) (fun hc hF => ?_) hF
    · refine g_iload_n C dX0_freeMany_27 1 rfl ?_
      exact x0_iret C rfl dX0_freeMany_28 hF
    · refine g_aload_n C dX0_freeMany_10 0 rfl ?_
      refine g_iload_n C dX0_freeMany_11 2 rfl ?_
      obtain ⟨r1, s1, h1, hF⟩ := bd_some hF
      refine g_callV C (kX0_countOf l D h0 E _ _ _ _ h1) gV_X0_countOf rfl rfl hn_X0_countOf rfl (Nat.le_of_ble_eq_true rfl) (Nat.le_of_ble_eq_true rfl) rfl (Nat.le_of_ble_eq_true rfl) dX0_freeMany_12 ?_
      refine g_if_ne (tgt := 21) C dX0_freeMany_15 rfl (fun hc hF => ?_) (fun hc hF => ?_) hF
      · refine g_iinc (v := (x2 + nI 1)) (lv2 := [(2, .int (x2 + nI 1)), (0, .ref h0), (1, .int x1)]) C dX0_freeMany_21 2 rfl rfl (Nat.le_of_ble_eq_true rfl) rfl ?_
        refine g_goto (tgt := 4) C dX0_freeMany_24 rfl ?_
        refine g_sub [1, 2, 0] (lv2 := [(0, .ref h0), (1, .int x1), (2, .int (x2 + nI 1))]) rfl ?_
        exact ih _ _ _ hF
      · refine g_iinc (v := (x1 + nI 1)) (lv2 := [(1, .int (x1 + nI 1)), (0, .ref h0), (2, .int x2)]) C dX0_freeMany_18 1 rfl rfl (Nat.le_of_ble_eq_true rfl) rfl ?_
        refine g_iinc (v := (x2 + nI 1)) (lv2 := [(2, .int (x2 + nI 1)), (1, .int (x1 + nI 1)), (0, .ref h0)]) C dX0_freeMany_21 2 rfl rfl (Nat.le_of_ble_eq_true rfl) rfl ?_
        refine g_goto (tgt := 4) C dX0_freeMany_24 rfl ?_
        refine g_sub [2, 1, 0] (lv2 := [(0, .ref h0), (1, .int (x1 + nI 1)), (2, .int (x2 + nI 1))]) rfl ?_
        exact ih _ _ _ hF
set_option maxRecDepth 100000 in
set_option maxHeartbeats 4000000 in
theorem kX0_freeMany (l : Launch) (D : va_G) (h0 : Nat) (E : EX) (σ : SX) (r : Int32) (σ2 : SX) (hF : fX0_freeMany σ = some (r, σ2)) : MI l D (tysX0 E) yX0_freeMany cX0_freeMany 3 (some .int) 2 41 [.ref h0] (wX0 h0 E σ) (wX0 h0 E σ2) r := by
  refine g_enterI (own := RX0) (lv := [(0, .ref h0)]) (by decide +kernel) rfl (Nat.le_of_ble_eq_true rfl) rfl ?_
  intro p e s m args below meth c A C
  rw [fX0_freeMany] at hF
  refine g_iconst (v := (nI 0)) C dX0_freeMany_0 rfl ?_
  refine g_istore_n (lv2 := [(1, .int (nI 0)), (0, .ref h0)]) C dX0_freeMany_1 (Nat.le_of_ble_eq_true rfl) rfl ?_
  refine g_iconst (v := (nI 0)) C dX0_freeMany_2 rfl ?_
  refine g_istore_n (lv2 := [(2, .int (nI 0)), (1, .int (nI 0)), (0, .ref h0)]) C dX0_freeMany_3 (Nat.le_of_ble_eq_true rfl) rfl ?_
  refine g_sub [2, 1, 0] (lv2 := [(0, .ref h0), (1, .int (nI 0)), (2, .int (nI 0))]) rfl ?_
  exact wX0_freeMany_L4 C FU _ _ _ hF
set_option maxRecDepth 100000 in
set_option maxHeartbeats 4000000 in
theorem kX0_isSpent (l : Launch) (D : va_G) (h0 : Nat) (E : EX) (σ : SX) (r : Int32) (σ2 : SX) (hF : fX0_isSpent σ = some (r, σ2)) : MI l D (tysX0 E) yX0_isSpent cX0_isSpent 1 (some .boolean) 3 63 [.ref h0] (wX0 h0 E σ) (wX0 h0 E σ2) r := by
  refine g_enterI (own := RX0) (lv := [(0, .ref h0)]) (by decide +kernel) rfl (Nat.le_of_ble_eq_true rfl) rfl ?_
  intro p e s m args below meth c A C
  rw [fX0_isSpent] at hF
  refine g_aload_n C dX0_isSpent_0 0 rfl ?_
  refine x0_get5 C dX0_isSpent_1 ?_
  refine g_aload_n C dX0_isSpent_4 0 rfl ?_
  obtain ⟨r1, s1, h1, hF⟩ := bd_some hF
  refine g_callV C (kX0_freeMany l D h0 E _ _ _ h1) gV_X0_freeMany rfl rfl hn_X0_freeMany rfl (Nat.le_of_ble_eq_true rfl) (Nat.le_of_ble_eq_true rfl) rfl (Nat.le_of_ble_eq_true rfl) dX0_isSpent_5 ?_
  refine g_icmp_le (tgt := 15) C dX0_isSpent_8 rfl (fun hc hF => ?_) (fun hc hF => ?_) hF
  · refine g_iconst (v := (nI 0)) C dX0_isSpent_15 rfl ?_
    exact x0_zret C rfl rfl dX0_isSpent_16 hF
  · refine g_iconst (v := (nI 1)) C dX0_isSpent_11 rfl ?_
    refine g_goto (tgt := 16) C dX0_isSpent_12 rfl ?_
    exact x0_zret C rfl rfl dX0_isSpent_16 hF
set_option maxRecDepth 100000 in
set_option maxHeartbeats 4000000 in
theorem kX0_startsStretch (l : Launch) (D : va_G) (h0 : Nat) (E : EX) (x1 : Int32) (x2 : Int32) (σ : SX) (r : Int32) (σ2 : SX) (hF : fX0_startsStretch x1 x2 σ = some (r, σ2)) : MI l D (tysX0 E) yX0_startsStretch cX0_startsStretch 3 (some .boolean) 2 41 [.ref h0, .int x1, .int x2] (wX0 h0 E σ) (wX0 h0 E σ2) r := by
  refine g_enterI (own := RX0) (lv := [(0, .ref h0), (1, .int x1), (2, .int x2)]) (by decide +kernel) rfl (Nat.le_of_ble_eq_true rfl) rfl ?_
  intro p e s m args below meth c A C
  rw [fX0_startsStretch] at hF
  refine g_aload_n C dX0_startsStretch_0 0 rfl ?_
  refine g_iload_n C dX0_startsStretch_1 1 rfl ?_
  obtain ⟨r1, s1, h1, hF⟩ := bd_some hF
  refine g_callV C (kX0_countOf l D h0 E _ _ _ _ h1) gV_X0_countOf rfl rfl hn_X0_countOf rfl (Nat.le_of_ble_eq_true rfl) (Nat.le_of_ble_eq_true rfl) rfl (Nat.le_of_ble_eq_true rfl) dX0_startsStretch_2 ?_
  refine g_if_ne (tgt := 12) C dX0_startsStretch_5 rfl (fun hc hF => ?_) (fun hc hF => ?_) hF
  · refine g_iconst (v := (nI 0)) C dX0_startsStretch_12 rfl ?_
    refine g_iload_n C dX0_startsStretch_13 2 rfl ?_
    refine g_icmp_ne (tgt := 40) C dX0_startsStretch_14 rfl (fun hc hF => ?_) (fun hc hF => ?_) hF
    · refine g_iconst (v := (nI 0)) C dX0_startsStretch_40 rfl ?_
      exact x0_zret C rfl rfl dX0_startsStretch_41 hF
    · refine g_iload_n C dX0_startsStretch_17 1 rfl ?_
      refine g_if_eq (tgt := 36) C dX0_startsStretch_18 rfl (fun hc hF => ?_) (fun hc hF => ?_) hF
      · refine g_iconst (v := (nI 1)) C dX0_startsStretch_36 rfl ?_
        refine g_goto (tgt := 41) C dX0_startsStretch_37 rfl ?_
        exact x0_zret C rfl rfl dX0_startsStretch_41 hF
      · refine g_aload_n C dX0_startsStretch_21 0 rfl ?_
        refine g_iload_n C dX0_startsStretch_22 1 rfl ?_
        refine g_iconst (v := (nI 1)) C dX0_startsStretch_23 rfl ?_
        refine g_isub C dX0_startsStretch_24 ?_
        obtain ⟨r2, s2, h2, hF⟩ := bd_some hF
        refine g_callV C (kX0_countOf l D h0 E _ _ _ _ h2) gV_X0_countOf rfl rfl hn_X0_countOf rfl (Nat.le_of_ble_eq_true rfl) (Nat.le_of_ble_eq_true rfl) rfl (Nat.le_of_ble_eq_true rfl) dX0_startsStretch_25 ?_
        refine g_aload_n C dX0_startsStretch_28 0 rfl ?_
        refine g_iload_n C dX0_startsStretch_29 1 rfl ?_
        obtain ⟨r3, s3, h3, hF⟩ := bd_some hF
        refine g_callV C (kX0_countOf l D h0 E _ _ _ _ h3) gV_X0_countOf rfl rfl hn_X0_countOf rfl (Nat.le_of_ble_eq_true rfl) (Nat.le_of_ble_eq_true rfl) rfl (Nat.le_of_ble_eq_true rfl) dX0_startsStretch_30 ?_
        refine g_icmp_eq (tgt := 40) C dX0_startsStretch_33 rfl (fun hc hF => ?_) (fun hc hF => ?_) hF
        · refine g_iconst (v := (nI 0)) C dX0_startsStretch_40 rfl ?_
          exact x0_zret C rfl rfl dX0_startsStretch_41 hF
        · refine g_iconst (v := (nI 1)) C dX0_startsStretch_36 rfl ?_
          refine g_goto (tgt := 41) C dX0_startsStretch_37 rfl ?_
          exact x0_zret C rfl rfl dX0_startsStretch_41 hF
  · refine g_iconst (v := (nI 1)) C dX0_startsStretch_8 rfl ?_
    refine g_goto (tgt := 13) C dX0_startsStretch_9 rfl ?_
    refine g_iload_n C dX0_startsStretch_13 2 rfl ?_
    refine g_icmp_ne (tgt := 40) C dX0_startsStretch_14 rfl (fun hc hF => ?_) (fun hc hF => ?_) hF
    · refine g_iconst (v := (nI 0)) C dX0_startsStretch_40 rfl ?_
      exact x0_zret C rfl rfl dX0_startsStretch_41 hF
    · refine g_iload_n C dX0_startsStretch_17 1 rfl ?_
      refine g_if_eq (tgt := 36) C dX0_startsStretch_18 rfl (fun hc hF => ?_) (fun hc hF => ?_) hF
      · refine g_iconst (v := (nI 1)) C dX0_startsStretch_36 rfl ?_
        refine g_goto (tgt := 41) C dX0_startsStretch_37 rfl ?_
        exact x0_zret C rfl rfl dX0_startsStretch_41 hF
      · refine g_aload_n C dX0_startsStretch_21 0 rfl ?_
        refine g_iload_n C dX0_startsStretch_22 1 rfl ?_
        refine g_iconst (v := (nI 1)) C dX0_startsStretch_23 rfl ?_
        refine g_isub C dX0_startsStretch_24 ?_
        obtain ⟨r4, s4, h4, hF⟩ := bd_some hF
        refine g_callV C (kX0_countOf l D h0 E _ _ _ _ h4) gV_X0_countOf rfl rfl hn_X0_countOf rfl (Nat.le_of_ble_eq_true rfl) (Nat.le_of_ble_eq_true rfl) rfl (Nat.le_of_ble_eq_true rfl) dX0_startsStretch_25 ?_
        refine g_aload_n C dX0_startsStretch_28 0 rfl ?_
        refine g_iload_n C dX0_startsStretch_29 1 rfl ?_
        obtain ⟨r5, s5, h5, hF⟩ := bd_some hF
        refine g_callV C (kX0_countOf l D h0 E _ _ _ _ h5) gV_X0_countOf rfl rfl hn_X0_countOf rfl (Nat.le_of_ble_eq_true rfl) (Nat.le_of_ble_eq_true rfl) rfl (Nat.le_of_ble_eq_true rfl) dX0_startsStretch_30 ?_
        refine g_icmp_eq (tgt := 40) C dX0_startsStretch_33 rfl (fun hc hF => ?_) (fun hc hF => ?_) hF
        · refine g_iconst (v := (nI 0)) C dX0_startsStretch_40 rfl ?_
          exact x0_zret C rfl rfl dX0_startsStretch_41 hF
        · refine g_iconst (v := (nI 1)) C dX0_startsStretch_36 rfl ?_
          refine g_goto (tgt := 41) C dX0_startsStretch_37 rfl ?_
          exact x0_zret C rfl rfl dX0_startsStretch_41 hF
set_option maxRecDepth 100000 in
set_option maxHeartbeats 4000000 in
theorem wX0_stretchLength_L6 {p : Program} {l : Launch} {e : Env} {s : State} {m : MethodId} {args : Array Value} {below : List Frame} {meth : Method} {c : Code} {A : Nat → Prop} {D : va_G} {h0 : Nat} {E : EX} {σ2 : SX} {r : Int32} (C : GC p { frames := 2, cells := 0, slots := 0, locals := 41 } s m args meth c A D cX0_stretchLength 4 0 0 (tysX0 E) RX0 (some .int)) : ∀ (n : Nat) (x1 : Int32) (x2 : Int32) (x3 : Int32) (σ : SX), fX0_stretchLength_L6 n x1 x2 x3 σ = some (r, σ2) → GW p l e { frames := 2, cells := 0, slots := 0, locals := 41 } s m args below meth c (QI D (wX0 h0 E σ2) r A below args s) A D 4 0 0 (wX0 h0 E σ) 6 [(0, .ref h0), (1, .int x1), (2, .int x2), (3, .int x3)] [] := by
  intro n
  induction n with
  | zero => intro x1 x2 x3 σ hF; simp only [fX0_stretchLength_L6] at hF; cases hF
  | succ n ih =>
    intro x1 x2 x3 σ hF
    rw [fX0_stretchLength_L6] at hF
    refine g_iload_n C dX0_stretchLength_6 3 rfl ?_
    refine g_bipush (v := (nI 48)) C dX0_stretchLength_7 rfl ?_
    refine g_icmp_ge (tgt := 34) C dX0_stretchLength_9 rfl (fun hc hF => ?_) (fun hc hF => ?_) hF
    · refine g_iload_n C dX0_stretchLength_34 2 rfl ?_
      exact x0_iret C rfl dX0_stretchLength_35 hF
    · refine g_aload_n C dX0_stretchLength_12 0 rfl ?_
      refine g_iload_n C dX0_stretchLength_13 3 rfl ?_
      obtain ⟨r1, s1, h1, hF⟩ := bd_some hF
      refine g_callV C (kX0_countOf l D h0 E _ _ _ _ h1) gV_X0_countOf rfl rfl hn_X0_countOf rfl (Nat.le_of_ble_eq_true rfl) (Nat.le_of_ble_eq_true rfl) rfl (Nat.le_of_ble_eq_true rfl) dX0_stretchLength_14 ?_
      refine g_aload_n C dX0_stretchLength_17 0 rfl ?_
      refine g_iload_n C dX0_stretchLength_18 1 rfl ?_
      obtain ⟨r2, s2, h2, hF⟩ := bd_some hF
      refine g_callV C (kX0_countOf l D h0 E _ _ _ _ h2) gV_X0_countOf rfl rfl hn_X0_countOf rfl (Nat.le_of_ble_eq_true rfl) (Nat.le_of_ble_eq_true rfl) rfl (Nat.le_of_ble_eq_true rfl) dX0_stretchLength_19 ?_
      refine g_icmp_ne (tgt := 34) C dX0_stretchLength_22 rfl (fun hc hF => ?_) (fun hc hF => ?_) hF
      · refine g_iload_n C dX0_stretchLength_34 2 rfl ?_
        exact x0_iret C rfl dX0_stretchLength_35 hF
      · refine g_iinc (v := (x2 + nI 1)) (lv2 := [(2, .int (x2 + nI 1)), (0, .ref h0), (1, .int x1), (3, .int x3)]) C dX0_stretchLength_25 2 rfl rfl (Nat.le_of_ble_eq_true rfl) rfl ?_
        refine g_iinc (v := (x3 + nI 1)) (lv2 := [(3, .int (x3 + nI 1)), (2, .int (x2 + nI 1)), (0, .ref h0), (1, .int x1)]) C dX0_stretchLength_28 3 rfl rfl (Nat.le_of_ble_eq_true rfl) rfl ?_
        refine g_goto (tgt := 6) C dX0_stretchLength_31 rfl ?_
        refine g_sub [2, 3, 1, 0] (lv2 := [(0, .ref h0), (1, .int x1), (2, .int (x2 + nI 1)), (3, .int (x3 + nI 1))]) rfl ?_
        exact ih _ _ _ _ hF
set_option maxRecDepth 100000 in
set_option maxHeartbeats 4000000 in
theorem kX0_stretchLength (l : Launch) (D : va_G) (h0 : Nat) (E : EX) (x1 : Int32) (σ : SX) (r : Int32) (σ2 : SX) (hF : fX0_stretchLength x1 σ = some (r, σ2)) : MI l D (tysX0 E) yX0_stretchLength cX0_stretchLength 4 (some .int) 2 41 [.ref h0, .int x1] (wX0 h0 E σ) (wX0 h0 E σ2) r := by
  refine g_enterI (own := RX0) (lv := [(0, .ref h0), (1, .int x1)]) (by decide +kernel) rfl (Nat.le_of_ble_eq_true rfl) rfl ?_
  intro p e s m args below meth c A C
  rw [fX0_stretchLength] at hF
  refine g_iconst (v := (nI 1)) C dX0_stretchLength_0 rfl ?_
  refine g_istore_n (lv2 := [(2, .int (nI 1)), (0, .ref h0), (1, .int x1)]) C dX0_stretchLength_1 (Nat.le_of_ble_eq_true rfl) rfl ?_
  refine g_iload_n C dX0_stretchLength_2 2 rfl ?_
  refine g_iconst (v := (nI 1)) C dX0_stretchLength_3 rfl ?_
  refine g_iadd C dX0_stretchLength_4 ?_
  refine g_istore_n (lv2 := [(3, .int (x1 + (nI 1))), (2, .int (nI 1)), (0, .ref h0), (1, .int x1)]) C dX0_stretchLength_5 (Nat.le_of_ble_eq_true rfl) rfl ?_
  refine g_sub [2, 3, 1, 0] (lv2 := [(0, .ref h0), (1, .int x1), (2, .int (nI 1)), (3, .int (x1 + (nI 1)))]) rfl ?_
  exact wX0_stretchLength_L6 C FU _ _ _ _ hF
set_option maxRecDepth 100000 in
set_option maxHeartbeats 4000000 in
theorem kX0_fitsBetter (l : Launch) (D : va_G) (x0 : Int32) (x1 : Int32) (x2 : Int32) (r : Int32) (hF : fX0_fitsBetter x0 x1 x2 = some r) : MI l D [] yX0_fitsBetter cX0_fitsBetter 3 (some .boolean) 0 0 [.int x0, .int x1, .int x2] [] [] r := by
  refine g_enterI (own := RX0) (lv := [(0, .int x0), (1, .int x1), (2, .int x2)]) (by decide +kernel) rfl (Nat.le_of_ble_eq_true rfl) rfl ?_
  intro p e s m args below meth c A C
  rw [fX0_fitsBetter] at hF
  refine g_iload_n C dX0_fitsBetter_0 0 rfl ?_
  refine g_iload_n C dX0_fitsBetter_1 2 rfl ?_
  refine g_icmp_lt (tgt := 21) C dX0_fitsBetter_2 rfl (fun hc hF => ?_) (fun hc hF => ?_) hF
  · refine g_iload_n C dX0_fitsBetter_21 0 rfl ?_
    refine g_iload_n C dX0_fitsBetter_22 1 rfl ?_
    refine g_icmp_le (tgt := 30) C dX0_fitsBetter_23 rfl (fun hc hF => ?_) (fun hc hF => ?_) hF
    · refine g_iconst (v := (nI 0)) C dX0_fitsBetter_30 rfl ?_
      exact s_zret C rfl rfl dX0_fitsBetter_31 hF
    · refine g_iconst (v := (nI 1)) C dX0_fitsBetter_26 rfl ?_
      refine g_goto (tgt := 31) C dX0_fitsBetter_27 rfl ?_
      exact s_zret C rfl rfl dX0_fitsBetter_31 hF
  · refine g_iload_n C dX0_fitsBetter_5 1 rfl ?_
    refine g_iload_n C dX0_fitsBetter_6 2 rfl ?_
    refine g_icmp_lt (tgt := 15) C dX0_fitsBetter_7 rfl (fun hc hF => ?_) (fun hc hF => ?_) hF
    · refine g_iconst (v := (nI 1)) C dX0_fitsBetter_15 rfl ?_
      refine g_goto (tgt := 20) C dX0_fitsBetter_16 rfl ?_
      exact s_zret C rfl rfl dX0_fitsBetter_20 hF
    · refine g_iload_n C dX0_fitsBetter_10 0 rfl ?_
      refine g_iload_n C dX0_fitsBetter_11 1 rfl ?_
      refine g_icmp_ge (tgt := 19) C dX0_fitsBetter_12 rfl (fun hc hF => ?_) (fun hc hF => ?_) hF
      · refine g_iconst (v := (nI 0)) C dX0_fitsBetter_19 rfl ?_
        exact s_zret C rfl rfl dX0_fitsBetter_20 hF
      · refine g_iconst (v := (nI 1)) C dX0_fitsBetter_15 rfl ?_
        refine g_goto (tgt := 20) C dX0_fitsBetter_16 rfl ?_
        exact s_zret C rfl rfl dX0_fitsBetter_20 hF
set_option maxRecDepth 100000 in
set_option maxHeartbeats 4000000 in
theorem wX0_bestRun_L8 {p : Program} {l : Launch} {e : Env} {s : State} {m : MethodId} {args : Array Value} {below : List Frame} {meth : Method} {c : Code} {A : Nat → Prop} {D : va_G} {h0 : Nat} {E : EX} {σ2 : SX} {r : Int32} (C : GC p { frames := 3, cells := 0, slots := 0, locals := 64 } s m args meth c A D cX0_bestRun 5 0 0 (tysX0 E) RX0 (some .int)) : ∀ (n : Nat) (x1 : Int32) (x2 : Int32) (x3 : Int32) (x4 : Int32) (σ : SX), fX0_bestRun_L8 n x1 x2 x3 x4 σ = some (r, σ2) → GW p l e { frames := 3, cells := 0, slots := 0, locals := 64 } s m args below meth c (QI D (wX0 h0 E σ2) r A below args s) A D 5 0 0 (wX0 h0 E σ) 8 [(0, .ref h0), (1, .int x1), (2, .int x2), (3, .int x3), (4, .int x4)] [] := by
  intro n
  induction n with
  | zero => intro x1 x2 x3 x4 σ hF; simp only [fX0_bestRun_L8] at hF; cases hF
  | succ n ih =>
    intro x1 x2 x3 x4 σ hF
    rw [fX0_bestRun_L8] at hF
    refine g_iload C dX0_bestRun_8 4 rfl ?_
    refine g_bipush (v := (nI 48)) C dX0_bestRun_10 rfl ?_
    refine g_icmp_ge (tgt := 55) C dX0_bestRun_12 rfl (fun hc hF => ?_) (fun hc hF => ?_) hF
    · refine g_iload_n C dX0_bestRun_55 2 rfl ?_
      exact x0_iret C rfl dX0_bestRun_56 hF
    · refine g_aload_n C dX0_bestRun_15 0 rfl ?_
      refine g_iload C dX0_bestRun_16 4 rfl ?_
      refine g_iconst (v := (nI 1)) C dX0_bestRun_18 rfl ?_
      obtain ⟨r1, s1, h1, hF⟩ := bd_some hF
      refine g_callV C (kX0_startsStretch l D h0 E _ _ _ _ _ h1) gV_X0_startsStretch rfl rfl hn_X0_startsStretch rfl (Nat.le_of_ble_eq_true rfl) (Nat.le_of_ble_eq_true rfl) rfl (Nat.le_of_ble_eq_true rfl) dX0_bestRun_19 ?_
      refine g_if_eq (tgt := 49) C dX0_bestRun_22 rfl (fun hc hF => ?_) (fun hc hF => ?_) hF
      · refine g_iinc (v := (x4 + nI 1)) (lv2 := [(4, .int (x4 + nI 1)), (0, .ref h0), (1, .int x1), (2, .int x2), (3, .int x3)]) C dX0_bestRun_49 4 rfl rfl (Nat.le_of_ble_eq_true rfl) rfl ?_
        refine g_goto (tgt := 8) C dX0_bestRun_52 rfl ?_
        refine g_sub [1, 2, 3, 4, 0] (lv2 := [(0, .ref h0), (1, .int x1), (2, .int x2), (3, .int x3), (4, .int (x4 + nI 1))]) rfl ?_
        exact ih _ _ _ _ _ hF
      · refine g_aload_n C dX0_bestRun_25 0 rfl ?_
        refine g_iload C dX0_bestRun_26 4 rfl ?_
        obtain ⟨r2, s2, h2, hF⟩ := bd_some hF
        refine g_callV C (kX0_stretchLength l D h0 E _ _ _ _ h2) gV_X0_stretchLength rfl rfl hn_X0_stretchLength rfl (Nat.le_of_ble_eq_true rfl) (Nat.le_of_ble_eq_true rfl) rfl (Nat.le_of_ble_eq_true rfl) dX0_bestRun_28 ?_
        refine g_iload_n C dX0_bestRun_31 3 rfl ?_
        refine g_iload_n C dX0_bestRun_32 1 rfl ?_
        obtain ⟨r3, h3, hF⟩ := bs_some hF
        refine g_callS C (kX0_fitsBetter l D _ _ _ _ h3) gS_X0_fitsBetter hn_X0_fitsBetter rfl (Nat.le_of_ble_eq_true rfl) (Nat.le_of_ble_eq_true rfl) rfl (Nat.le_of_ble_eq_true rfl) dX0_bestRun_33 ?_
        refine g_if_eq (tgt := 49) C dX0_bestRun_36 rfl (fun hc hF => ?_) (fun hc hF => ?_) hF
        · refine g_iinc (v := (x4 + nI 1)) (lv2 := [(4, .int (x4 + nI 1)), (0, .ref h0), (1, .int x1), (2, .int x2), (3, .int x3)]) C dX0_bestRun_49 4 rfl rfl (Nat.le_of_ble_eq_true rfl) rfl ?_
          refine g_goto (tgt := 8) C dX0_bestRun_52 rfl ?_
          refine g_sub [1, 2, 3, 4, 0] (lv2 := [(0, .ref h0), (1, .int x1), (2, .int x2), (3, .int x3), (4, .int (x4 + nI 1))]) rfl ?_
          exact ih _ _ _ _ _ hF
        · refine g_iload C dX0_bestRun_39 4 rfl ?_
          refine g_istore_n (lv2 := [(2, .int x4), (0, .ref h0), (1, .int x1), (3, .int x3), (4, .int x4)]) C dX0_bestRun_41 (Nat.le_of_ble_eq_true rfl) rfl ?_
          refine g_aload_n C dX0_bestRun_42 1 rfl ?_
          refine g_iload C dX0_bestRun_43 4 rfl ?_
          obtain ⟨r4, s4, h4, hF⟩ := bd_some hF
          refine g_callV C (kX0_stretchLength l D h0 E _ _ _ _ h4) gV_X0_stretchLength rfl rfl hn_X0_stretchLength rfl (Nat.le_of_ble_eq_true rfl) (Nat.le_of_ble_eq_true rfl) rfl (Nat.le_of_ble_eq_true rfl) dX0_bestRun_45 ?_
          refine g_istore_n (lv2 := [(3, .int r4), (2, .int x4), (0, .ref h0), (1, .int x1), (4, .int x4)]) C dX0_bestRun_48 (Nat.le_of_ble_eq_true rfl) rfl ?_
          refine g_iinc (v := (x4 + nI 1)) (lv2 := [(4, .int (x4 + nI 1)), (3, .int r4), (2, .int x4), (0, .ref h0), (1, .int x1)]) C dX0_bestRun_49 4 rfl rfl (Nat.le_of_ble_eq_true rfl) rfl ?_
          refine g_goto (tgt := 8) C dX0_bestRun_52 rfl ?_
          refine g_sub [3, 4, 2, 1, 0] (lv2 := [(0, .ref h0), (1, .int x1), (2, .int x4), (3, .int r4), (4, .int (x4 + nI 1))]) rfl ?_
          exact ih _ _ _ _ _ hF
set_option maxRecDepth 100000 in
set_option maxHeartbeats 4000000 in
theorem kX0_bestRun (l : Launch) (D : va_G) (h0 : Nat) (E : EX) (x1 : Int32) (σ : SX) (r : Int32) (σ2 : SX) (hF : fX0_bestRun x1 σ = some (r, σ2)) : MI l D (tysX0 E) yX0_bestRun cX0_bestRun 5 (some .int) 3 64 [.ref h0, .int x1] (wX0 h0 E σ) (wX0 h0 E σ2) r := by
  refine g_enterI (own := RX0) (lv := [(0, .ref h0), (1, .int x1)]) (by decide +kernel) rfl (Nat.le_of_ble_eq_true rfl) rfl ?_
  intro p e s m args below meth c A C
  rw [fX0_bestRun] at hF
  refine g_bipush (v := nN) C dX0_bestRun_0 rfl ?_
  refine g_istore_n (lv2 := [(2, .int nN), (0, .ref h0), (1, .int x1)]) C dX0_bestRun_2 (Nat.le_of_ble_eq_true rfl) rfl ?_
  refine g_iconst (v := (nI 0)) C dX0_bestRun_3 rfl ?_
  refine g_istore_n (lv2 := [(3, .int (nI 0)), (2, .int nN), (0, .ref h0), (1, .int x1)]) C dX0_bestRun_4 (Nat.le_of_ble_eq_true rfl) rfl ?_
  refine g_iconst (v := (nI 0)) C dX0_bestRun_5 rfl ?_
  refine g_istore (lv2 := [(4, .int (nI 0)), (3, .int (nI 0)), (2, .int nN), (0, .ref h0), (1, .int x1)]) C dX0_bestRun_6 (Nat.le_of_ble_eq_true rfl) rfl ?_
  refine g_sub [3, 4, 2, 1, 0] (lv2 := [(0, .ref h0), (1, .int x1), (2, .int nN), (3, .int (nI 0)), (4, .int (nI 0))]) rfl ?_
  exact wX0_bestRun_L8 C FU _ _ _ _ _ hF
set_option maxRecDepth 100000 in
set_option maxHeartbeats 4000000 in
theorem kX0_addToCount (l : Launch) (D : va_G) (h0 : Nat) (E : EX) (x1 : Int32) (x2 : Int32) (σ : SX) (r : Int32) (σ2 : SX) (hF : fX0_addToCount x1 x2 σ = some (r, σ2)) : MV l D (tysX0 E) yX0_addToCount cX0_addToCount 3 none 1 20 [.ref h0, .int x1, .int x2] (wX0 h0 E σ) (wX0 h0 E σ2) := by
  refine g_enterV (own := RX0) (lv := [(0, .ref h0), (1, .int x1), (2, .int x2)]) (by decide +kernel) rfl (Nat.le_of_ble_eq_true rfl) rfl ?_
  intro p e s m args below meth c A C
  rw [fX0_addToCount] at hF
  refine g_iload_n C dX0_addToCount_0 1 rfl ?_
  obtain ⟨r1, h1, hF⟩ := bs_some hF
  refine g_callS C (kX0_isBlock l D _ _ h1) gS_X0_isBlock hn_X0_isBlock rfl (Nat.le_of_ble_eq_true rfl) (Nat.le_of_ble_eq_true rfl) rfl (Nat.le_of_ble_eq_true rfl) dX0_addToCount_1 ?_
  refine g_if_eq (tgt := 17) C dX0_addToCount_4 rfl (fun hc hF => ?_) (fun hc hF => ?_) hF
  · exact x0_vret C rfl dX0_addToCount_17 hF
  · refine g_aload_n C dX0_addToCount_7 0 rfl ?_
    refine x0_get1 C dX0_addToCount_8 ?_
    refine g_iload_n C dX0_addToCount_11 1 rfl ?_
    refine g_dup2 C dX0_addToCount_12 rfl rfl ?_
    refine x0_ld1 C dX0_addToCount_13 (fun hF => ?_) hF
    refine g_iload_n C dX0_addToCount_14 2 rfl ?_
    refine g_iadd C dX0_addToCount_15 ?_
    refine x0_st1 C dX0_addToCount_16 (fun hF => ?_) hF
    exact x0_vret C rfl dX0_addToCount_17 hF
set_option maxRecDepth 100000 in
set_option maxHeartbeats 4000000 in
theorem wX0_takeFromRun_L23 {p : Program} {l : Launch} {e : Env} {s : State} {m : MethodId} {args : Array Value} {below : List Frame} {meth : Method} {c : Code} {A : Nat → Prop} {D : va_G} {h0 : Nat} {E : EX} {σ2 : SX} {r : Int32} (C : GC p { frames := 3, cells := 0, slots := 0, locals := 64 } s m args meth c A D cX0_takeFromRun 5 0 0 (tysX0 E) RX0 none) : ∀ (n : Nat) (x3 : Int32) (x4 : Int32) (σ : SX), fX0_takeFromRun_L23 n x3 x4 σ = some (r, σ2) → GW p l e { frames := 3, cells := 0, slots := 0, locals := 64 } s m args below meth c (QV D (wX0 h0 E σ2) A below args s) A D 5 0 0 (wX0 h0 E σ) 23 [(0, .ref h0), (3, .int x3), (4, .int x4)] [] := by
  intro n
  induction n with
  | zero => intro x3 x4 σ hF; simp only [fX0_takeFromRun_L23] at hF; cases hF
  | succ n ih =>
    intro x3 x4 σ hF
    rw [fX0_takeFromRun_L23] at hF
    refine g_iload C dX0_takeFromRun_23 2 rfl ?_
    refine g_iload_n C dX0_takeFromRun_25 1 rfl ?_
    refine g_icmp_ge (tgt := 75) C dX0_takeFromRun_26 rfl (fun hc hF => ?_) (fun hc hF => ?_) hF
    · exact x0_vret C rfl dX0_takeFromRun_75 hF
    · refine g_aload_n C dX0_takeFromRun_29 0 rfl ?_
      refine x0_get7 C dX0_takeFromRun_30 ?_
      refine g_aload_n C dX0_takeFromRun_33 0 rfl ?_
      refine x0_get6 C dX0_takeFromRun_34 ?_
      refine x0_len6 C dX0_takeFromRun_37 ?_
      refine g_icmp_ge (tgt := 75) C dX0_takeFromRun_38 rfl (fun hc hF => ?_) (fun hc hF => ?_) hF
      · exact x0_vret C rfl dX0_takeFromRun_75 hF
      · refine g_aload_n C dX0_takeFromRun_41 0 rfl ?_
        refine g_iload C dX0_takeFromRun_42 2 rfl ?_
        refine g_iconst (v := (nI 1)) C dX0_takeFromRun_44 rfl ?_
        obtain ⟨r1, s1, h1, hF⟩ := bd_some hF
        refine g_callVv C (kX0_addToCount l D h0 E _ _ _ _ _ h1) gV_X0_addToCount rfl rfl hn_X0_addToCount rfl (Nat.le_of_ble_eq_true rfl) (Nat.le_of_ble_eq_true rfl) rfl (Nat.le_of_ble_eq_true rfl) dX0_takeFromRun_45 ?_
        refine g_aload_n C dX0_takeFromRun_48 0 rfl ?_
        refine x0_get6 C dX0_takeFromRun_49 ?_
        refine g_aload_n C dX0_takeFromRun_52 0 rfl ?_
        refine x0_get7 C dX0_takeFromRun_53 ?_
        refine g_iload C dX0_takeFromRun_56 2 rfl ?_
        refine x0_st6 C dX0_takeFromRun_58 (fun hF => ?_) hF
        refine g_aload_n C dX0_takeFromRun_59 0 rfl ?_
        refine g_dup C dX0_takeFromRun_60 rfl ?_
        refine x0_get7 C dX0_takeFromRun_61 ?_
        refine g_iconst (v := (nI 1)) C dX0_takeFromRun_64 rfl ?_
        refine g_iadd C dX0_takeFromRun_65 ?_
        refine x0_put7 C dX0_takeFromRun_66 ?_
        refine g_iinc (v := (x4 + nI 1)) (lv2 := [(4, .int (x4 + nI 1)), (0, .ref h0), (3, .int x3)]) C dX0_takeFromRun_69 2 rfl rfl (Nat.le_of_ble_eq_true rfl) rfl ?_
        refine g_goto (tgt := 23) C dX0_takeFromRun_72 rfl ?_
        refine g_sub [1, 2, 0] (lv2 := [(0, .ref h0), (3, .int x3), (4, .int (x4 + nI 1))]) rfl ?_
        exact ih _ _ _ hF
set_option maxRecDepth 100000 in
set_option maxHeartbeats 4000000 in
theorem kX0_takeFromRun (l : Launch) (D : va_G) (h0 : Nat) (E : EX) (x1 : Int32) (x2 : Int32) (σ : SX) (r : Int32) (σ2 : SX) (hF : fX0_takeFromRun x1 x2 σ = some (r, σ2)) : MV l D (tysX0 E) yX0_takeFromRun cX0_takeFromRun 5 none 3 64 [.ref h0, .int x1, .int x2] (wX0 h0 E σ) (wX0 h0 E σ2) := by
  refine g_enterV (own := RX0) (lv := [(0, .ref h0), (1, .int x1), (2, .int x2)]) (by decide +kernel) rfl (Nat.le_of_ble_eq_true rfl) rfl ?_
  intro p e s m args below meth c A C
  rw [fX0_takeFromRun] at hF
  refine g_iload_n C dX0_takeFromRun_0 1 rfl ?_
  obtain ⟨r1, h1, hF⟩ := bs_some hF
  refine g_callS C (kX0_isBlock l D _ _ h1) gS_X0_isBlock hn_X0_isBlock rfl (Nat.le_of_ble_eq_true rfl) (Nat.le_of_ble_eq_true rfl) rfl (Nat.le_of_ble_eq_true rfl) dX0_takeFromRun_1 ?_
  refine g_if_ne (tgt := 8) C dX0_takeFromRun_4 rfl (fun hc hF => ?_) (fun hc hF => ?_) hF
  · refine g_iload_n C dX0_takeFromRun_8 1 rfl ?_
    refine g_iload_n C dX0_takeFromRun_9 2 rfl ?_
    refine g_aload_n C dX0_takeFromRun_10 0 rfl ?_
    refine g_iload_n C dX0_takeFromRun_11 1 rfl ?_
    obtain ⟨r2, s2, h2, hF⟩ := bd_some hF
    refine g_callV C (kX0_stretchLength l D h0 E _ _ _ _ h2) gV_X0_stretchLength rfl rfl hn_X0_stretchLength rfl (Nat.le_of_ble_eq_true rfl) (Nat.le_of_ble_eq_true rfl) rfl (Nat.le_of_ble_eq_true rfl) dX0_takeFromRun_12 ?_
    refine g_mn C mw_200 mw_201 mw_62 mw_202 (Nat.le_of_ble_eq_true rfl) (Nat.le_of_ble_eq_true rfl) dX0_takeFromRun_15 ?_
    refine g_iadd C dX0_takeFromRun_18 ?_
    refine g_istore_n (lv2 := [(3, .int (x1 + (mn x2 r2))), (0, .ref h0), (1, .int x1), (2, .int x2)]) C dX0_takeFromRun_19 (Nat.le_of_ble_eq_true rfl) rfl ?_
    refine g_iload_n C dX0_takeFromRun_20 2 rfl ?_
    refine g_istore (lv2 := [(4, .int x1), (3, .int (x1 + (mn x2 r2))), (0, .ref h0), (1, .int x1), (2, .int x2)]) C dX0_takeFromRun_21 (Nat.le_of_ble_eq_true rfl) rfl ?_
    refine g_sub [2, 1, 0] (lv2 := [(0, .ref h0), (3, .int (x1 + (mn x2 r2))), (4, .int x1)]) rfl ?_
    exact wX0_takeFromRun_L23 C FU _ _ _ hF
  · exact x0_vret C rfl dX0_takeFromRun_7 hF
set_option maxRecDepth 100000 in
set_option maxHeartbeats 4000000 in
theorem wX0_getBlocks_L7 {p : Program} {l : Launch} {e : Env} {s : State} {m : MethodId} {args : Array Value} {below : List Frame} {meth : Method} {c : Code} {A : Nat → Prop} {D : va_G} {h0 : Nat} {E : EX} {σ2 : SX} {r : Int32} (C : GC p { frames := 4, cells := 0, slots := 0, locals := 88 } s m args meth c A D cX0_getBlocks 3 0 0 (tysX0 E) RX0 none) : ∀ (n : Nat) (x1 : Int32) (x2 : Int32) (σ : SX), fX0_getBlocks_L7 n x1 x2 σ = some (r, σ2) → GW p l e { frames := 4, cells := 0, slots := 0, locals := 88 } s m args below meth c (QV D (wX0 h0 E σ2) A below args s) A D 3 0 0 (wX0 h0 E σ) 7 [(0, .ref h0), (1, .int x1), (2, .int x2)] [] := by
  intro n
  induction n with
  | zero => intro x1 x2 σ hF; simp only [fX0_getBlocks_L7] at hF; cases hF
  | succ n ih =>
    intro x1 x2 σ hF
    rw [fX0_getBlocks_L7] at hF
    refine g_iload_n C dX0_getBlocks_7 2 rfl ?_
    refine g_bipush (v := (nI 48)) C dX0_getBlocks_8 rfl ?_
    refine g_icmp_ge (tgt := 47) C dX0_getBlocks_10 rfl (fun hc hF => ?_) (fun hc hF => ?_) hF
    · exact x0_vret C rfl dX0_getBlocks_47 hF
    · refine g_aload_n C dX0_getBlocks_13 0 rfl ?_
      refine x0_get7 C dX0_getBlocks_14 ?_
      refine g_iload_n C dX0_getBlocks_17 1 rfl ?_
      refine g_icmp_ge (tgt := 47) C dX0_getBlocks_18 rfl (fun hc hF => ?_) (fun hc hF => ?_) hF
      · exact x0_vret C rfl dX0_getBlocks_47 hF
      · refine g_aload_n C dX0_getBlocks_21 0 rfl ?_
        refine g_aload_n C dX0_getBlocks_22 0 rfl ?_
        refine g_iload_n C dX0_getBlocks_23 1 rfl ?_
        refine g_aload_n C dX0_getBlocks_24 0 rfl ?_
        refine x0_get7 C dX0_getBlocks_25 ?_
        refine g_isub C dX0_getBlocks_28 ?_
        obtain ⟨r1, s1, h1, hF⟩ := bd_some hF
        refine g_callV C (kX0_bestRun l D h0 E _ _ _ _ h1) gV_X0_bestRun rfl rfl hn_X0_bestRun rfl (Nat.le_of_ble_eq_true rfl) (Nat.le_of_ble_eq_true rfl) rfl (Nat.le_of_ble_eq_true rfl) dX0_getBlocks_29 ?_
        refine g_iload_n C dX0_getBlocks_32 1 rfl ?_
        refine g_aload_n C dX0_getBlocks_33 0 rfl ?_
        refine x0_get7 C dX0_getBlocks_34 ?_
        refine g_isub C dX0_getBlocks_37 ?_
        obtain ⟨r2, s2, h2, hF⟩ := bd_some hF
        refine g_callVv C (kX0_takeFromRun l D h0 E _ _ _ _ _ h2) gV_X0_takeFromRun rfl rfl hn_X0_takeFromRun rfl (Nat.le_of_ble_eq_true rfl) (Nat.le_of_ble_eq_true rfl) rfl (Nat.le_of_ble_eq_true rfl) dX0_getBlocks_38 ?_
        refine g_iinc (v := (x2 + nI 1)) (lv2 := [(2, .int (x2 + nI 1)), (0, .ref h0), (1, .int x1)]) C dX0_getBlocks_41 2 rfl rfl (Nat.le_of_ble_eq_true rfl) rfl ?_
        refine g_goto (tgt := 7) C dX0_getBlocks_44 rfl ?_
        refine g_sub [1, 2, 0] (lv2 := [(0, .ref h0), (1, .int x1), (2, .int (x2 + nI 1))]) rfl ?_
        exact ih _ _ _ hF
set_option maxRecDepth 100000 in
set_option maxHeartbeats 4000000 in
theorem kX0_getBlocks (l : Launch) (D : va_G) (h0 : Nat) (E : EX) (x1 : Int32) (σ : SX) (r : Int32) (σ2 : SX) (hF : fX0_getBlocks x1 σ = some (r, σ2)) : MV l D (tysX0 E) yX0_getBlocks cX0_getBlocks 3 none 4 88 [.ref h0, .int x1] (wX0 h0 E σ) (wX0 h0 E σ2) := by
  refine g_enterV (own := RX0) (lv := [(0, .ref h0), (1, .int x1)]) (by decide +kernel) rfl (Nat.le_of_ble_eq_true rfl) rfl ?_
  intro p e s m args below meth c A C
  rw [fX0_getBlocks] at hF
  refine g_aload_n C dX0_getBlocks_0 0 rfl ?_
  refine g_iconst (v := (nI 0)) C dX0_getBlocks_1 rfl ?_
  refine x0_put7 C dX0_getBlocks_2 ?_
  refine g_iconst (v := (nI 0)) C dX0_getBlocks_5 rfl ?_
  refine g_istore_n (lv2 := [(2, .int (nI 0)), (0, .ref h0), (1, .int x1)]) C dX0_getBlocks_6 (Nat.le_of_ble_eq_true rfl) rfl ?_
  refine g_sub [1, 2, 0] (lv2 := [(0, .ref h0), (1, .int x1), (2, .int (nI 0))]) rfl ?_
  exact wX0_getBlocks_L7 C FU _ _ _ hF
set_option maxRecDepth 100000 in
set_option maxHeartbeats 4000000 in
theorem kX0_setCell (l : Launch) (D : va_G) (h0 : Nat) (E : EX) (x1 : Int32) (x2 : Int32) (x3 : Int32) (σ : SX) (r : Int32) (σ2 : SX) (hF : fX0_setCell x1 x2 x3 σ = some (r, σ2)) : MV l D (tysX0 E) yX0_setCell cX0_setCell 4 none 1 20 [.ref h0, .int x1, .int x2, .int x3] (wX0 h0 E σ) (wX0 h0 E σ2) := by
  refine g_enterV (own := RX0) (lv := [(0, .ref h0), (1, .int x1), (2, .int x2), (3, .int x3)]) (by decide +kernel) rfl (Nat.le_of_ble_eq_true rfl) rfl ?_
  intro p e s m args below meth c A C
  rw [fX0_setCell] at hF
  refine g_iload_n C dX0_setCell_0 1 rfl ?_
  obtain ⟨r1, h1, hF⟩ := bs_some hF
  refine g_callS C (kX0_isBlock l D _ _ h1) gS_X0_isBlock hn_X0_isBlock rfl (Nat.le_of_ble_eq_true rfl) (Nat.le_of_ble_eq_true rfl) rfl (Nat.le_of_ble_eq_true rfl) dX0_setCell_1 ?_
  refine g_if_eq (tgt := 27) C dX0_setCell_4 rfl (fun hc hF => ?_) (fun hc hF => ?_) hF
  · exact x0_vret C rfl dX0_setCell_27 hF
  · refine g_iload_n C dX0_setCell_7 2 rfl ?_
    refine g_if_lt (tgt := 27) C dX0_setCell_8 rfl (fun hc hF => ?_) (fun hc hF => ?_) hF
    · exact x0_vret C rfl dX0_setCell_27 hF
    · refine g_iload_n C dX0_setCell_11 2 rfl ?_
      refine g_iconst (v := (nI 4)) C dX0_setCell_12 rfl ?_
      refine g_icmp_ge (tgt := 27) C dX0_setCell_13 rfl (fun hc hF => ?_) (fun hc hF => ?_) hF
      · exact x0_vret C rfl dX0_setCell_27 hF
      · refine g_aload_n C dX0_setCell_16 0 rfl ?_
        refine x0_get0 C dX0_setCell_17 ?_
        refine g_iload_n C dX0_setCell_20 1 rfl ?_
        refine g_iconst (v := (nI 4)) C dX0_setCell_21 rfl ?_
        refine g_imul C dX0_setCell_22 ?_
        refine g_iload_n C dX0_setCell_23 2 rfl ?_
        refine g_iadd C dX0_setCell_24 ?_
        refine g_iload_n C dX0_setCell_25 3 rfl ?_
        refine x0_st0 C dX0_setCell_26 (fun hF => ?_) hF
        exact x0_vret C rfl dX0_setCell_27 hF
set_option maxRecDepth 100000 in
set_option maxHeartbeats 4000000 in
theorem kX0_putBlock (l : Launch) (D : va_G) (h0 : Nat) (E : EX) (x1 : Int32) (x2 : Int32) (x3 : Int32) (σ : SX) (r : Int32) (σ2 : SX) (hF : fX0_putBlock x1 x2 x3 σ = some (r, σ2)) : MV l D (tysX0 E) yX0_putBlock cX0_putBlock 4 none 2 42 [.ref h0, .int x1, .int x2, .int x3] (wX0 h0 E σ) (wX0 h0 E σ2) := by
  refine g_enterV (own := RX0) (lv := [(0, .ref h0), (1, .int x1), (2, .int x2), (3, .int x3)]) (by decide +kernel) rfl (Nat.le_of_ble_eq_true rfl) rfl ?_
  intro p e s m args below meth c A C
  rw [fX0_putBlock] at hF
  refine g_iload_n C dX0_putBlock_0 1 rfl ?_
  obtain ⟨r1, h1, hF⟩ := bs_some hF
  refine g_callS C (kX0_isFile l D _ _ h1) gS_X0_isFile hn_X0_isFile rfl (Nat.le_of_ble_eq_true rfl) (Nat.le_of_ble_eq_true rfl) rfl (Nat.le_of_ble_eq_true rfl) dX0_putBlock_1 ?_
  refine g_if_eq (tgt := 43) C dX0_putBlock_4 rfl (fun hc hF => ?_) (fun hc hF => ?_) hF
  · exact x0_vret C rfl dX0_putBlock_43 hF
  · refine g_iload_n C dX0_putBlock_7 2 rfl ?_
    obtain ⟨r2, h2, hF⟩ := bs_some hF
    refine g_callS C (kX0_isPlace l D _ _ h2) gS_X0_isPlace hn_X0_isPlace rfl (Nat.le_of_ble_eq_true rfl) (Nat.le_of_ble_eq_true rfl) rfl (Nat.le_of_ble_eq_true rfl) dX0_putBlock_8 ?_
    refine g_if_eq (tgt := 43) C dX0_putBlock_11 rfl (fun hc hF => ?_) (fun hc hF => ?_) hF
    · exact x0_vret C rfl dX0_putBlock_43 hF
    · refine g_aload_n C dX0_putBlock_14 0 rfl ?_
      refine g_aload_n C dX0_putBlock_15 0 rfl ?_
      refine g_iload_n C dX0_putBlock_16 1 rfl ?_
      refine g_iload_n C dX0_putBlock_17 2 rfl ?_
      obtain ⟨r3, s3, h3, hF⟩ := bd_some hF
      refine g_callV C (kX0_blockAt l D h0 E _ _ _ _ _ h3) gV_X0_blockAt rfl rfl hn_X0_blockAt rfl (Nat.le_of_ble_eq_true rfl) (Nat.le_of_ble_eq_true rfl) rfl (Nat.le_of_ble_eq_true rfl) dX0_putBlock_18 ?_
      refine g_iconst (v := (-1)) C dX0_putBlock_21 rfl ?_
      obtain ⟨r4, s4, h4, hF⟩ := bd_some hF
      refine g_callVv C (kX0_addToCount l D h0 E _ _ _ _ _ h4) gV_X0_addToCount rfl rfl hn_X0_addToCount rfl (Nat.le_of_ble_eq_true rfl) (Nat.le_of_ble_eq_true rfl) rfl (Nat.le_of_ble_eq_true rfl) dX0_putBlock_22 ?_
      refine g_aload_n C dX0_putBlock_25 0 rfl ?_
      refine g_iload_n C dX0_putBlock_26 3 rfl ?_
      refine g_iconst (v := (nI 1)) C dX0_putBlock_27 rfl ?_
      obtain ⟨r5, s5, h5, hF⟩ := bd_some hF
      refine g_callVv C (kX0_addToCount l D h0 E _ _ _ _ _ h5) gV_X0_addToCount rfl rfl hn_X0_addToCount rfl (Nat.le_of_ble_eq_true rfl) (Nat.le_of_ble_eq_true rfl) rfl (Nat.le_of_ble_eq_true rfl) dX0_putBlock_28 ?_
      refine g_aload_n C dX0_putBlock_31 0 rfl ?_
      refine x0_get2 C dX0_putBlock_32 ?_
      refine g_iload_n C dX0_putBlock_35 1 rfl ?_
      refine g_bipush (v := (nI 24)) C dX0_putBlock_36 rfl ?_
      refine g_imul C dX0_putBlock_38 ?_
      refine g_iload_n C dX0_putBlock_39 2 rfl ?_
      refine g_iadd C dX0_putBlock_40 ?_
      refine g_iload_n C dX0_putBlock_41 3 rfl ?_
      refine x0_st2 C dX0_putBlock_42 (fun hF => ?_) hF
      exact x0_vret C rfl dX0_putBlock_43 hF
set_option maxRecDepth 100000 in
set_option maxHeartbeats 4000000 in
theorem wX0_giveBlock_L11 {p : Program} {l : Launch} {e : Env} {s : State} {m : MethodId} {args : Array Value} {below : List Frame} {meth : Method} {c : Code} {A : Nat → Prop} {D : va_G} {h0 : Nat} {E : EX} {σ2 : SX} {r : Int32} (C : GC p { frames := 3, cells := 0, slots := 0, locals := 65 } s m args meth c A D cX0_giveBlock 6 0 0 (tysX0 E) RX0 none) : ∀ (n : Nat) (x1 : Int32) (x2 : Int32) (x3 : Int32) (x4 : Int32) (x5 : Int32) (σ : SX), fX0_giveBlock_L11 n x1 x2 x3 x4 x5 σ = some (r, σ2) → GW p l e { frames := 3, cells := 0, slots := 0, locals := 65 } s m args below meth c (QV D (wX0 h0 E σ2) A below args s) A D 6 0 0 (wX0 h0 E σ) 11 [(0, .ref h0), (1, .int x1), (2, .int x2), (3, .int x3), (4, .int x4), (5, .int x5)] [] := by
  intro n
  induction n with
  | zero => intro x1 x2 x3 x4 x5 σ hF; simp only [fX0_giveBlock_L11] at hF; cases hF
  | succ n ih =>
    intro x1 x2 x3 x4 x5 σ hF
    rw [fX0_giveBlock_L11] at hF
    refine g_iload C dX0_giveBlock_11 5 rfl ?_
    refine g_iconst (v := (nI 4)) C dX0_giveBlock_13 rfl ?_
    refine g_icmp_ge (tgt := 38) C dX0_giveBlock_14 rfl (fun hc hF => ?_) (fun hc hF => ?_) hF
    · refine g_aload_n C dX0_giveBlock_38 0 rfl ?_
      refine g_iload_n C dX0_giveBlock_39 1 rfl ?_
      refine g_iload_n C dX0_giveBlock_40 2 rfl ?_
      refine g_iload_n C dX0_giveBlock_41 3 rfl ?_
      obtain ⟨r1, s1, h1, hF⟩ := bd_some hF
      refine g_callVv C (kX0_putBlock l D h0 E _ _ _ _ _ _ h1) gV_X0_putBlock rfl rfl hn_X0_putBlock rfl (Nat.le_of_ble_eq_true rfl) (Nat.le_of_ble_eq_true rfl) rfl (Nat.le_of_ble_eq_true rfl) dX0_giveBlock_42 ?_
      refine g_aload_n C dX0_giveBlock_45 0 rfl ?_
      refine g_iload_n C dX0_giveBlock_46 3 rfl ?_
      refine g_iconst (v := (-1)) C dX0_giveBlock_47 rfl ?_
      obtain ⟨r2, s2, h2, hF⟩ := bd_some hF
      refine g_callVv C (kX0_addToCount l D h0 E _ _ _ _ _ h2) gV_X0_addToCount rfl rfl hn_X0_addToCount rfl (Nat.le_of_ble_eq_true rfl) (Nat.le_of_ble_eq_true rfl) rfl (Nat.le_of_ble_eq_true rfl) dX0_giveBlock_48 ?_
      exact x0_vret C rfl dX0_giveBlock_51 hF
    · refine g_aload_n C dX0_giveBlock_17 0 rfl ?_
      refine g_iload_n C dX0_giveBlock_18 3 rfl ?_
      refine g_iload C dX0_giveBlock_19 5 rfl ?_
      refine g_aload_n C dX0_giveBlock_21 0 rfl ?_
      refine g_iload C dX0_giveBlock_22 4 rfl ?_
      refine g_iload C dX0_giveBlock_24 5 rfl ?_
      obtain ⟨r3, s3, h3, hF⟩ := bd_some hF
      refine g_callV C (kX0_cellOf l D h0 E _ _ _ _ _ h3) gV_X0_cellOf rfl rfl hn_X0_cellOf rfl (Nat.le_of_ble_eq_true rfl) (Nat.le_of_ble_eq_true rfl) rfl (Nat.le_of_ble_eq_true rfl) dX0_giveBlock_26 ?_
      obtain ⟨r4, s4, h4, hF⟩ := bd_some hF
      refine g_callVv C (kX0_setCell l D h0 E _ _ _ _ _ _ h4) gV_X0_setCell rfl rfl hn_X0_setCell rfl (Nat.le_of_ble_eq_true rfl) (Nat.le_of_ble_eq_true rfl) rfl (Nat.le_of_ble_eq_true rfl) dX0_giveBlock_29 ?_
      refine g_iinc (v := (x5 + nI 1)) (lv2 := [(5, .int (x5 + nI 1)), (0, .ref h0), (1, .int x1), (2, .int x2), (3, .int x3), (4, .int x4)]) C dX0_giveBlock_32 5 rfl rfl (Nat.le_of_ble_eq_true rfl) rfl ?_
      refine g_goto (tgt := 11) C dX0_giveBlock_35 rfl ?_
      refine g_sub [1, 2, 3, 4, 5, 0] (lv2 := [(0, .ref h0), (1, .int x1), (2, .int x2), (3, .int x3), (4, .int x4), (5, .int (x5 + nI 1))]) rfl ?_
      exact ih _ _ _ _ _ _ hF
set_option maxRecDepth 100000 in
set_option maxHeartbeats 4000000 in
theorem kX0_giveBlock (l : Launch) (D : va_G) (h0 : Nat) (E : EX) (x1 : Int32) (x2 : Int32) (x3 : Int32) (σ : SX) (r : Int32) (σ2 : SX) (hF : fX0_giveBlock x1 x2 x3 σ = some (r, σ2)) : MV l D (tysX0 E) yX0_giveBlock cX0_giveBlock 6 none 3 65 [.ref h0, .int x1, .int x2, .int x3] (wX0 h0 E σ) (wX0 h0 E σ2) := by
  refine g_enterV (own := RX0) (lv := [(0, .ref h0), (1, .int x1), (2, .int x2), (3, .int x3)]) (by decide +kernel) rfl (Nat.le_of_ble_eq_true rfl) rfl ?_
  intro p e s m args below meth c A C
  rw [fX0_giveBlock] at hF
  refine g_aload_n C dX0_giveBlock_0 0 rfl ?_
  refine g_iload_n C dX0_giveBlock_1 1 rfl ?_
  refine g_iload_n C dX0_giveBlock_2 2 rfl ?_
  obtain ⟨r1, s1, h1, hF⟩ := bd_some hF
  refine g_callV C (kX0_blockAt l D h0 E _ _ _ _ _ h1) gV_X0_blockAt rfl rfl hn_X0_blockAt rfl (Nat.le_of_ble_eq_true rfl) (Nat.le_of_ble_eq_true rfl) rfl (Nat.le_of_ble_eq_true rfl) dX0_giveBlock_3 ?_
  refine g_istore (lv2 := [(4, .int r1), (0, .ref h0), (1, .int x1), (2, .int x2), (3, .int x3)]) C dX0_giveBlock_6 (Nat.le_of_ble_eq_true rfl) rfl ?_
  refine g_iconst (v := (nI 0)) C dX0_giveBlock_8 rfl ?_
  refine g_istore (lv2 := [(5, .int (nI 0)), (4, .int r1), (0, .ref h0), (1, .int x1), (2, .int x2), (3, .int x3)]) C dX0_giveBlock_9 (Nat.le_of_ble_eq_true rfl) rfl ?_
  refine g_sub [2, 3, 4, 5, 1, 0] (lv2 := [(0, .ref h0), (1, .int x1), (2, .int x2), (3, .int x3), (4, .int r1), (5, .int (nI 0))]) rfl ?_
  exact wX0_giveBlock_L11 C FU _ _ _ _ _ _ hF
set_option maxRecDepth 100000 in
set_option maxHeartbeats 4000000 in
theorem wX0_ownNeedy_L10 {p : Program} {l : Launch} {e : Env} {s : State} {m : MethodId} {args : Array Value} {below : List Frame} {meth : Method} {c : Code} {A : Nat → Prop} {D : va_G} {h0 : Nat} {E : EX} {σ2 : SX} {r : Int32} (C : GC p { frames := 5, cells := 0, slots := 0, locals := 110 } s m args meth c A D cX0_ownNeedy 3 0 0 (tysX0 E) RX0 none) : ∀ (n : Nat) (x1 : Int32) (x2 : Int32) (σ : SX), fX0_ownNeedy_L10 n x1 x2 σ = some (r, σ2) → GW p l e { frames := 5, cells := 0, slots := 0, locals := 110 } s m args below meth c (QV D (wX0 h0 E σ2) A below args s) A D 3 0 0 (wX0 h0 E σ) 10 [(0, .ref h0), (1, .int x1), (2, .int x2)] [] := by
  intro n
  induction n with
  | zero => intro x1 x2 σ hF; simp only [fX0_ownNeedy_L10] at hF; cases hF
  | succ n ih =>
    intro x1 x2 σ hF
    rw [fX0_ownNeedy_L10] at hF
    refine g_iload_n C dX0_ownNeedy_10 2 rfl ?_
    refine g_aload_n C dX0_ownNeedy_11 0 rfl ?_
    refine x0_get5 C dX0_ownNeedy_12 ?_
    refine g_icmp_ge (tgt := 49) C dX0_ownNeedy_15 rfl (fun hc hF => ?_) (fun hc hF => ?_) hF
    · exact x0_vret C rfl dX0_ownNeedy_49 hF
    · refine g_iload_n C dX0_ownNeedy_18 2 rfl ?_
      refine g_aload_n C dX0_ownNeedy_19 0 rfl ?_
      refine x0_get7 C dX0_ownNeedy_20 ?_
      refine g_icmp_ge (tgt := 49) C dX0_ownNeedy_23 rfl (fun hc hF => ?_) (fun hc hF => ?_) hF
      · exact x0_vret C rfl dX0_ownNeedy_49 hF
      · refine g_aload_n C dX0_ownNeedy_26 0 rfl ?_
        refine g_iload_n C dX0_ownNeedy_27 1 rfl ?_
        refine g_aload_n C dX0_ownNeedy_28 0 rfl ?_
        refine x0_get4 C dX0_ownNeedy_29 ?_
        refine g_iload_n C dX0_ownNeedy_32 2 rfl ?_
        refine x0_ld4 C dX0_ownNeedy_33 (fun hF => ?_) hF
        refine g_aload_n C dX0_ownNeedy_34 0 rfl ?_
        refine x0_get6 C dX0_ownNeedy_35 ?_
        refine g_iload_n C dX0_ownNeedy_38 2 rfl ?_
        refine x0_ld6 C dX0_ownNeedy_39 (fun hF => ?_) hF
        obtain ⟨r1, s1, h1, hF⟩ := bd_some hF
        refine g_callVv C (kX0_giveBlock l D h0 E _ _ _ _ _ _ h1) gV_X0_giveBlock rfl rfl hn_X0_giveBlock rfl (Nat.le_of_ble_eq_true rfl) (Nat.le_of_ble_eq_true rfl) rfl (Nat.le_of_ble_eq_true rfl) dX0_ownNeedy_40 ?_
        refine g_iinc (v := (x2 + nI 1)) (lv2 := [(2, .int (x2 + nI 1)), (0, .ref h0), (1, .int x1)]) C dX0_ownNeedy_43 2 rfl rfl (Nat.le_of_ble_eq_true rfl) rfl ?_
        refine g_goto (tgt := 10) C dX0_ownNeedy_46 rfl ?_
        refine g_sub [1, 2, 0] (lv2 := [(0, .ref h0), (1, .int x1), (2, .int (x2 + nI 1))]) rfl ?_
        exact ih _ _ _ hF
set_option maxRecDepth 100000 in
set_option maxHeartbeats 4000000 in
theorem kX0_ownNeedy (l : Launch) (D : va_G) (h0 : Nat) (E : EX) (x1 : Int32) (σ : SX) (r : Int32) (σ2 : SX) (hF : fX0_ownNeedy x1 σ = some (r, σ2)) : MV l D (tysX0 E) yX0_ownNeedy cX0_ownNeedy 3 none 5 110 [.ref h0, .int x1] (wX0 h0 E σ) (wX0 h0 E σ2) := by
  refine g_enterV (own := RX0) (lv := [(0, .ref h0), (1, .int x1)]) (by decide +kernel) rfl (Nat.le_of_ble_eq_true rfl) rfl ?_
  intro p e s m args below meth c A C
  rw [fX0_ownNeedy] at hF
  refine g_aload_n C dX0_ownNeedy_0 0 rfl ?_
  refine g_aload_n C dX0_ownNeedy_1 0 rfl ?_
  refine x0_get5 C dX0_ownNeedy_2 ?_
  obtain ⟨r1, s1, h1, hF⟩ := bd_some hF
  refine g_callVv C (kX0_getBlocks l D h0 E _ _ _ _ h1) gV_X0_getBlocks rfl rfl hn_X0_getBlocks rfl (Nat.le_of_ble_eq_true rfl) (Nat.le_of_ble_eq_true rfl) rfl (Nat.le_of_ble_eq_true rfl) dX0_ownNeedy_5 ?_
  refine g_iconst (v := (nI 0)) C dX0_ownNeedy_8 rfl ?_
  refine g_istore_n (lv2 := [(2, .int (nI 0)), (0, .ref h0), (1, .int x1)]) C dX0_ownNeedy_9 (Nat.le_of_ble_eq_true rfl) rfl ?_
  refine g_sub [1, 2, 0] (lv2 := [(0, .ref h0), (1, .int x1), (2, .int (nI 0))]) rfl ?_
  exact wX0_ownNeedy_L10 C FU _ _ _ hF
set_option maxRecDepth 100000 in
set_option maxHeartbeats 4000000 in
theorem wX0_setCells_L3 {p : Program} {l : Launch} {e : Env} {s : State} {m : MethodId} {args : Array Value} {below : List Frame} {meth : Method} {c : Code} {A : Nat → Prop} {D : va_G} {h0 : Nat} {E : EX} {σ2 : SX} {r : Int32} (C : GC p { frames := 2, cells := 0, slots := 0, locals := 43 } s m args meth c A D cX0_setCells 6 0 0 (tysX0 E) RX0 none) : ∀ (n : Nat) (x1 : Int32) (x3 : Int32) (x4 : Int32) (x5 : Int32) (σ : SX), fX0_setCells_L3 n x1 x3 x4 x5 σ = some (r, σ2) → GW p l e { frames := 2, cells := 0, slots := 0, locals := 43 } s m args below meth c (QV D (wX0 h0 E σ2) A below args s) A D 6 0 0 (wX0 h0 E σ) 3 [(0, .ref h0), (1, .int x1), (3, .int x3), (4, .int x4), (5, .int x5)] [] := by
  intro n
  induction n with
  | zero => intro x1 x3 x4 x5 σ hF; simp only [fX0_setCells_L3] at hF; cases hF
  | succ n ih =>
    intro x1 x3 x4 x5 σ hF
    rw [fX0_setCells_L3] at hF
    refine g_iload C dX0_setCells_3 4 rfl ?_
    refine g_iload_n C dX0_setCells_5 2 rfl ?_
    refine g_icmp_ge (tgt := 34) C dX0_setCells_6 rfl (fun hc hF => ?_) (fun hc hF => ?_) hF
    · exact x0_vret C rfl dX0_setCells_34 hF
    · refine g_aload_n C dX0_setCells_9 0 rfl ?_
      refine g_aload_n C dX0_setCells_10 0 rfl ?_
      refine g_iload_n C dX0_setCells_11 1 rfl ?_
      refine g_iload C dX0_setCells_12 4 rfl ?_
      refine g_iconst (v := (nI 4)) C dX0_setCells_14 rfl ?_
      refine g_idiv C dX0_setCells_15 (by decide) ?_
      obtain ⟨r1, s1, h1, hF⟩ := bd_some hF
      refine g_callV C (kX0_blockAt l D h0 E _ _ _ _ _ h1) gV_X0_blockAt rfl rfl hn_X0_blockAt rfl (Nat.le_of_ble_eq_true rfl) (Nat.le_of_ble_eq_true rfl) rfl (Nat.le_of_ble_eq_true rfl) dX0_setCells_16 ?_
      refine g_iload C dX0_setCells_19 4 rfl ?_
      refine g_iconst (v := (nI 4)) C dX0_setCells_21 rfl ?_
      refine g_irem C dX0_setCells_22 (by decide) ?_
      refine g_iload C dX0_setCells_23 3 rfl ?_
      obtain ⟨r2, s2, h2, hF⟩ := bd_some hF
      refine g_callVv C (kX0_setCell l D h0 E _ _ _ _ _ _ h2) gV_X0_setCell rfl rfl hn_X0_setCell rfl (Nat.le_of_ble_eq_true rfl) (Nat.le_of_ble_eq_true rfl) rfl (Nat.le_of_ble_eq_true rfl) dX0_setCells_25 ?_
      refine g_iinc (v := (x5 + nI 1)) (lv2 := [(5, .int (x5 + nI 1)), (0, .ref h0), (1, .int x1), (3, .int x3), (4, .int x4)]) C dX0_setCells_28 4 rfl rfl (Nat.le_of_ble_eq_true rfl) rfl ?_
      refine g_goto (tgt := 3) C dX0_setCells_31 rfl ?_
      refine g_sub [1, 2, 3, 4, 0] (lv2 := [(0, .ref h0), (1, .int x1), (3, .int x3), (4, .int x4), (5, .int (x5 + nI 1))]) rfl ?_
      exact ih _ _ _ _ _ hF
set_option maxRecDepth 100000 in
set_option maxHeartbeats 4000000 in
theorem kX0_setCells (l : Launch) (D : va_G) (h0 : Nat) (E : EX) (x1 : Int32) (x2 : Int32) (x3 : Int32) (x4 : Int32) (σ : SX) (r : Int32) (σ2 : SX) (hF : fX0_setCells x1 x2 x3 x4 σ = some (r, σ2)) : MV l D (tysX0 E) yX0_setCells cX0_setCells 6 none 2 43 [.ref h0, .int x1, .int x2, .int x3, .int x4] (wX0 h0 E σ) (wX0 h0 E σ2) := by
  refine g_enterV (own := RX0) (lv := [(0, .ref h0), (1, .int x1), (2, .int x2), (3, .int x3), (4, .int x4)]) (by decide +kernel) rfl (Nat.le_of_ble_eq_true rfl) rfl ?_
  intro p e s m args below meth c A C
  rw [fX0_setCells] at hF
  refine g_iload_n C dX0_setCells_0 2 rfl ?_
  refine g_istore (lv2 := [(5, .int x2), (0, .ref h0), (1, .int x1), (2, .int x2), (3, .int x3), (4, .int x4)]) C dX0_setCells_1 (Nat.le_of_ble_eq_true rfl) rfl ?_
  refine g_sub [1, 2, 4, 5, 0] (lv2 := [(0, .ref h0), (1, .int x1), (3, .int x3), (4, .int x4), (5, .int x2)]) rfl ?_
  exact wX0_setCells_L3 C FU _ _ _ _ _ hF
set_option maxRecDepth 100000 in
set_option maxHeartbeats 4000000 in
theorem kX0_setSize (l : Launch) (D : va_G) (h0 : Nat) (E : EX) (x1 : Int32) (x2 : Int32) (σ : SX) (r : Int32) (σ2 : SX) (hF : fX0_setSize x1 x2 σ = some (r, σ2)) : MV l D (tysX0 E) yX0_setSize cX0_setSize 3 none 1 20 [.ref h0, .int x1, .int x2] (wX0 h0 E σ) (wX0 h0 E σ2) := by
  refine g_enterV (own := RX0) (lv := [(0, .ref h0), (1, .int x1), (2, .int x2)]) (by decide +kernel) rfl (Nat.le_of_ble_eq_true rfl) rfl ?_
  intro p e s m args below meth c A C
  rw [fX0_setSize] at hF
  refine g_iload_n C dX0_setSize_0 1 rfl ?_
  obtain ⟨r1, h1, hF⟩ := bs_some hF
  refine g_callS C (kX0_isFile l D _ _ h1) gS_X0_isFile hn_X0_isFile rfl (Nat.le_of_ble_eq_true rfl) (Nat.le_of_ble_eq_true rfl) rfl (Nat.le_of_ble_eq_true rfl) dX0_setSize_1 ?_
  refine g_if_eq (tgt := 14) C dX0_setSize_4 rfl (fun hc hF => ?_) (fun hc hF => ?_) hF
  · exact x0_vret C rfl dX0_setSize_14 hF
  · refine g_aload_n C dX0_setSize_7 0 rfl ?_
    refine x0_get3 C dX0_setSize_8 ?_
    refine g_iload_n C dX0_setSize_11 1 rfl ?_
    refine g_iload_n C dX0_setSize_12 2 rfl ?_
    refine x0_st3 C dX0_setSize_13 (fun hF => ?_) hF
    exact x0_vret C rfl dX0_setSize_14 hF
set_option maxRecDepth 100000 in
set_option maxHeartbeats 4000000 in
theorem kX0_growTo (l : Launch) (D : va_G) (h0 : Nat) (E : EX) (x1 : Int32) (x2 : Int32) (σ : SX) (r : Int32) (σ2 : SX) (hF : fX0_growTo x1 x2 σ = some (r, σ2)) : MV l D (tysX0 E) yX0_growTo cX0_growTo 3 none 2 42 [.ref h0, .int x1, .int x2] (wX0 h0 E σ) (wX0 h0 E σ2) := by
  refine g_enterV (own := RX0) (lv := [(0, .ref h0), (1, .int x1), (2, .int x2)]) (by decide +kernel) rfl (Nat.le_of_ble_eq_true rfl) rfl ?_
  intro p e s m args below meth c A C
  rw [fX0_growTo] at hF
  refine g_aload_n C dX0_growTo_0 0 rfl ?_
  refine g_iload_n C dX0_growTo_1 1 rfl ?_
  refine g_aload_n C dX0_growTo_2 0 rfl ?_
  refine g_iload_n C dX0_growTo_3 1 rfl ?_
  obtain ⟨r1, s1, h1, hF⟩ := bd_some hF
  refine g_callV C (kX0_sizeOf l D h0 E _ _ _ _ h1) gV_X0_sizeOf rfl rfl hn_X0_sizeOf rfl (Nat.le_of_ble_eq_true rfl) (Nat.le_of_ble_eq_true rfl) rfl (Nat.le_of_ble_eq_true rfl) dX0_growTo_4 ?_
  refine g_iload_n C dX0_growTo_7 2 rfl ?_
  refine g_mx C mw_227 mw_228 mw_62 mw_229 (Nat.le_of_ble_eq_true rfl) (Nat.le_of_ble_eq_true rfl) dX0_growTo_8 ?_
  obtain ⟨r2, s2, h2, hF⟩ := bd_some hF
  refine g_callVv C (kX0_setSize l D h0 E _ _ _ _ _ h2) gV_X0_setSize rfl rfl hn_X0_setSize rfl (Nat.le_of_ble_eq_true rfl) (Nat.le_of_ble_eq_true rfl) rfl (Nat.le_of_ble_eq_true rfl) dX0_growTo_11 ?_
  exact x0_vret C rfl dX0_growTo_14 hF
set_option maxRecDepth 100000 in
set_option maxHeartbeats 4000000 in
theorem kX0_write (l : Launch) (D : va_G) (h0 : Nat) (E : EX) (x1 : Int32) (x2 : Int32) (x3 : Int32) (x4 : Int32) (σ : SX) (r : Int32) (σ2 : SX) (hF : fX0_write x1 x2 x3 x4 σ = some (r, σ2)) : MI l D (tysX0 E) yX0_write cX0_write 5 (some .int) 6 132 [.ref h0, .int x1, .int x2, .int x3, .int x4] (wX0 h0 E σ) (wX0 h0 E σ2) r := by
  refine g_enterI (own := RX0) (lv := [(0, .ref h0), (1, .int x1), (2, .int x2), (3, .int x3), (4, .int x4)]) (by decide +kernel) rfl (Nat.le_of_ble_eq_true rfl) rfl ?_
  intro p e s m args below meth c A C
  rw [fX0_write] at hF
  refine g_iload_n C dX0_write_0 1 rfl ?_
  obtain ⟨r1, h1, hF⟩ := bs_some hF
  refine g_callS C (kX0_isFile l D _ _ h1) gS_X0_isFile hn_X0_isFile rfl (Nat.le_of_ble_eq_true rfl) (Nat.le_of_ble_eq_true rfl) rfl (Nat.le_of_ble_eq_true rfl) dX0_write_1 ?_
  refine g_if_ne (tgt := 9) C dX0_write_4 rfl (fun hc hF => ?_) (fun hc hF => ?_) hF
  · refine g_iload_n C dX0_write_9 2 rfl ?_
    refine g_iload_n C dX0_write_10 3 rfl ?_
    obtain ⟨r2, h2, hF⟩ := bs_some hF
    refine g_callS C (kX0_isCellRange l D _ _ _ h2) gS_X0_isCellRange hn_X0_isCellRange rfl (Nat.le_of_ble_eq_true rfl) (Nat.le_of_ble_eq_true rfl) rfl (Nat.le_of_ble_eq_true rfl) dX0_write_11 ?_
    refine g_if_eq (tgt := 30) C dX0_write_14 rfl (fun hc hF => ?_) (fun hc hF => ?_) hF
    · refine g_bipush (v := (-2)) C dX0_write_30 rfl ?_
      exact x0_iret C rfl dX0_write_32 hF
    · refine g_iload C dX0_write_17 4 rfl ?_
      refine g_if_lt (tgt := 30) C dX0_write_19 rfl (fun hc hF => ?_) (fun hc hF => ?_) hF
      · refine g_bipush (v := (-2)) C dX0_write_30 rfl ?_
        exact x0_iret C rfl dX0_write_32 hF
      · refine g_iload C dX0_write_22 4 rfl ?_
        refine g_sipush (v := (nI 255)) C dX0_write_24 rfl ?_
        refine g_icmp_le (tgt := 33) C dX0_write_27 rfl (fun hc hF => ?_) (fun hc hF => ?_) hF
        · refine g_aload_n C dX0_write_33 0 rfl ?_
          refine x0_get9 C dX0_write_34 ?_
          refine g_if_eq (tgt := 43) C dX0_write_37 rfl (fun hc hF => ?_) (fun hc hF => ?_) hF
          · refine g_aload_n C dX0_write_43 0 rfl ?_
            refine g_iload_n C dX0_write_44 1 rfl ?_
            refine g_iload_n C dX0_write_45 2 rfl ?_
            refine g_iconst (v := (nI 4)) C dX0_write_46 rfl ?_
            refine g_idiv C dX0_write_47 (by decide) ?_
            refine g_iload_n C dX0_write_48 2 rfl ?_
            refine g_iload_n C dX0_write_49 3 rfl ?_
            refine g_iadd C dX0_write_50 ?_
            refine g_iconst (v := (nI 1)) C dX0_write_51 rfl ?_
            refine g_isub C dX0_write_52 ?_
            refine g_iconst (v := (nI 4)) C dX0_write_53 rfl ?_
            refine g_idiv C dX0_write_54 (by decide) ?_
            refine g_iconst (v := (nI 1)) C dX0_write_55 rfl ?_
            obtain ⟨r3, s3, h3, hF⟩ := bd_some hF
            refine g_callVv C (kX0_chooseNeedy l D h0 E _ _ _ _ _ _ _ h3) gV_X0_chooseNeedy rfl rfl hn_X0_chooseNeedy rfl (Nat.le_of_ble_eq_true rfl) (Nat.le_of_ble_eq_true rfl) rfl (Nat.le_of_ble_eq_true rfl) dX0_write_56 ?_
            refine g_aload_n C dX0_write_59 0 rfl ?_
            obtain ⟨r4, s4, h4, hF⟩ := bd_some hF
            refine g_callV C (kX0_isSpent l D h0 E _ _ _ h4) gV_X0_isSpent rfl rfl hn_X0_isSpent rfl (Nat.le_of_ble_eq_true rfl) (Nat.le_of_ble_eq_true rfl) rfl (Nat.le_of_ble_eq_true rfl) dX0_write_60 ?_
            refine g_if_eq (tgt := 69) C dX0_write_63 rfl (fun hc hF => ?_) (fun hc hF => ?_) hF
            · refine g_aload_n C dX0_write_69 0 rfl ?_
              refine g_iload_n C dX0_write_70 1 rfl ?_
              obtain ⟨r5, s5, h5, hF⟩ := bd_some hF
              refine g_callVv C (kX0_ownNeedy l D h0 E _ _ _ _ h5) gV_X0_ownNeedy rfl rfl hn_X0_ownNeedy rfl (Nat.le_of_ble_eq_true rfl) (Nat.le_of_ble_eq_true rfl) rfl (Nat.le_of_ble_eq_true rfl) dX0_write_71 ?_
              refine g_aload_n C dX0_write_74 0 rfl ?_
              refine g_iload_n C dX0_write_75 1 rfl ?_
              refine g_iload_n C dX0_write_76 2 rfl ?_
              refine g_iload_n C dX0_write_77 2 rfl ?_
              refine g_iload_n C dX0_write_78 3 rfl ?_
              refine g_iadd C dX0_write_79 ?_
              refine g_iload C dX0_write_80 4 rfl ?_
              obtain ⟨r6, s6, h6, hF⟩ := bd_some hF
              refine g_callVv C (kX0_setCells l D h0 E _ _ _ _ _ _ _ h6) gV_X0_setCells rfl rfl hn_X0_setCells rfl (Nat.le_of_ble_eq_true rfl) (Nat.le_of_ble_eq_true rfl) rfl (Nat.le_of_ble_eq_true rfl) dX0_write_82 ?_
              refine g_aload_n C dX0_write_85 0 rfl ?_
              refine g_iload_n C dX0_write_86 1 rfl ?_
              refine g_iload_n C dX0_write_87 2 rfl ?_
              refine g_iload_n C dX0_write_88 3 rfl ?_
              refine g_iadd C dX0_write_89 ?_
              obtain ⟨r7, s7, h7, hF⟩ := bd_some hF
              refine g_callVv C (kX0_growTo l D h0 E _ _ _ _ _ h7) gV_X0_growTo rfl rfl hn_X0_growTo rfl (Nat.le_of_ble_eq_true rfl) (Nat.le_of_ble_eq_true rfl) rfl (Nat.le_of_ble_eq_true rfl) dX0_write_90 ?_
              refine g_aload_n C dX0_write_93 0 rfl ?_
              refine g_iload_n C dX0_write_94 1 rfl ?_
              obtain ⟨r8, s8, h8, hF⟩ := bd_some hF
              refine g_callV C (kX0_sizeOf l D h0 E _ _ _ _ h8) gV_X0_sizeOf rfl rfl hn_X0_sizeOf rfl (Nat.le_of_ble_eq_true rfl) (Nat.le_of_ble_eq_true rfl) rfl (Nat.le_of_ble_eq_true rfl) dX0_write_95 ?_
              exact x0_iret C rfl dX0_write_98 hF
            · refine g_bipush (v := (-6)) C dX0_write_66 rfl ?_
              exact x0_iret C rfl dX0_write_68 hF
          · refine g_bipush (v := (-3)) C dX0_write_40 rfl ?_
            exact x0_iret C rfl dX0_write_42 hF
        · refine g_bipush (v := (-2)) C dX0_write_30 rfl ?_
          exact x0_iret C rfl dX0_write_32 hF
  · refine g_iconst (v := (-1)) C dX0_write_7 rfl ?_
    exact x0_iret C rfl dX0_write_8 hF
set_option maxRecDepth 100000 in
set_option maxHeartbeats 4000000 in
theorem kX0_isAllIn (l : Launch) (D : va_G) (h0 : Nat) (E : EX) (x1 : Int32) (x2 : Int32) (x3 : Int32) (x4 : Int32) (σ : SX) (r : Int32) (σ2 : SX) (hF : fX0_isAllIn x1 x2 x3 x4 σ = some (r, σ2)) : MI l D (tysX0 E) yX0_isAllIn cX0_isAllIn 5 (some .boolean) 2 41 [.ref h0, .int x1, .int x2, .int x3, .int x4] (wX0 h0 E σ) (wX0 h0 E σ2) r := by
  refine g_enterI (own := RX0) (lv := [(0, .ref h0), (1, .int x1), (2, .int x2), (3, .int x3), (4, .int x4)]) (by decide +kernel) rfl (Nat.le_of_ble_eq_true rfl) rfl ?_
  intro p e s m args below meth c A C
  rw [fX0_isAllIn] at hF
  refine g_iload_n C dX0_isAllIn_0 3 rfl ?_
  refine g_iload_n C dX0_isAllIn_1 2 rfl ?_
  refine g_iconst (v := (nI 4)) C dX0_isAllIn_2 rfl ?_
  refine g_imul C dX0_isAllIn_3 ?_
  refine g_icmp_gt (tgt := 29) C dX0_isAllIn_4 rfl (fun hc hF => ?_) (fun hc hF => ?_) hF
  · refine g_iconst (v := (nI 0)) C dX0_isAllIn_29 rfl ?_
    exact x0_zret C rfl rfl dX0_isAllIn_30 hF
  · refine g_iload_n C dX0_isAllIn_7 2 rfl ?_
    refine g_iconst (v := (nI 1)) C dX0_isAllIn_8 rfl ?_
    refine g_iadd C dX0_isAllIn_9 ?_
    refine g_iconst (v := (nI 4)) C dX0_isAllIn_10 rfl ?_
    refine g_imul C dX0_isAllIn_11 ?_
    refine g_aload_n C dX0_isAllIn_12 0 rfl ?_
    refine g_iload_n C dX0_isAllIn_13 1 rfl ?_
    obtain ⟨r1, s1, h1, hF⟩ := bd_some hF
    refine g_callV C (kX0_sizeOf l D h0 E _ _ _ _ h1) gV_X0_sizeOf rfl rfl hn_X0_sizeOf rfl (Nat.le_of_ble_eq_true rfl) (Nat.le_of_ble_eq_true rfl) rfl (Nat.le_of_ble_eq_true rfl) dX0_isAllIn_14 ?_
    refine g_mn C mw_200 mw_201 mw_62 mw_202 (Nat.le_of_ble_eq_true rfl) (Nat.le_of_ble_eq_true rfl) dX0_isAllIn_17 ?_
    refine g_iload C dX0_isAllIn_20 4 rfl ?_
    refine g_icmp_gt (tgt := 29) C dX0_isAllIn_22 rfl (fun hc hF => ?_) (fun hc hF => ?_) hF
    · refine g_iconst (v := (nI 0)) C dX0_isAllIn_29 rfl ?_
      exact x0_zret C rfl rfl dX0_isAllIn_30 hF
    · refine g_iconst (v := (nI 1)) C dX0_isAllIn_25 rfl ?_
      refine g_goto (tgt := 30) C dX0_isAllIn_26 rfl ?_
      exact x0_zret C rfl rfl dX0_isAllIn_30 hF
set_option maxRecDepth 100000 in
set_option maxHeartbeats 4000000 in
theorem wX0_chooseCutThrough_L10 {p : Program} {l : Launch} {e : Env} {s : State} {m : MethodId} {args : Array Value} {below : List Frame} {meth : Method} {c : Code} {A : Nat → Prop} {D : va_G} {h0 : Nat} {E : EX} {σ2 : SX} {r : Int32} (C : GC p { frames := 3, cells := 0, slots := 0, locals := 67 } s m args meth c A D cX0_chooseCutThrough 5 0 0 (tysX0 E) RX0 none) : ∀ (n : Nat) (x1 : Int32) (x2 : Int32) (x3 : Int32) (x4 : Int32) (σ : SX), fX0_chooseCutThrough_L10 n x1 x2 x3 x4 σ = some (r, σ2) → GW p l e { frames := 3, cells := 0, slots := 0, locals := 67 } s m args below meth c (QV D (wX0 h0 E σ2) A below args s) A D 5 0 0 (wX0 h0 E σ) 10 [(0, .ref h0), (1, .int x1), (2, .int x2), (3, .int x3), (4, .int x4)] [] := by
  intro n
  induction n with
  | zero => intro x1 x2 x3 x4 σ hF; simp only [fX0_chooseCutThrough_L10] at hF; cases hF
  | succ n ih =>
    intro x1 x2 x3 x4 σ hF
    rw [fX0_chooseCutThrough_L10] at hF
    refine g_iload_n C dX0_chooseCutThrough_10 2 rfl ?_
    refine g_iload_n C dX0_chooseCutThrough_11 3 rfl ?_
    refine g_icmp_ge (tgt := 49) C dX0_chooseCutThrough_12 rfl (fun hc hF => ?_) (fun hc hF => ?_) hF
    · exact x0_vret C rfl dX0_chooseCutThrough_49 hF
    · refine g_iload C dX0_chooseCutThrough_15 4 rfl ?_
      refine g_iconst (v := (nI 4)) C dX0_chooseCutThrough_17 rfl ?_
      refine g_imul C dX0_chooseCutThrough_18 ?_
      refine g_iload_n C dX0_chooseCutThrough_19 3 rfl ?_
      refine g_icmp_ge (tgt := 49) C dX0_chooseCutThrough_20 rfl (fun hc hF => ?_) (fun hc hF => ?_) hF
      · exact x0_vret C rfl dX0_chooseCutThrough_49 hF
      · refine g_aload_n C dX0_chooseCutThrough_23 0 rfl ?_
        refine g_iload_n C dX0_chooseCutThrough_24 1 rfl ?_
        refine g_iload C dX0_chooseCutThrough_25 4 rfl ?_
        refine g_iload_n C dX0_chooseCutThrough_27 2 rfl ?_
        refine g_iload_n C dX0_chooseCutThrough_28 3 rfl ?_
        obtain ⟨r1, s1, h1, hF⟩ := bd_some hF
        refine g_callV C (kX0_isAllIn l D h0 E _ _ _ _ _ _ _ h1) gV_X0_isAllIn rfl rfl hn_X0_isAllIn rfl (Nat.le_of_ble_eq_true rfl) (Nat.le_of_ble_eq_true rfl) rfl (Nat.le_of_ble_eq_true rfl) dX0_chooseCutThrough_29 ?_
        refine g_if_ne (tgt := 43) C dX0_chooseCutThrough_32 rfl (fun hc hF => ?_) (fun hc hF => ?_) hF
        · refine g_iinc (v := (x4 + nI 1)) (lv2 := [(4, .int (x4 + nI 1)), (0, .ref h0), (1, .int x1), (2, .int x2), (3, .int x3)]) C dX0_chooseCutThrough_43 4 rfl rfl (Nat.le_of_ble_eq_true rfl) rfl ?_
          refine g_goto (tgt := 10) C dX0_chooseCutThrough_46 rfl ?_
          refine g_sub [1, 2, 3, 4, 0] (lv2 := [(0, .ref h0), (1, .int x1), (2, .int x2), (3, .int x3), (4, .int (x4 + nI 1))]) rfl ?_
          exact ih _ _ _ _ _ hF
        · refine g_aload_n C dX0_chooseCutThrough_35 0 rfl ?_
          refine g_iload_n C dX0_chooseCutThrough_36 1 rfl ?_
          refine g_iload C dX0_chooseCutThrough_37 4 rfl ?_
          refine g_iconst (v := (nI 0)) C dX0_chooseCutThrough_39 rfl ?_
          obtain ⟨r2, s2, h2, hF⟩ := bd_some hF
          refine g_callVv C (kX0_addIfNeedy l D h0 E _ _ _ _ _ _ h2) gV_X0_addIfNeedy rfl rfl hn_X0_addIfNeedy rfl (Nat.le_of_ble_eq_true rfl) (Nat.le_of_ble_eq_true rfl) rfl (Nat.le_of_ble_eq_true rfl) dX0_chooseCutThrough_40 ?_
          refine g_iinc (v := (x4 + nI 1)) (lv2 := [(4, .int (x4 + nI 1)), (0, .ref h0), (1, .int x1), (2, .int x2), (3, .int x3)]) C dX0_chooseCutThrough_43 4 rfl rfl (Nat.le_of_ble_eq_true rfl) rfl ?_
          refine g_goto (tgt := 10) C dX0_chooseCutThrough_46 rfl ?_
          refine g_sub [1, 2, 3, 4, 0] (lv2 := [(0, .ref h0), (1, .int x1), (2, .int x2), (3, .int x3), (4, .int (x4 + nI 1))]) rfl ?_
          exact ih _ _ _ _ _ hF
set_option maxRecDepth 100000 in
set_option maxHeartbeats 4000000 in
theorem kX0_chooseCutThrough (l : Launch) (D : va_G) (h0 : Nat) (E : EX) (x1 : Int32) (x2 : Int32) (x3 : Int32) (σ : SX) (r : Int32) (σ2 : SX) (hF : fX0_chooseCutThrough x1 x2 x3 σ = some (r, σ2)) : MV l D (tysX0 E) yX0_chooseCutThrough cX0_chooseCutThrough 5 none 3 67 [.ref h0, .int x1, .int x2, .int x3] (wX0 h0 E σ) (wX0 h0 E σ2) := by
  refine g_enterV (own := RX0) (lv := [(0, .ref h0), (1, .int x1), (2, .int x2), (3, .int x3)]) (by decide +kernel) rfl (Nat.le_of_ble_eq_true rfl) rfl ?_
  intro p e s m args below meth c A C
  rw [fX0_chooseCutThrough] at hF
  refine g_aload_n C dX0_chooseCutThrough_0 0 rfl ?_
  refine g_iconst (v := (nI 0)) C dX0_chooseCutThrough_1 rfl ?_
  refine x0_put5 C dX0_chooseCutThrough_2 ?_
  refine g_iload_n C dX0_chooseCutThrough_5 2 rfl ?_
  refine g_iconst (v := (nI 4)) C dX0_chooseCutThrough_6 rfl ?_
  refine g_idiv C dX0_chooseCutThrough_7 (by decide) ?_
  refine g_istore (lv2 := [(4, .int (x2 / (nI 4))), (0, .ref h0), (1, .int x1), (2, .int x2), (3, .int x3)]) C dX0_chooseCutThrough_8 (Nat.le_of_ble_eq_true rfl) rfl ?_
  refine g_sub [1, 2, 3, 4, 0] (lv2 := [(0, .ref h0), (1, .int x1), (2, .int x2), (3, .int x3), (4, .int (x2 / (nI 4)))]) rfl ?_
  exact wX0_chooseCutThrough_L10 C FU _ _ _ _ _ hF
set_option maxRecDepth 100000 in
set_option maxHeartbeats 4000000 in
theorem wX0_clearCells_L8 {p : Program} {l : Launch} {e : Env} {s : State} {m : MethodId} {args : Array Value} {below : List Frame} {meth : Method} {c : Code} {A : Nat → Prop} {D : va_G} {h0 : Nat} {E : EX} {σ2 : SX} {r : Int32} (C : GC p { frames := 3, cells := 0, slots := 0, locals := 68 } s m args meth c A D cX0_clearCells 6 0 0 (tysX0 E) RX0 (some .int)) : ∀ (n : Nat) (x1 : Int32) (x2 : Int32) (x3 : Int32) (x4 : Int32) (x5 : Int32) (σ : SX), fX0_clearCells_L8 n x1 x2 x3 x4 x5 σ = some (r, σ2) → GW p l e { frames := 3, cells := 0, slots := 0, locals := 68 } s m args below meth c (QI D (wX0 h0 E σ2) r A below args s) A D 6 0 0 (wX0 h0 E σ) 8 [(0, .ref h0), (1, .int x1), (2, .int x2), (3, .int x3), (4, .int x4), (5, .int x5)] [] := by
  intro n
  induction n with
  | zero => intro x1 x2 x3 x4 x5 σ hF; simp only [fX0_clearCells_L8] at hF; cases hF
  | succ n ih =>
    intro x1 x2 x3 x4 x5 σ hF
    rw [fX0_clearCells_L8] at hF
    refine g_iload_n C dX0_clearCells_8 2 rfl ?_
    refine g_iload_n C dX0_clearCells_9 3 rfl ?_
    refine g_icmp_ge (tgt := 91) C dX0_clearCells_10 rfl (fun hc hF => ?_) (fun hc hF => ?_) hF
    · refine g_iload C dX0_clearCells_91 4 rfl ?_
      exact x0_iret C rfl dX0_clearCells_93 hF
    · refine g_iload C dX0_clearCells_13 5 rfl ?_
      refine g_iconst (v := (nI 4)) C dX0_clearCells_15 rfl ?_
      refine g_imul C dX0_clearCells_16 ?_
      refine g_iload_n C dX0_clearCells_17 3 rfl ?_
      refine g_icmp_ge (tgt := 91) C dX0_clearCells_18 rfl (fun hc hF => ?_) (fun hc hF => ?_) hF
      · refine g_iload C dX0_clearCells_91 4 rfl ?_
        exact x0_iret C rfl dX0_clearCells_93 hF
      · refine g_aload_n C dX0_clearCells_21 0 rfl ?_
        refine g_iload_n C dX0_clearCells_22 1 rfl ?_
        refine g_iload C dX0_clearCells_23 5 rfl ?_
        refine g_iload_n C dX0_clearCells_25 2 rfl ?_
        refine g_iload_n C dX0_clearCells_26 3 rfl ?_
        obtain ⟨r1, s1, h1, hF⟩ := bd_some hF
        refine g_callV C (kX0_isAllIn l D h0 E _ _ _ _ _ _ _ h1) gV_X0_isAllIn rfl rfl hn_X0_isAllIn rfl (Nat.le_of_ble_eq_true rfl) (Nat.le_of_ble_eq_true rfl) rfl (Nat.le_of_ble_eq_true rfl) dX0_clearCells_27 ?_
        refine g_if_ne (tgt := 60) C dX0_clearCells_30 rfl (fun hc hF => ?_) (fun hc hF => ?_) hF
        · refine g_aload_n C dX0_clearCells_60 0 rfl ?_
          refine g_iload_n C dX0_clearCells_61 1 rfl ?_
          refine g_iload C dX0_clearCells_62 5 rfl ?_
          obtain ⟨r2, s2, h2, hF⟩ := bd_some hF
          refine g_callV C (kX0_blockAt l D h0 E _ _ _ _ _ h2) gV_X0_blockAt rfl rfl hn_X0_blockAt rfl (Nat.le_of_ble_eq_true rfl) (Nat.le_of_ble_eq_true rfl) rfl (Nat.le_of_ble_eq_true rfl) dX0_clearCells_64 ?_
          obtain ⟨r3, h3, hF⟩ := bs_some hF
          refine g_callS C (kX0_isBlock l D _ _ h3) gS_X0_isBlock hn_X0_isBlock rfl (Nat.le_of_ble_eq_true rfl) (Nat.le_of_ble_eq_true rfl) rfl (Nat.le_of_ble_eq_true rfl) dX0_clearCells_67 ?_
          refine g_if_eq (tgt := 85) C dX0_clearCells_70 rfl (fun hc hF => ?_) (fun hc hF => ?_) hF
          · refine g_iinc (v := (x5 + nI 1)) (lv2 := [(5, .int (x5 + nI 1)), (0, .ref h0), (1, .int x1), (2, .int x2), (3, .int x3), (4, .int x4)]) C dX0_clearCells_85 5 rfl rfl (Nat.le_of_ble_eq_true rfl) rfl ?_
            refine g_goto (tgt := 8) C dX0_clearCells_88 rfl ?_
            refine g_sub [1, 2, 3, 4, 5, 0] (lv2 := [(0, .ref h0), (1, .int x1), (2, .int x2), (3, .int x3), (4, .int x4), (5, .int (x5 + nI 1))]) rfl ?_
            exact ih _ _ _ _ _ _ hF
          · refine g_aload_n C dX0_clearCells_73 0 rfl ?_
            refine g_iload_n C dX0_clearCells_74 1 rfl ?_
            refine g_iload C dX0_clearCells_75 5 rfl ?_
            refine g_bipush (v := nN) C dX0_clearCells_77 rfl ?_
            obtain ⟨r4, s4, h4, hF⟩ := bd_some hF
            refine g_callVv C (kX0_putBlock l D h0 E _ _ _ _ _ _ h4) gV_X0_putBlock rfl rfl hn_X0_putBlock rfl (Nat.le_of_ble_eq_true rfl) (Nat.le_of_ble_eq_true rfl) rfl (Nat.le_of_ble_eq_true rfl) dX0_clearCells_79 ?_
            refine g_iinc (v := (x4 + nI 1)) (lv2 := [(4, .int (x4 + nI 1)), (0, .ref h0), (1, .int x1), (2, .int x2), (3, .int x3), (5, .int x5)]) C dX0_clearCells_82 4 rfl rfl (Nat.le_of_ble_eq_true rfl) rfl ?_
            refine g_iinc (v := (x5 + nI 1)) (lv2 := [(5, .int (x5 + nI 1)), (4, .int (x4 + nI 1)), (0, .ref h0), (1, .int x1), (2, .int x2), (3, .int x3)]) C dX0_clearCells_85 5 rfl rfl (Nat.le_of_ble_eq_true rfl) rfl ?_
            refine g_goto (tgt := 8) C dX0_clearCells_88 rfl ?_
            refine g_sub [2, 3, 4, 5, 1, 0] (lv2 := [(0, .ref h0), (1, .int x1), (2, .int x2), (3, .int x3), (4, .int (x4 + nI 1)), (5, .int (x5 + nI 1))]) rfl ?_
            exact ih _ _ _ _ _ _ hF
        · refine g_aload_n C dX0_clearCells_33 0 rfl ?_
          refine g_iload_n C dX0_clearCells_34 1 rfl ?_
          refine g_iload_n C dX0_clearCells_35 2 rfl ?_
          refine g_iload C dX0_clearCells_36 5 rfl ?_
          refine g_iconst (v := (nI 4)) C dX0_clearCells_38 rfl ?_
          refine g_imul C dX0_clearCells_39 ?_
          refine g_mx C mw_227 mw_228 mw_62 mw_229 (Nat.le_of_ble_eq_true rfl) (Nat.le_of_ble_eq_true rfl) dX0_clearCells_40 ?_
          refine g_iload_n C dX0_clearCells_43 3 rfl ?_
          refine g_iload C dX0_clearCells_44 5 rfl ?_
          refine g_iconst (v := (nI 1)) C dX0_clearCells_46 rfl ?_
          refine g_iadd C dX0_clearCells_47 ?_
          refine g_iconst (v := (nI 4)) C dX0_clearCells_48 rfl ?_
          refine g_imul C dX0_clearCells_49 ?_
          refine g_mn C mw_200 mw_201 mw_62 mw_202 (Nat.le_of_ble_eq_true rfl) (Nat.le_of_ble_eq_true rfl) dX0_clearCells_50 ?_
          refine g_iconst (v := (nI 0)) C dX0_clearCells_53 rfl ?_
          obtain ⟨r5, s5, h5, hF⟩ := bd_some hF
          refine g_callVv C (kX0_setCells l D h0 E _ _ _ _ _ _ _ h5) gV_X0_setCells rfl rfl hn_X0_setCells rfl (Nat.le_of_ble_eq_true rfl) (Nat.le_of_ble_eq_true rfl) rfl (Nat.le_of_ble_eq_true rfl) dX0_clearCells_54 ?_
          refine g_goto (tgt := 85) C dX0_clearCells_57 rfl ?_
          refine g_iinc (v := (x5 + nI 1)) (lv2 := [(5, .int (x5 + nI 1)), (0, .ref h0), (1, .int x1), (2, .int x2), (3, .int x3), (4, .int x4)]) C dX0_clearCells_85 5 rfl rfl (Nat.le_of_ble_eq_true rfl) rfl ?_
          refine g_goto (tgt := 8) C dX0_clearCells_88 rfl ?_
          refine g_sub [1, 2, 3, 4, 5, 0] (lv2 := [(0, .ref h0), (1, .int x1), (2, .int x2), (3, .int x3), (4, .int x4), (5, .int (x5 + nI 1))]) rfl ?_
          exact ih _ _ _ _ _ _ hF
set_option maxRecDepth 100000 in
set_option maxHeartbeats 4000000 in
theorem kX0_clearCells (l : Launch) (D : va_G) (h0 : Nat) (E : EX) (x1 : Int32) (x2 : Int32) (x3 : Int32) (σ : SX) (r : Int32) (σ2 : SX) (hF : fX0_clearCells x1 x2 x3 σ = some (r, σ2)) : MI l D (tysX0 E) yX0_clearCells cX0_clearCells 6 (some .int) 3 68 [.ref h0, .int x1, .int x2, .int x3] (wX0 h0 E σ) (wX0 h0 E σ2) r := by
  refine g_enterI (own := RX0) (lv := [(0, .ref h0), (1, .int x1), (2, .int x2), (3, .int x3)]) (by decide +kernel) rfl (Nat.le_of_ble_eq_true rfl) rfl ?_
  intro p e s m args below meth c A C
  rw [fX0_clearCells] at hF
  refine g_iconst (v := (nI 0)) C dX0_clearCells_0 rfl ?_
  refine g_istore (lv2 := [(4, .int (nI 0)), (0, .ref h0), (1, .int x1), (2, .int x2), (3, .int x3)]) C dX0_clearCells_1 (Nat.le_of_ble_eq_true rfl) rfl ?_
  refine g_iload_n C dX0_clearCells_3 3 rfl ?_
  refine g_iconst (v := (nI 4)) C dX0_clearCells_4 rfl ?_
  refine g_idiv C dX0_clearCells_5 (by decide) ?_
  refine g_istore (lv2 := [(5, .int (x2 / (nI 4))), (4, .int (nI 0)), (0, .ref h0), (1, .int x1), (2, .int x2), (3, .int x3)]) C dX0_clearCells_6 (Nat.le_of_ble_eq_true rfl) rfl ?_
  refine g_sub [2, 3, 4, 5, 1, 0] (lv2 := [(0, .ref h0), (1, .int x1), (2, .int x2), (3, .int x3), (4, .int (nI 0)), (5, .int (x2 / (nI 4)))]) rfl ?_
  exact wX0_clearCells_L8 C FU _ _ _ _ _ _ hF
set_option maxRecDepth 100000 in
set_option maxHeartbeats 4000000 in
theorem kX0_cut (l : Launch) (D : va_G) (h0 : Nat) (E : EX) (x1 : Int32) (x2 : Int32) (σ : SX) (r : Int32) (σ2 : SX) (hF : fX0_cut x1 x2 σ = some (r, σ2)) : MI l D (tysX0 E) yX0_cut cX0_cut 4 (some .int) 6 132 [.ref h0, .int x1, .int x2] (wX0 h0 E σ) (wX0 h0 E σ2) r := by
  refine g_enterI (own := RX0) (lv := [(0, .ref h0), (1, .int x1), (2, .int x2)]) (by decide +kernel) rfl (Nat.le_of_ble_eq_true rfl) rfl ?_
  intro p e s m args below meth c A C
  rw [fX0_cut] at hF
  refine g_iload_n C dX0_cut_0 1 rfl ?_
  obtain ⟨r1, h1, hF⟩ := bs_some hF
  refine g_callS C (kX0_isFile l D _ _ h1) gS_X0_isFile hn_X0_isFile rfl (Nat.le_of_ble_eq_true rfl) (Nat.le_of_ble_eq_true rfl) rfl (Nat.le_of_ble_eq_true rfl) dX0_cut_1 ?_
  refine g_if_ne (tgt := 9) C dX0_cut_4 rfl (fun hc hF => ?_) (fun hc hF => ?_) hF
  · refine g_iload_n C dX0_cut_9 2 rfl ?_
    refine g_if_lt (tgt := 19) C dX0_cut_10 rfl (fun hc hF => ?_) (fun hc hF => ?_) hF
    · refine g_bipush (v := (-2)) C dX0_cut_19 rfl ?_
      exact x0_iret C rfl dX0_cut_21 hF
    · refine g_iload_n C dX0_cut_13 2 rfl ?_
      refine g_bipush (v := (nI 96)) C dX0_cut_14 rfl ?_
      refine g_icmp_le (tgt := 22) C dX0_cut_16 rfl (fun hc hF => ?_) (fun hc hF => ?_) hF
      · refine g_aload_n C dX0_cut_22 0 rfl ?_
        refine x0_get9 C dX0_cut_23 ?_
        refine g_if_eq (tgt := 32) C dX0_cut_26 rfl (fun hc hF => ?_) (fun hc hF => ?_) hF
        · refine g_aload_n C dX0_cut_32 0 rfl ?_
          refine g_iload_n C dX0_cut_33 1 rfl ?_
          obtain ⟨r2, s2, h2, hF⟩ := bd_some hF
          refine g_callV C (kX0_sizeOf l D h0 E _ _ _ _ h2) gV_X0_sizeOf rfl rfl hn_X0_sizeOf rfl (Nat.le_of_ble_eq_true rfl) (Nat.le_of_ble_eq_true rfl) rfl (Nat.le_of_ble_eq_true rfl) dX0_cut_34 ?_
          refine g_istore_n (lv2 := [(3, .int r2), (0, .ref h0), (1, .int x1), (2, .int x2)]) C dX0_cut_37 (Nat.le_of_ble_eq_true rfl) rfl ?_
          refine g_aload_n C dX0_cut_38 1 rfl ?_
          refine g_iload_n C dX0_cut_39 2 rfl ?_
          refine g_iload_n C dX0_cut_40 3 rfl ?_
          refine g_iload_n C dX0_cut_41 0 rfl ?_
          obtain ⟨r3, s3, h3, hF⟩ := bd_some hF
          refine g_callVv C (kX0_chooseCutThrough l D h0 E _ _ _ _ _ _ h3) gV_X0_chooseCutThrough rfl rfl hn_X0_chooseCutThrough rfl (Nat.le_of_ble_eq_true rfl) (Nat.le_of_ble_eq_true rfl) rfl (Nat.le_of_ble_eq_true rfl) dX0_cut_42 ?_
          refine g_aload_n C dX0_cut_45 1 rfl ?_
          obtain ⟨r4, s4, h4, hF⟩ := bd_some hF
          refine g_callV C (kX0_isSpent l D h0 E _ _ _ h4) gV_X0_isSpent rfl rfl hn_X0_isSpent rfl (Nat.le_of_ble_eq_true rfl) (Nat.le_of_ble_eq_true rfl) rfl (Nat.le_of_ble_eq_true rfl) dX0_cut_46 ?_
          refine g_if_eq (tgt := 55) C dX0_cut_49 rfl (fun hc hF => ?_) (fun hc hF => ?_) hF
          · refine g_aload_n C dX0_cut_55 1 rfl ?_
            refine g_iload_n C dX0_cut_56 2 rfl ?_
            obtain ⟨r5, s5, h5, hF⟩ := bd_some hF
            refine g_callVv C (kX0_ownNeedy l D h0 E _ _ _ _ h5) gV_X0_ownNeedy rfl rfl hn_X0_ownNeedy rfl (Nat.le_of_ble_eq_true rfl) (Nat.le_of_ble_eq_true rfl) rfl (Nat.le_of_ble_eq_true rfl) dX0_cut_57 ?_
            refine g_aload_n C dX0_cut_60 1 rfl ?_
            refine g_iload_n C dX0_cut_61 2 rfl ?_
            refine g_iload_n C dX0_cut_62 3 rfl ?_
            refine g_iload_n C dX0_cut_63 0 rfl ?_
            obtain ⟨r6, s6, h6, hF⟩ := bd_some hF
            refine g_callV C (kX0_clearCells l D h0 E _ _ _ _ _ _ h6) gV_X0_clearCells rfl rfl hn_X0_clearCells rfl (Nat.le_of_ble_eq_true rfl) (Nat.le_of_ble_eq_true rfl) rfl (Nat.le_of_ble_eq_true rfl) dX0_cut_64 ?_
            refine g_pop C dX0_cut_67 rfl ?_
            refine g_aload_n C dX0_cut_68 1 rfl ?_
            refine g_iload_n C dX0_cut_69 2 rfl ?_
            refine g_iload_n C dX0_cut_70 3 rfl ?_
            obtain ⟨r7, s7, h7, hF⟩ := bd_some hF
            refine g_callVv C (kX0_setSize l D h0 E _ _ _ _ _ h7) gV_X0_setSize rfl rfl hn_X0_setSize rfl (Nat.le_of_ble_eq_true rfl) (Nat.le_of_ble_eq_true rfl) rfl (Nat.le_of_ble_eq_true rfl) dX0_cut_71 ?_
            refine g_iload_n C dX0_cut_74 0 rfl ?_
            exact x0_iret C rfl dX0_cut_75 hF
          · refine g_bipush (v := (-6)) C dX0_cut_52 rfl ?_
            exact x0_iret C rfl dX0_cut_54 hF
        · refine g_bipush (v := (-3)) C dX0_cut_29 rfl ?_
          exact x0_iret C rfl dX0_cut_31 hF
      · refine g_bipush (v := (-2)) C dX0_cut_19 rfl ?_
        exact x0_iret C rfl dX0_cut_21 hF
  · refine g_iconst (v := (-1)) C dX0_cut_7 rfl ?_
    exact x0_iret C rfl dX0_cut_8 hF
set_option maxRecDepth 100000 in
set_option maxHeartbeats 4000000 in
theorem kX0_punch (l : Launch) (D : va_G) (h0 : Nat) (E : EX) (x1 : Int32) (x2 : Int32) (x3 : Int32) (σ : SX) (r : Int32) (σ2 : SX) (hF : fX0_punch x1 x2 x3 σ = some (r, σ2)) : MI l D (tysX0 E) yX0_punch cX0_punch 5 (some .int) 6 132 [.ref h0, .int x1, .int x2, .int x3] (wX0 h0 E σ) (wX0 h0 E σ2) r := by
  refine g_enterI (own := RX0) (lv := [(0, .ref h0), (1, .int x1), (2, .int x2), (3, .int x3)]) (by decide +kernel) rfl (Nat.le_of_ble_eq_true rfl) rfl ?_
  intro p e s m args below meth c A C
  rw [fX0_punch] at hF
  refine g_iload_n C dX0_punch_0 1 rfl ?_
  obtain ⟨r1, h1, hF⟩ := bs_some hF
  refine g_callS C (kX0_isFile l D _ _ h1) gS_X0_isFile hn_X0_isFile rfl (Nat.le_of_ble_eq_true rfl) (Nat.le_of_ble_eq_true rfl) rfl (Nat.le_of_ble_eq_true rfl) dX0_punch_1 ?_
  refine g_if_ne (tgt := 9) C dX0_punch_4 rfl (fun hc hF => ?_) (fun hc hF => ?_) hF
  · refine g_iload_n C dX0_punch_9 2 rfl ?_
    refine g_iload_n C dX0_punch_10 3 rfl ?_
    obtain ⟨r2, h2, hF⟩ := bs_some hF
    refine g_callS C (kX0_isCellRange l D _ _ _ h2) gS_X0_isCellRange hn_X0_isCellRange rfl (Nat.le_of_ble_eq_true rfl) (Nat.le_of_ble_eq_true rfl) rfl (Nat.le_of_ble_eq_true rfl) dX0_punch_11 ?_
    refine g_if_ne (tgt := 20) C dX0_punch_14 rfl (fun hc hF => ?_) (fun hc hF => ?_) hF
    · refine g_aload_n C dX0_punch_20 0 rfl ?_
      refine x0_get9 C dX0_punch_21 ?_
      refine g_if_eq (tgt := 30) C dX0_punch_24 rfl (fun hc hF => ?_) (fun hc hF => ?_) hF
      · refine g_iload_n C dX0_punch_30 2 rfl ?_
        refine g_iload_n C dX0_punch_31 3 rfl ?_
        refine g_iadd C dX0_punch_32 ?_
        refine g_aload_n C dX0_punch_33 0 rfl ?_
        refine g_iload_n C dX0_punch_34 1 rfl ?_
        obtain ⟨r3, s3, h3, hF⟩ := bd_some hF
        refine g_callV C (kX0_sizeOf l D h0 E _ _ _ _ h3) gV_X0_sizeOf rfl rfl hn_X0_sizeOf rfl (Nat.le_of_ble_eq_true rfl) (Nat.le_of_ble_eq_true rfl) rfl (Nat.le_of_ble_eq_true rfl) dX0_punch_35 ?_
        refine g_mn C mw_200 mw_201 mw_62 mw_202 (Nat.le_of_ble_eq_true rfl) (Nat.le_of_ble_eq_true rfl) dX0_punch_38 ?_
        refine g_istore (lv2 := [(4, .int (mn (x2 + x3) r3)), (0, .ref h0), (1, .int x1), (2, .int x2), (3, .int x3)]) C dX0_punch_41 (Nat.le_of_ble_eq_true rfl) rfl ?_
        refine g_aload_n C dX0_punch_43 1 rfl ?_
        refine g_iload_n C dX0_punch_44 2 rfl ?_
        refine g_iload_n C dX0_punch_45 3 rfl ?_
        refine g_iload C dX0_punch_46 0 rfl ?_
        obtain ⟨r4, s4, h4, hF⟩ := bd_some hF
        refine g_callVv C (kX0_chooseCutThrough l D h0 E _ _ _ _ _ _ h4) gV_X0_chooseCutThrough rfl rfl hn_X0_chooseCutThrough rfl (Nat.le_of_ble_eq_true rfl) (Nat.le_of_ble_eq_true rfl) rfl (Nat.le_of_ble_eq_true rfl) dX0_punch_48 ?_
        refine g_aload_n C dX0_punch_51 1 rfl ?_
        obtain ⟨r5, s5, h5, hF⟩ := bd_some hF
        refine g_callV C (kX0_isSpent l D h0 E _ _ _ h5) gV_X0_isSpent rfl rfl hn_X0_isSpent rfl (Nat.le_of_ble_eq_true rfl) (Nat.le_of_ble_eq_true rfl) rfl (Nat.le_of_ble_eq_true rfl) dX0_punch_52 ?_
        refine g_if_eq (tgt := 61) C dX0_punch_55 rfl (fun hc hF => ?_) (fun hc hF => ?_) hF
        · refine g_aload_n C dX0_punch_61 1 rfl ?_
          refine g_iload_n C dX0_punch_62 2 rfl ?_
          obtain ⟨r6, s6, h6, hF⟩ := bd_some hF
          refine g_callVv C (kX0_ownNeedy l D h0 E _ _ _ _ h6) gV_X0_ownNeedy rfl rfl hn_X0_ownNeedy rfl (Nat.le_of_ble_eq_true rfl) (Nat.le_of_ble_eq_true rfl) rfl (Nat.le_of_ble_eq_true rfl) dX0_punch_63 ?_
          refine g_aload_n C dX0_punch_66 1 rfl ?_
          refine g_iload_n C dX0_punch_67 2 rfl ?_
          refine g_iload_n C dX0_punch_68 3 rfl ?_
          refine g_iload C dX0_punch_69 0 rfl ?_
          obtain ⟨r7, s7, h7, hF⟩ := bd_some hF
          refine g_callV C (kX0_clearCells l D h0 E _ _ _ _ _ _ h7) gV_X0_clearCells rfl rfl hn_X0_clearCells rfl (Nat.le_of_ble_eq_true rfl) (Nat.le_of_ble_eq_true rfl) rfl (Nat.le_of_ble_eq_true rfl) dX0_punch_71 ?_
          exact x0_iret C rfl dX0_punch_74 hF
        · refine g_bipush (v := (-6)) C dX0_punch_58 rfl ?_
          exact x0_iret C rfl dX0_punch_60 hF
      · refine g_bipush (v := (-3)) C dX0_punch_27 rfl ?_
        exact x0_iret C rfl dX0_punch_29 hF
    · refine g_bipush (v := (-2)) C dX0_punch_17 rfl ?_
      exact x0_iret C rfl dX0_punch_19 hF
  · refine g_iconst (v := (-1)) C dX0_punch_7 rfl ?_
    exact x0_iret C rfl dX0_punch_8 hF
set_option maxRecDepth 100000 in
set_option maxHeartbeats 4000000 in
theorem kX0_isPlaceRange (l : Launch) (D : va_G) (x0 : Int32) (x1 : Int32) (r : Int32) (hF : fX0_isPlaceRange x0 x1 = some r) : MI l D [] yX0_isPlaceRange cX0_isPlaceRange 2 (some .boolean) 1 20 [.int x0, .int x1] [] [] r := by
  refine g_enterI (own := RX0) (lv := [(0, .int x0), (1, .int x1)]) (by decide +kernel) rfl (Nat.le_of_ble_eq_true rfl) rfl ?_
  intro p e s m args below meth c A C
  rw [fX0_isPlaceRange] at hF
  refine g_iload_n C dX0_isPlaceRange_0 0 rfl ?_
  obtain ⟨r1, h1, hF⟩ := bs_some hF
  refine g_callS C (kX0_isPlace l D _ _ h1) gS_X0_isPlace hn_X0_isPlace rfl (Nat.le_of_ble_eq_true rfl) (Nat.le_of_ble_eq_true rfl) rfl (Nat.le_of_ble_eq_true rfl) dX0_isPlaceRange_1 ?_
  refine g_if_eq (tgt := 24) C dX0_isPlaceRange_4 rfl (fun hc hF => ?_) (fun hc hF => ?_) hF
  · refine g_iconst (v := (nI 0)) C dX0_isPlaceRange_24 rfl ?_
    exact s_zret C rfl rfl dX0_isPlaceRange_25 hF
  · refine g_iload_n C dX0_isPlaceRange_7 1 rfl ?_
    refine g_iconst (v := (nI 1)) C dX0_isPlaceRange_8 rfl ?_
    refine g_icmp_lt (tgt := 24) C dX0_isPlaceRange_9 rfl (fun hc hF => ?_) (fun hc hF => ?_) hF
    · refine g_iconst (v := (nI 0)) C dX0_isPlaceRange_24 rfl ?_
      exact s_zret C rfl rfl dX0_isPlaceRange_25 hF
    · refine g_iload_n C dX0_isPlaceRange_12 1 rfl ?_
      refine g_bipush (v := (nI 24)) C dX0_isPlaceRange_13 rfl ?_
      refine g_iload_n C dX0_isPlaceRange_15 0 rfl ?_
      refine g_isub C dX0_isPlaceRange_16 ?_
      refine g_icmp_gt (tgt := 24) C dX0_isPlaceRange_17 rfl (fun hc hF => ?_) (fun hc hF => ?_) hF
      · refine g_iconst (v := (nI 0)) C dX0_isPlaceRange_24 rfl ?_
        exact s_zret C rfl rfl dX0_isPlaceRange_25 hF
      · refine g_iconst (v := (nI 1)) C dX0_isPlaceRange_20 rfl ?_
        refine g_goto (tgt := 25) C dX0_isPlaceRange_21 rfl ?_
        exact s_zret C rfl rfl dX0_isPlaceRange_25 hF
set_option maxRecDepth 100000 in
set_option maxHeartbeats 4000000 in
theorem wX0_collapse_L46 {p : Program} {l : Launch} {e : Env} {s : State} {m : MethodId} {args : Array Value} {below : List Frame} {meth : Method} {c : Code} {A : Nat → Prop} {D : va_G} {h0 : Nat} {E : EX} {σ2 : SX} {r : Int32} (C : GC p { frames := 3, cells := 0, slots := 0, locals := 65 } s m args meth c A D cX0_collapse 5 0 0 (tysX0 E) RX0 (some .int)) : ∀ (n : Nat) (x1 : Int32) (x3 : Int32) (x4 : Int32) (σ : SX), fX0_collapse_L46 n x1 x3 x4 σ = some (r, σ2) → GW p l e { frames := 3, cells := 0, slots := 0, locals := 65 } s m args below meth c (QI D (wX0 h0 E σ2) r A below args s) A D 5 0 0 (wX0 h0 E σ) 46 [(0, .ref h0), (1, .int x1), (3, .int x3), (4, .int x4)] [] := by
  intro n
  induction n with
  | zero => intro x1 x3 x4 σ hF; simp only [fX0_collapse_L46] at hF; cases hF
  | succ n ih =>
    intro x1 x3 x4 σ hF
    rw [fX0_collapse_L46] at hF
    refine g_iload C dX0_collapse_46 3 rfl ?_
    refine g_bipush (v := (nI 24)) C dX0_collapse_48 rfl ?_
    refine g_icmp_ge (tgt := 75) C dX0_collapse_50 rfl (fun hc hF => ?_) (fun hc hF => ?_) hF
    · refine g_aload_n C dX0_collapse_75 0 rfl ?_
      refine g_iload_n C dX0_collapse_76 1 rfl ?_
      refine g_aload_n C dX0_collapse_77 0 rfl ?_
      refine g_iload_n C dX0_collapse_78 1 rfl ?_
      obtain ⟨r1, s1, h1, hF⟩ := bd_some hF
      refine g_callV C (kX0_sizeOf l D h0 E _ _ _ _ h1) gV_X0_sizeOf rfl rfl hn_X0_sizeOf rfl (Nat.le_of_ble_eq_true rfl) (Nat.le_of_ble_eq_true rfl) rfl (Nat.le_of_ble_eq_true rfl) dX0_collapse_79 ?_
      refine g_iload_n C dX0_collapse_82 2 rfl ?_
      refine g_iconst (v := (nI 4)) C dX0_collapse_83 rfl ?_
      refine g_imul C dX0_collapse_84 ?_
      refine g_isub C dX0_collapse_85 ?_
      obtain ⟨r2, s2, h2, hF⟩ := bd_some hF
      refine g_callVv C (kX0_setSize l D h0 E _ _ _ _ _ h2) gV_X0_setSize rfl rfl hn_X0_setSize rfl (Nat.le_of_ble_eq_true rfl) (Nat.le_of_ble_eq_true rfl) rfl (Nat.le_of_ble_eq_true rfl) dX0_collapse_86 ?_
      refine g_aload_n C dX0_collapse_89 0 rfl ?_
      refine g_iload_n C dX0_collapse_90 1 rfl ?_
      obtain ⟨r3, s3, h3, hF⟩ := bd_some hF
      refine g_callV C (kX0_sizeOf l D h0 E _ _ _ _ h3) gV_X0_sizeOf rfl rfl hn_X0_sizeOf rfl (Nat.le_of_ble_eq_true rfl) (Nat.le_of_ble_eq_true rfl) rfl (Nat.le_of_ble_eq_true rfl) dX0_collapse_91 ?_
      exact x0_iret C rfl dX0_collapse_94 hF
    · refine g_aload_n C dX0_collapse_53 0 rfl ?_
      refine g_iload_n C dX0_collapse_54 1 rfl ?_
      refine g_iload C dX0_collapse_55 3 rfl ?_
      refine g_aload_n C dX0_collapse_57 0 rfl ?_
      refine g_iload_n C dX0_collapse_58 1 rfl ?_
      refine g_iload C dX0_collapse_59 3 rfl ?_
      refine g_iload_n C dX0_collapse_61 2 rfl ?_
      refine g_iadd C dX0_collapse_62 ?_
      obtain ⟨r4, s4, h4, hF⟩ := bd_some hF
      refine g_callV C (kX0_blockAt l D h0 E _ _ _ _ _ h4) gV_X0_blockAt rfl rfl hn_X0_blockAt rfl (Nat.le_of_ble_eq_true rfl) (Nat.le_of_ble_eq_true rfl) rfl (Nat.le_of_ble_eq_true rfl) dX0_collapse_63 ?_
      obtain ⟨r5, s5, h5, hF⟩ := bd_some hF
      refine g_callVv C (kX0_putBlock l D h0 E _ _ _ _ _ _ h5) gV_X0_putBlock rfl rfl hn_X0_putBlock rfl (Nat.le_of_ble_eq_true rfl) (Nat.le_of_ble_eq_true rfl) rfl (Nat.le_of_ble_eq_true rfl) dX0_collapse_66 ?_
      refine g_iinc (v := (x4 + nI 1)) (lv2 := [(4, .int (x4 + nI 1)), (0, .ref h0), (1, .int x1), (3, .int x3)]) C dX0_collapse_69 3 rfl rfl (Nat.le_of_ble_eq_true rfl) rfl ?_
      refine g_goto (tgt := 46) C dX0_collapse_72 rfl ?_
      refine g_sub [1, 2, 3, 0] (lv2 := [(0, .ref h0), (1, .int x1), (3, .int x3), (4, .int (x4 + nI 1))]) rfl ?_
      exact ih _ _ _ _ hF
set_option maxRecDepth 100000 in
set_option maxHeartbeats 4000000 in
theorem kX0_collapse (l : Launch) (D : va_G) (h0 : Nat) (E : EX) (x1 : Int32) (x2 : Int32) (x3 : Int32) (σ : SX) (r : Int32) (σ2 : SX) (hF : fX0_collapse x1 x2 x3 σ = some (r, σ2)) : MI l D (tysX0 E) yX0_collapse cX0_collapse 5 (some .int) 3 65 [.ref h0, .int x1, .int x2, .int x3] (wX0 h0 E σ) (wX0 h0 E σ2) r := by
  refine g_enterI (own := RX0) (lv := [(0, .ref h0), (1, .int x1), (2, .int x2), (3, .int x3)]) (by decide +kernel) rfl (Nat.le_of_ble_eq_true rfl) rfl ?_
  intro p e s m args below meth c A C
  rw [fX0_collapse] at hF
  refine g_iload_n C dX0_collapse_0 1 rfl ?_
  obtain ⟨r1, h1, hF⟩ := bs_some hF
  refine g_callS C (kX0_isFile l D _ _ h1) gS_X0_isFile hn_X0_isFile rfl (Nat.le_of_ble_eq_true rfl) (Nat.le_of_ble_eq_true rfl) rfl (Nat.le_of_ble_eq_true rfl) dX0_collapse_1 ?_
  refine g_if_ne (tgt := 9) C dX0_collapse_4 rfl (fun hc hF => ?_) (fun hc hF => ?_) hF
  · refine g_iload_n C dX0_collapse_9 2 rfl ?_
    refine g_iload_n C dX0_collapse_10 3 rfl ?_
    obtain ⟨r2, h2, hF⟩ := bs_some hF
    refine g_callS C (kX0_isPlaceRange l D _ _ _ h2) gS_X0_isPlaceRange hn_X0_isPlaceRange rfl (Nat.le_of_ble_eq_true rfl) (Nat.le_of_ble_eq_true rfl) rfl (Nat.le_of_ble_eq_true rfl) dX0_collapse_11 ?_
    refine g_if_ne (tgt := 20) C dX0_collapse_14 rfl (fun hc hF => ?_) (fun hc hF => ?_) hF
    · refine g_aload_n C dX0_collapse_20 0 rfl ?_
      refine x0_get9 C dX0_collapse_21 ?_
      refine g_if_ne (tgt := 40) C dX0_collapse_24 rfl (fun hc hF => ?_) (fun hc hF => ?_) hF
      · refine g_bipush (v := (-3)) C dX0_collapse_40 rfl ?_
        exact x0_iret C rfl dX0_collapse_42 hF
      · refine g_iload_n C dX0_collapse_27 2 rfl ?_
        refine g_iload_n C dX0_collapse_28 3 rfl ?_
        refine g_iadd C dX0_collapse_29 ?_
        refine g_iconst (v := (nI 4)) C dX0_collapse_30 rfl ?_
        refine g_imul C dX0_collapse_31 ?_
        refine g_aload_n C dX0_collapse_32 0 rfl ?_
        refine g_iload_n C dX0_collapse_33 1 rfl ?_
        obtain ⟨r3, s3, h3, hF⟩ := bd_some hF
        refine g_callV C (kX0_sizeOf l D h0 E _ _ _ _ h3) gV_X0_sizeOf rfl rfl hn_X0_sizeOf rfl (Nat.le_of_ble_eq_true rfl) (Nat.le_of_ble_eq_true rfl) rfl (Nat.le_of_ble_eq_true rfl) dX0_collapse_34 ?_
        refine g_icmp_lt (tgt := 43) C dX0_collapse_37 rfl (fun hc hF => ?_) (fun hc hF => ?_) hF
        · refine g_iload_n C dX0_collapse_43 2 rfl ?_
          refine g_istore (lv2 := [(4, .int x2), (0, .ref h0), (1, .int x1), (2, .int x2), (3, .int x3)]) C dX0_collapse_44 (Nat.le_of_ble_eq_true rfl) rfl ?_
          refine g_sub [1, 2, 4, 0] (lv2 := [(0, .ref h0), (1, .int x1), (3, .int x3), (4, .int x2)]) rfl ?_
          exact wX0_collapse_L46 C FU _ _ _ _ hF
        · refine g_bipush (v := (-3)) C dX0_collapse_40 rfl ?_
          exact x0_iret C rfl dX0_collapse_42 hF
    · refine g_bipush (v := (-2)) C dX0_collapse_17 rfl ?_
      exact x0_iret C rfl dX0_collapse_19 hF
  · refine g_iconst (v := (-1)) C dX0_collapse_7 rfl ?_
    exact x0_iret C rfl dX0_collapse_8 hF
set_option maxRecDepth 100000 in
set_option maxHeartbeats 4000000 in
theorem wX0_insert_L72 {p : Program} {l : Launch} {e : Env} {s : State} {m : MethodId} {args : Array Value} {below : List Frame} {meth : Method} {c : Code} {A : Nat → Prop} {D : va_G} {h0 : Nat} {E : EX} {σ2 : SX} {r : Int32} (C : GC p { frames := 3, cells := 0, slots := 0, locals := 65 } s m args meth c A D cX0_insert 5 0 0 (tysX0 E) RX0 (some .int)) : ∀ (n : Nat) (x1 : Int32) (x2 : Int32) (x3 : Int32) (x4 : Int32) (σ : SX), fX0_insert_L72 n x1 x2 x3 x4 σ = some (r, σ2) → GW p l e { frames := 3, cells := 0, slots := 0, locals := 65 } s m args below meth c (QI D (wX0 h0 E σ2) r A below args s) A D 5 0 0 (wX0 h0 E σ) 72 [(0, .ref h0), (1, .int x1), (2, .int x2), (3, .int x3), (4, .int x4)] [] := by
  intro n
  induction n with
  | zero => intro x1 x2 x3 x4 σ hF; simp only [fX0_insert_L72] at hF; cases hF
  | succ n ih =>
    intro x1 x2 x3 x4 σ hF
    rw [fX0_insert_L72] at hF
    refine g_iload C dX0_insert_72 4 rfl ?_
    refine g_iload_n C dX0_insert_74 2 rfl ?_
    refine g_icmp_lt (tgt := 113) C dX0_insert_75 rfl (fun hc hF => ?_) (fun hc hF => ?_) hF
    · refine g_aload_n C dX0_insert_113 0 rfl ?_
      refine g_iload_n C dX0_insert_114 1 rfl ?_
      refine g_aload_n C dX0_insert_115 0 rfl ?_
      refine g_iload_n C dX0_insert_116 1 rfl ?_
      obtain ⟨r1, s1, h1, hF⟩ := bd_some hF
      refine g_callV C (kX0_sizeOf l D h0 E _ _ _ _ h1) gV_X0_sizeOf rfl rfl hn_X0_sizeOf rfl (Nat.le_of_ble_eq_true rfl) (Nat.le_of_ble_eq_true rfl) rfl (Nat.le_of_ble_eq_true rfl) dX0_insert_117 ?_
      refine g_iload_n C dX0_insert_120 3 rfl ?_
      refine g_iconst (v := (nI 4)) C dX0_insert_121 rfl ?_
      refine g_imul C dX0_insert_122 ?_
      refine g_iadd C dX0_insert_123 ?_
      obtain ⟨r2, s2, h2, hF⟩ := bd_some hF
      refine g_callVv C (kX0_setSize l D h0 E _ _ _ _ _ h2) gV_X0_setSize rfl rfl hn_X0_setSize rfl (Nat.le_of_ble_eq_true rfl) (Nat.le_of_ble_eq_true rfl) rfl (Nat.le_of_ble_eq_true rfl) dX0_insert_124 ?_
      refine g_aload_n C dX0_insert_127 0 rfl ?_
      refine g_iload_n C dX0_insert_128 1 rfl ?_
      obtain ⟨r3, s3, h3, hF⟩ := bd_some hF
      refine g_callV C (kX0_sizeOf l D h0 E _ _ _ _ h3) gV_X0_sizeOf rfl rfl hn_X0_sizeOf rfl (Nat.le_of_ble_eq_true rfl) (Nat.le_of_ble_eq_true rfl) rfl (Nat.le_of_ble_eq_true rfl) dX0_insert_129 ?_
      exact x0_iret C rfl dX0_insert_132 hF
    · refine g_aload_n C dX0_insert_78 0 rfl ?_
      refine g_iload_n C dX0_insert_79 1 rfl ?_
      refine g_iload C dX0_insert_80 4 rfl ?_
      refine g_iload C dX0_insert_82 4 rfl ?_
      refine g_iload_n C dX0_insert_84 3 rfl ?_
      refine g_isub C dX0_insert_85 ?_
      refine g_iload_n C dX0_insert_86 2 rfl ?_
      refine g_icmp_lt (tgt := 102) C dX0_insert_87 rfl (fun hc hF => ?_) (fun hc hF => ?_) hF
      · refine g_bipush (v := nN) C dX0_insert_102 rfl ?_
        obtain ⟨r4, s4, h4, hF⟩ := bd_some hF
        refine g_callVv C (kX0_putBlock l D h0 E _ _ _ _ _ _ h4) gV_X0_putBlock rfl rfl hn_X0_putBlock rfl (Nat.le_of_ble_eq_true rfl) (Nat.le_of_ble_eq_true rfl) rfl (Nat.le_of_ble_eq_true rfl) dX0_insert_104 ?_
        refine g_iinc (v := (x4 - nI 1)) (lv2 := [(4, .int (x4 - nI 1)), (0, .ref h0), (1, .int x1), (2, .int x2), (3, .int x3)]) C dX0_insert_107 4 rfl (iinc_m1 _) (Nat.le_of_ble_eq_true rfl) rfl ?_
        refine g_goto (tgt := 72) C dX0_insert_110 rfl ?_
        refine g_sub [1, 2, 3, 4, 0] (lv2 := [(0, .ref h0), (1, .int x1), (2, .int x2), (3, .int x3), (4, .int (x4 - nI 1))]) rfl ?_
        exact ih _ _ _ _ _ hF
      · refine g_aload_n C dX0_insert_90 0 rfl ?_
        refine g_iload_n C dX0_insert_91 1 rfl ?_
        refine g_iload C dX0_insert_92 4 rfl ?_
        refine g_iload_n C dX0_insert_94 3 rfl ?_
        refine g_isub C dX0_insert_95 ?_
        obtain ⟨r5, s5, h5, hF⟩ := bd_some hF
        refine g_callV C (kX0_blockAt l D h0 E _ _ _ _ _ h5) gV_X0_blockAt rfl rfl hn_X0_blockAt rfl (Nat.le_of_ble_eq_true rfl) (Nat.le_of_ble_eq_true rfl) rfl (Nat.le_of_ble_eq_true rfl) dX0_insert_96 ?_
        refine g_goto (tgt := 104) C dX0_insert_99 rfl ?_
        obtain ⟨r6, s6, h6, hF⟩ := bd_some hF
        refine g_callVv C (kX0_putBlock l D h0 E _ _ _ _ _ _ h6) gV_X0_putBlock rfl rfl hn_X0_putBlock rfl (Nat.le_of_ble_eq_true rfl) (Nat.le_of_ble_eq_true rfl) rfl (Nat.le_of_ble_eq_true rfl) dX0_insert_104 ?_
        refine g_iinc (v := (x4 - nI 1)) (lv2 := [(4, .int (x4 - nI 1)), (0, .ref h0), (1, .int x1), (2, .int x2), (3, .int x3)]) C dX0_insert_107 4 rfl (iinc_m1 _) (Nat.le_of_ble_eq_true rfl) rfl ?_
        refine g_goto (tgt := 72) C dX0_insert_110 rfl ?_
        refine g_sub [1, 2, 3, 4, 0] (lv2 := [(0, .ref h0), (1, .int x1), (2, .int x2), (3, .int x3), (4, .int (x4 - nI 1))]) rfl ?_
        exact ih _ _ _ _ _ hF
set_option maxRecDepth 100000 in
set_option maxHeartbeats 4000000 in
theorem kX0_insert (l : Launch) (D : va_G) (h0 : Nat) (E : EX) (x1 : Int32) (x2 : Int32) (x3 : Int32) (σ : SX) (r : Int32) (σ2 : SX) (hF : fX0_insert x1 x2 x3 σ = some (r, σ2)) : MI l D (tysX0 E) yX0_insert cX0_insert 5 (some .int) 3 65 [.ref h0, .int x1, .int x2, .int x3] (wX0 h0 E σ) (wX0 h0 E σ2) r := by
  refine g_enterI (own := RX0) (lv := [(0, .ref h0), (1, .int x1), (2, .int x2), (3, .int x3)]) (by decide +kernel) rfl (Nat.le_of_ble_eq_true rfl) rfl ?_
  intro p e s m args below meth c A C
  rw [fX0_insert] at hF
  refine g_iload_n C dX0_insert_0 1 rfl ?_
  obtain ⟨r1, h1, hF⟩ := bs_some hF
  refine g_callS C (kX0_isFile l D _ _ h1) gS_X0_isFile hn_X0_isFile rfl (Nat.le_of_ble_eq_true rfl) (Nat.le_of_ble_eq_true rfl) rfl (Nat.le_of_ble_eq_true rfl) dX0_insert_1 ?_
  refine g_if_ne (tgt := 9) C dX0_insert_4 rfl (fun hc hF => ?_) (fun hc hF => ?_) hF
  · refine g_iload_n C dX0_insert_9 2 rfl ?_
    obtain ⟨r2, h2, hF⟩ := bs_some hF
    refine g_callS C (kX0_isPlace l D _ _ h2) gS_X0_isPlace hn_X0_isPlace rfl (Nat.le_of_ble_eq_true rfl) (Nat.le_of_ble_eq_true rfl) rfl (Nat.le_of_ble_eq_true rfl) dX0_insert_10 ?_
    refine g_if_eq (tgt := 27) C dX0_insert_13 rfl (fun hc hF => ?_) (fun hc hF => ?_) hF
    · refine g_bipush (v := (-2)) C dX0_insert_27 rfl ?_
      exact x0_iret C rfl dX0_insert_29 hF
    · refine g_iload_n C dX0_insert_16 3 rfl ?_
      refine g_iconst (v := (nI 1)) C dX0_insert_17 rfl ?_
      refine g_icmp_lt (tgt := 27) C dX0_insert_18 rfl (fun hc hF => ?_) (fun hc hF => ?_) hF
      · refine g_bipush (v := (-2)) C dX0_insert_27 rfl ?_
        exact x0_iret C rfl dX0_insert_29 hF
      · refine g_iload_n C dX0_insert_21 3 rfl ?_
        refine g_bipush (v := (nI 24)) C dX0_insert_22 rfl ?_
        refine g_icmp_le (tgt := 30) C dX0_insert_24 rfl (fun hc hF => ?_) (fun hc hF => ?_) hF
        · refine g_aload_n C dX0_insert_30 0 rfl ?_
          refine x0_get9 C dX0_insert_31 ?_
          refine g_if_ne (tgt := 48) C dX0_insert_34 rfl (fun hc hF => ?_) (fun hc hF => ?_) hF
          · refine g_bipush (v := (-3)) C dX0_insert_48 rfl ?_
            exact x0_iret C rfl dX0_insert_50 hF
          · refine g_iload_n C dX0_insert_37 2 rfl ?_
            refine g_iconst (v := (nI 4)) C dX0_insert_38 rfl ?_
            refine g_imul C dX0_insert_39 ?_
            refine g_aload_n C dX0_insert_40 0 rfl ?_
            refine g_iload_n C dX0_insert_41 1 rfl ?_
            obtain ⟨r3, s3, h3, hF⟩ := bd_some hF
            refine g_callV C (kX0_sizeOf l D h0 E _ _ _ _ h3) gV_X0_sizeOf rfl rfl hn_X0_sizeOf rfl (Nat.le_of_ble_eq_true rfl) (Nat.le_of_ble_eq_true rfl) rfl (Nat.le_of_ble_eq_true rfl) dX0_insert_42 ?_
            refine g_icmp_lt (tgt := 51) C dX0_insert_45 rfl (fun hc hF => ?_) (fun hc hF => ?_) hF
            · refine g_aload_n C dX0_insert_51 0 rfl ?_
              refine g_iload_n C dX0_insert_52 1 rfl ?_
              obtain ⟨r4, s4, h4, hF⟩ := bd_some hF
              refine g_callV C (kX0_sizeOf l D h0 E _ _ _ _ h4) gV_X0_sizeOf rfl rfl hn_X0_sizeOf rfl (Nat.le_of_ble_eq_true rfl) (Nat.le_of_ble_eq_true rfl) rfl (Nat.le_of_ble_eq_true rfl) dX0_insert_53 ?_
              refine g_iload_n C dX0_insert_56 3 rfl ?_
              refine g_iconst (v := (nI 4)) C dX0_insert_57 rfl ?_
              refine g_imul C dX0_insert_58 ?_
              refine g_iadd C dX0_insert_59 ?_
              refine g_bipush (v := (nI 96)) C dX0_insert_60 rfl ?_
              refine g_icmp_le (tgt := 68) C dX0_insert_62 rfl (fun hc hF => ?_) (fun hc hF => ?_) hF
              · refine g_bipush (v := (nI 23)) C dX0_insert_68 rfl ?_
                refine g_istore (lv2 := [(4, .int (nI 23)), (0, .ref h0), (1, .int x1), (2, .int x2), (3, .int x3)]) C dX0_insert_70 (Nat.le_of_ble_eq_true rfl) rfl ?_
                refine g_sub [1, 2, 3, 4, 0] (lv2 := [(0, .ref h0), (1, .int x1), (2, .int x2), (3, .int x3), (4, .int (nI 23))]) rfl ?_
                exact wX0_insert_L72 C FU _ _ _ _ _ hF
              · refine g_bipush (v := (-4)) C dX0_insert_65 rfl ?_
                exact x0_iret C rfl dX0_insert_67 hF
            · refine g_bipush (v := (-3)) C dX0_insert_48 rfl ?_
              exact x0_iret C rfl dX0_insert_50 hF
        · refine g_bipush (v := (-2)) C dX0_insert_27 rfl ?_
          exact x0_iret C rfl dX0_insert_29 hF
  · refine g_iconst (v := (-1)) C dX0_insert_7 rfl ?_
    exact x0_iret C rfl dX0_insert_8 hF
set_option maxRecDepth 100000 in
set_option maxHeartbeats 4000000 in
theorem kX0_isBelowSize (l : Launch) (D : va_G) (h0 : Nat) (E : EX) (x1 : Int32) (x2 : Int32) (x3 : Int32) (σ : SX) (r : Int32) (σ2 : SX) (hF : fX0_isBelowSize x1 x2 x3 σ = some (r, σ2)) : MI l D (tysX0 E) yX0_isBelowSize cX0_isBelowSize 4 (some .boolean) 2 41 [.ref h0, .int x1, .int x2, .int x3] (wX0 h0 E σ) (wX0 h0 E σ2) r := by
  refine g_enterI (own := RX0) (lv := [(0, .ref h0), (1, .int x1), (2, .int x2), (3, .int x3)]) (by decide +kernel) rfl (Nat.le_of_ble_eq_true rfl) rfl ?_
  intro p e s m args below meth c A C
  rw [fX0_isBelowSize] at hF
  refine g_iload_n C dX0_isBelowSize_0 2 rfl ?_
  refine g_iload_n C dX0_isBelowSize_1 3 rfl ?_
  refine g_iadd C dX0_isBelowSize_2 ?_
  refine g_iconst (v := (nI 4)) C dX0_isBelowSize_3 rfl ?_
  refine g_imul C dX0_isBelowSize_4 ?_
  refine g_aload_n C dX0_isBelowSize_5 0 rfl ?_
  refine g_iload_n C dX0_isBelowSize_6 1 rfl ?_
  obtain ⟨r1, s1, h1, hF⟩ := bd_some hF
  refine g_callV C (kX0_sizeOf l D h0 E _ _ _ _ h1) gV_X0_sizeOf rfl rfl hn_X0_sizeOf rfl (Nat.le_of_ble_eq_true rfl) (Nat.le_of_ble_eq_true rfl) rfl (Nat.le_of_ble_eq_true rfl) dX0_isBelowSize_7 ?_
  refine g_icmp_gt (tgt := 17) C dX0_isBelowSize_10 rfl (fun hc hF => ?_) (fun hc hF => ?_) hF
  · refine g_iconst (v := (nI 0)) C dX0_isBelowSize_17 rfl ?_
    exact x0_zret C rfl rfl dX0_isBelowSize_18 hF
  · refine g_iconst (v := (nI 1)) C dX0_isBelowSize_13 rfl ?_
    refine g_goto (tgt := 18) C dX0_isBelowSize_14 rfl ?_
    exact x0_zret C rfl rfl dX0_isBelowSize_18 hF
set_option maxRecDepth 100000 in
set_option maxHeartbeats 4000000 in
theorem kX0_meet (l : Launch) (D : va_G) (x0 : Int32) (x1 : Int32) (x2 : Int32) (x3 : Int32) (x4 : Int32) (r : Int32) (hF : fX0_meet x0 x1 x2 x3 x4 = some r) : MI l D [] yX0_meet cX0_meet 5 (some .boolean) 0 0 [.int x0, .int x1, .int x2, .int x3, .int x4] [] [] r := by
  refine g_enterI (own := RX0) (lv := [(0, .int x0), (1, .int x1), (2, .int x2), (3, .int x3), (4, .int x4)]) (by decide +kernel) rfl (Nat.le_of_ble_eq_true rfl) rfl ?_
  intro p e s m args below meth c A C
  rw [fX0_meet] at hF
  refine g_iload_n C dX0_meet_0 0 rfl ?_
  refine g_iload_n C dX0_meet_1 2 rfl ?_
  refine g_icmp_ne (tgt := 25) C dX0_meet_2 rfl (fun hc hF => ?_) (fun hc hF => ?_) hF
  · refine g_iconst (v := (nI 0)) C dX0_meet_25 rfl ?_
    exact s_zret C rfl rfl dX0_meet_26 hF
  · refine g_iload_n C dX0_meet_5 1 rfl ?_
    refine g_iload_n C dX0_meet_6 3 rfl ?_
    refine g_iload C dX0_meet_7 4 rfl ?_
    refine g_iadd C dX0_meet_9 ?_
    refine g_icmp_ge (tgt := 25) C dX0_meet_10 rfl (fun hc hF => ?_) (fun hc hF => ?_) hF
    · refine g_iconst (v := (nI 0)) C dX0_meet_25 rfl ?_
      exact s_zret C rfl rfl dX0_meet_26 hF
    · refine g_iload_n C dX0_meet_13 3 rfl ?_
      refine g_iload_n C dX0_meet_14 1 rfl ?_
      refine g_iload C dX0_meet_15 4 rfl ?_
      refine g_iadd C dX0_meet_17 ?_
      refine g_icmp_ge (tgt := 25) C dX0_meet_18 rfl (fun hc hF => ?_) (fun hc hF => ?_) hF
      · refine g_iconst (v := (nI 0)) C dX0_meet_25 rfl ?_
        exact s_zret C rfl rfl dX0_meet_26 hF
      · refine g_iconst (v := (nI 1)) C dX0_meet_21 rfl ?_
        refine g_goto (tgt := 26) C dX0_meet_22 rfl ?_
        exact s_zret C rfl rfl dX0_meet_26 hF
set_option maxRecDepth 100000 in
set_option maxHeartbeats 4000000 in
theorem wX0_share_L75 {p : Program} {l : Launch} {e : Env} {s : State} {m : MethodId} {args : Array Value} {below : List Frame} {meth : Method} {c : Code} {A : Nat → Prop} {D : va_G} {h0 : Nat} {E : EX} {σ2 : SX} {r : Int32} (C : GC p { frames := 3, cells := 0, slots := 0, locals := 65 } s m args meth c A D cX0_share 7 0 0 (tysX0 E) RX0 (some .int)) : ∀ (n : Nat) (x1 : Int32) (x2 : Int32) (x3 : Int32) (x4 : Int32) (x5 : Int32) (x6 : Int32) (σ : SX), fX0_share_L75 n x1 x2 x3 x4 x5 x6 σ = some (r, σ2) → GW p l e { frames := 3, cells := 0, slots := 0, locals := 65 } s m args below meth c (QI D (wX0 h0 E σ2) r A below args s) A D 7 0 0 (wX0 h0 E σ) 75 [(0, .ref h0), (1, .int x1), (2, .int x2), (3, .int x3), (4, .int x4), (5, .int x5), (6, .int x6)] [] := by
  intro n
  induction n with
  | zero => intro x1 x2 x3 x4 x5 x6 σ hF; simp only [fX0_share_L75] at hF; cases hF
  | succ n ih =>
    intro x1 x2 x3 x4 x5 x6 σ hF
    rw [fX0_share_L75] at hF
    refine g_iload C dX0_share_75 6 rfl ?_
    refine g_iload C dX0_share_77 5 rfl ?_
    refine g_icmp_ge (tgt := 107) C dX0_share_79 rfl (fun hc hF => ?_) (fun hc hF => ?_) hF
    · refine g_aload_n C dX0_share_107 0 rfl ?_
      refine g_iload_n C dX0_share_108 3 rfl ?_
      refine g_iload C dX0_share_109 4 rfl ?_
      refine g_iload C dX0_share_111 5 rfl ?_
      refine g_iadd C dX0_share_113 ?_
      refine g_iconst (v := (nI 4)) C dX0_share_114 rfl ?_
      refine g_imul C dX0_share_115 ?_
      obtain ⟨r1, s1, h1, hF⟩ := bd_some hF
      refine g_callVv C (kX0_growTo l D h0 E _ _ _ _ _ h1) gV_X0_growTo rfl rfl hn_X0_growTo rfl (Nat.le_of_ble_eq_true rfl) (Nat.le_of_ble_eq_true rfl) rfl (Nat.le_of_ble_eq_true rfl) dX0_share_116 ?_
      refine g_aload_n C dX0_share_119 0 rfl ?_
      refine g_iload_n C dX0_share_120 3 rfl ?_
      obtain ⟨r2, s2, h2, hF⟩ := bd_some hF
      refine g_callV C (kX0_sizeOf l D h0 E _ _ _ _ h2) gV_X0_sizeOf rfl rfl hn_X0_sizeOf rfl (Nat.le_of_ble_eq_true rfl) (Nat.le_of_ble_eq_true rfl) rfl (Nat.le_of_ble_eq_true rfl) dX0_share_121 ?_
      exact x0_iret C rfl dX0_share_124 hF
    · refine g_aload_n C dX0_share_82 0 rfl ?_
      refine g_iload_n C dX0_share_83 3 rfl ?_
      refine g_iload C dX0_share_84 4 rfl ?_
      refine g_iload C dX0_share_86 6 rfl ?_
      refine g_iadd C dX0_share_88 ?_
      refine g_aload_n C dX0_share_89 0 rfl ?_
      refine g_iload_n C dX0_share_90 1 rfl ?_
      refine g_iload_n C dX0_share_91 2 rfl ?_
      refine g_iload C dX0_share_92 6 rfl ?_
      refine g_iadd C dX0_share_94 ?_
      obtain ⟨r3, s3, h3, hF⟩ := bd_some hF
      refine g_callV C (kX0_blockAt l D h0 E _ _ _ _ _ h3) gV_X0_blockAt rfl rfl hn_X0_blockAt rfl (Nat.le_of_ble_eq_true rfl) (Nat.le_of_ble_eq_true rfl) rfl (Nat.le_of_ble_eq_true rfl) dX0_share_95 ?_
      obtain ⟨r4, s4, h4, hF⟩ := bd_some hF
      refine g_callVv C (kX0_putBlock l D h0 E _ _ _ _ _ _ h4) gV_X0_putBlock rfl rfl hn_X0_putBlock rfl (Nat.le_of_ble_eq_true rfl) (Nat.le_of_ble_eq_true rfl) rfl (Nat.le_of_ble_eq_true rfl) dX0_share_98 ?_
      refine g_iinc (v := (x6 + nI 1)) (lv2 := [(6, .int (x6 + nI 1)), (0, .ref h0), (1, .int x1), (2, .int x2), (3, .int x3), (4, .int x4), (5, .int x5)]) C dX0_share_101 6 rfl rfl (Nat.le_of_ble_eq_true rfl) rfl ?_
      refine g_goto (tgt := 75) C dX0_share_104 rfl ?_
      refine g_sub [1, 2, 3, 4, 5, 6, 0] (lv2 := [(0, .ref h0), (1, .int x1), (2, .int x2), (3, .int x3), (4, .int x4), (5, .int x5), (6, .int (x6 + nI 1))]) rfl ?_
      exact ih _ _ _ _ _ _ _ hF
set_option maxRecDepth 100000 in
set_option maxHeartbeats 4000000 in
theorem kX0_share (l : Launch) (D : va_G) (h0 : Nat) (E : EX) (x1 : Int32) (x2 : Int32) (x3 : Int32) (x4 : Int32) (x5 : Int32) (σ : SX) (r : Int32) (σ2 : SX) (hF : fX0_share x1 x2 x3 x4 x5 σ = some (r, σ2)) : MI l D (tysX0 E) yX0_share cX0_share 7 (some .int) 3 65 [.ref h0, .int x1, .int x2, .int x3, .int x4, .int x5] (wX0 h0 E σ) (wX0 h0 E σ2) r := by
  refine g_enterI (own := RX0) (lv := [(0, .ref h0), (1, .int x1), (2, .int x2), (3, .int x3), (4, .int x4), (5, .int x5)]) (by decide +kernel) rfl (Nat.le_of_ble_eq_true rfl) rfl ?_
  intro p e s m args below meth c A C
  rw [fX0_share] at hF
  refine g_iload_n C dX0_share_0 1 rfl ?_
  obtain ⟨r1, h1, hF⟩ := bs_some hF
  refine g_callS C (kX0_isFile l D _ _ h1) gS_X0_isFile hn_X0_isFile rfl (Nat.le_of_ble_eq_true rfl) (Nat.le_of_ble_eq_true rfl) rfl (Nat.le_of_ble_eq_true rfl) dX0_share_1 ?_
  refine g_if_eq (tgt := 14) C dX0_share_4 rfl (fun hc hF => ?_) (fun hc hF => ?_) hF
  · refine g_iconst (v := (-1)) C dX0_share_14 rfl ?_
    exact x0_iret C rfl dX0_share_15 hF
  · refine g_iload_n C dX0_share_7 3 rfl ?_
    obtain ⟨r2, h2, hF⟩ := bs_some hF
    refine g_callS C (kX0_isFile l D _ _ h2) gS_X0_isFile hn_X0_isFile rfl (Nat.le_of_ble_eq_true rfl) (Nat.le_of_ble_eq_true rfl) rfl (Nat.le_of_ble_eq_true rfl) dX0_share_8 ?_
    refine g_if_ne (tgt := 16) C dX0_share_11 rfl (fun hc hF => ?_) (fun hc hF => ?_) hF
    · refine g_iload_n C dX0_share_16 2 rfl ?_
      refine g_iload C dX0_share_17 5 rfl ?_
      obtain ⟨r3, h3, hF⟩ := bs_some hF
      refine g_callS C (kX0_isPlaceRange l D _ _ _ h3) gS_X0_isPlaceRange hn_X0_isPlaceRange rfl (Nat.le_of_ble_eq_true rfl) (Nat.le_of_ble_eq_true rfl) rfl (Nat.le_of_ble_eq_true rfl) dX0_share_19 ?_
      refine g_if_eq (tgt := 35) C dX0_share_22 rfl (fun hc hF => ?_) (fun hc hF => ?_) hF
      · refine g_bipush (v := (-2)) C dX0_share_35 rfl ?_
        exact x0_iret C rfl dX0_share_37 hF
      · refine g_iload C dX0_share_25 4 rfl ?_
        refine g_iload C dX0_share_27 5 rfl ?_
        obtain ⟨r4, h4, hF⟩ := bs_some hF
        refine g_callS C (kX0_isPlaceRange l D _ _ _ h4) gS_X0_isPlaceRange hn_X0_isPlaceRange rfl (Nat.le_of_ble_eq_true rfl) (Nat.le_of_ble_eq_true rfl) rfl (Nat.le_of_ble_eq_true rfl) dX0_share_29 ?_
        refine g_if_ne (tgt := 38) C dX0_share_32 rfl (fun hc hF => ?_) (fun hc hF => ?_) hF
        · refine g_aload_n C dX0_share_38 0 rfl ?_
          refine x0_get9 C dX0_share_39 ?_
          refine g_if_ne (tgt := 69) C dX0_share_42 rfl (fun hc hF => ?_) (fun hc hF => ?_) hF
          · refine g_bipush (v := (-3)) C dX0_share_69 rfl ?_
            exact x0_iret C rfl dX0_share_71 hF
          · refine g_aload_n C dX0_share_45 0 rfl ?_
            refine g_iload_n C dX0_share_46 1 rfl ?_
            refine g_iload_n C dX0_share_47 2 rfl ?_
            refine g_iload C dX0_share_48 5 rfl ?_
            obtain ⟨r5, s5, h5, hF⟩ := bd_some hF
            refine g_callV C (kX0_isBelowSize l D h0 E _ _ _ _ _ _ h5) gV_X0_isBelowSize rfl rfl hn_X0_isBelowSize rfl (Nat.le_of_ble_eq_true rfl) (Nat.le_of_ble_eq_true rfl) rfl (Nat.le_of_ble_eq_true rfl) dX0_share_50 ?_
            refine g_if_eq (tgt := 69) C dX0_share_53 rfl (fun hc hF => ?_) (fun hc hF => ?_) hF
            · refine g_bipush (v := (-3)) C dX0_share_69 rfl ?_
              exact x0_iret C rfl dX0_share_71 hF
            · refine g_iload_n C dX0_share_56 1 rfl ?_
              refine g_iload_n C dX0_share_57 2 rfl ?_
              refine g_iload_n C dX0_share_58 3 rfl ?_
              refine g_iload C dX0_share_59 4 rfl ?_
              refine g_iload C dX0_share_61 5 rfl ?_
              obtain ⟨r6, h6, hF⟩ := bs_some hF
              refine g_callS C (kX0_meet l D _ _ _ _ _ _ h6) gS_X0_meet hn_X0_meet rfl (Nat.le_of_ble_eq_true rfl) (Nat.le_of_ble_eq_true rfl) rfl (Nat.le_of_ble_eq_true rfl) dX0_share_63 ?_
              refine g_if_eq (tgt := 72) C dX0_share_66 rfl (fun hc hF => ?_) (fun hc hF => ?_) hF
              · refine g_iconst (v := (nI 0)) C dX0_share_72 rfl ?_
                refine g_istore (lv2 := [(6, .int (nI 0)), (0, .ref h0), (1, .int x1), (2, .int x2), (3, .int x3), (4, .int x4), (5, .int x5)]) C dX0_share_73 (Nat.le_of_ble_eq_true rfl) rfl ?_
                refine g_sub [1, 2, 3, 4, 5, 6, 0] (lv2 := [(0, .ref h0), (1, .int x1), (2, .int x2), (3, .int x3), (4, .int x4), (5, .int x5), (6, .int (nI 0))]) rfl ?_
                exact wX0_share_L75 C FU _ _ _ _ _ _ _ hF
              · refine g_bipush (v := (-3)) C dX0_share_69 rfl ?_
                exact x0_iret C rfl dX0_share_71 hF
        · refine g_bipush (v := (-2)) C dX0_share_35 rfl ?_
          exact x0_iret C rfl dX0_share_37 hF
    · refine g_iconst (v := (-1)) C dX0_share_14 rfl ?_
      exact x0_iret C rfl dX0_share_15 hF
set_option maxRecDepth 100000 in
set_option maxHeartbeats 4000000 in
theorem kX0_unshare (l : Launch) (D : va_G) (h0 : Nat) (E : EX) (x1 : Int32) (x2 : Int32) (x3 : Int32) (σ : SX) (r : Int32) (σ2 : SX) (hF : fX0_unshare x1 x2 x3 σ = some (r, σ2)) : MI l D (tysX0 E) yX0_unshare cX0_unshare 4 (some .int) 6 132 [.ref h0, .int x1, .int x2, .int x3] (wX0 h0 E σ) (wX0 h0 E σ2) r := by
  refine g_enterI (own := RX0) (lv := [(0, .ref h0), (1, .int x1), (2, .int x2), (3, .int x3)]) (by decide +kernel) rfl (Nat.le_of_ble_eq_true rfl) rfl ?_
  intro p e s m args below meth c A C
  rw [fX0_unshare] at hF
  refine g_iload_n C dX0_unshare_0 1 rfl ?_
  obtain ⟨r1, h1, hF⟩ := bs_some hF
  refine g_callS C (kX0_isFile l D _ _ h1) gS_X0_isFile hn_X0_isFile rfl (Nat.le_of_ble_eq_true rfl) (Nat.le_of_ble_eq_true rfl) rfl (Nat.le_of_ble_eq_true rfl) dX0_unshare_1 ?_
  refine g_if_ne (tgt := 9) C dX0_unshare_4 rfl (fun hc hF => ?_) (fun hc hF => ?_) hF
  · refine g_iload_n C dX0_unshare_9 2 rfl ?_
    refine g_iload_n C dX0_unshare_10 3 rfl ?_
    obtain ⟨r2, h2, hF⟩ := bs_some hF
    refine g_callS C (kX0_isPlaceRange l D _ _ _ h2) gS_X0_isPlaceRange hn_X0_isPlaceRange rfl (Nat.le_of_ble_eq_true rfl) (Nat.le_of_ble_eq_true rfl) rfl (Nat.le_of_ble_eq_true rfl) dX0_unshare_11 ?_
    refine g_if_ne (tgt := 20) C dX0_unshare_14 rfl (fun hc hF => ?_) (fun hc hF => ?_) hF
    · refine g_aload_n C dX0_unshare_20 0 rfl ?_
      refine x0_get9 C dX0_unshare_21 ?_
      refine g_if_eq (tgt := 30) C dX0_unshare_24 rfl (fun hc hF => ?_) (fun hc hF => ?_) hF
      · refine g_aload_n C dX0_unshare_30 0 rfl ?_
        refine g_iload_n C dX0_unshare_31 1 rfl ?_
        refine g_iload_n C dX0_unshare_32 2 rfl ?_
        refine g_iload_n C dX0_unshare_33 2 rfl ?_
        refine g_iload_n C dX0_unshare_34 3 rfl ?_
        refine g_iadd C dX0_unshare_35 ?_
        refine g_iconst (v := (nI 1)) C dX0_unshare_36 rfl ?_
        refine g_isub C dX0_unshare_37 ?_
        refine g_iconst (v := (nI 0)) C dX0_unshare_38 rfl ?_
        obtain ⟨r3, s3, h3, hF⟩ := bd_some hF
        refine g_callVv C (kX0_chooseNeedy l D h0 E _ _ _ _ _ _ _ h3) gV_X0_chooseNeedy rfl rfl hn_X0_chooseNeedy rfl (Nat.le_of_ble_eq_true rfl) (Nat.le_of_ble_eq_true rfl) rfl (Nat.le_of_ble_eq_true rfl) dX0_unshare_39 ?_
        refine g_aload_n C dX0_unshare_42 0 rfl ?_
        obtain ⟨r4, s4, h4, hF⟩ := bd_some hF
        refine g_callV C (kX0_isSpent l D h0 E _ _ _ h4) gV_X0_isSpent rfl rfl hn_X0_isSpent rfl (Nat.le_of_ble_eq_true rfl) (Nat.le_of_ble_eq_true rfl) rfl (Nat.le_of_ble_eq_true rfl) dX0_unshare_43 ?_
        refine g_if_eq (tgt := 52) C dX0_unshare_46 rfl (fun hc hF => ?_) (fun hc hF => ?_) hF
        · refine g_aload_n C dX0_unshare_52 0 rfl ?_
          refine g_iload_n C dX0_unshare_53 1 rfl ?_
          obtain ⟨r5, s5, h5, hF⟩ := bd_some hF
          refine g_callVv C (kX0_ownNeedy l D h0 E _ _ _ _ h5) gV_X0_ownNeedy rfl rfl hn_X0_ownNeedy rfl (Nat.le_of_ble_eq_true rfl) (Nat.le_of_ble_eq_true rfl) rfl (Nat.le_of_ble_eq_true rfl) dX0_unshare_54 ?_
          refine g_aload_n C dX0_unshare_57 0 rfl ?_
          refine x0_get5 C dX0_unshare_58 ?_
          exact x0_iret C rfl dX0_unshare_61 hF
        · refine g_bipush (v := (-6)) C dX0_unshare_49 rfl ?_
          exact x0_iret C rfl dX0_unshare_51 hF
      · refine g_bipush (v := (-3)) C dX0_unshare_27 rfl ?_
        exact x0_iret C rfl dX0_unshare_29 hF
    · refine g_bipush (v := (-2)) C dX0_unshare_17 rfl ?_
      exact x0_iret C rfl dX0_unshare_19 hF
  · refine g_iconst (v := (-1)) C dX0_unshare_7 rfl ?_
    exact x0_iret C rfl dX0_unshare_8 hF
set_option maxRecDepth 100000 in
set_option maxHeartbeats 4000000 in
theorem kX0_failure (l : Launch) (D : va_G) (h0 : Nat) (E : EX) (x1 : Int32) (σ : SX) (r : Int32) (σ2 : SX) (hF : fX0_failure x1 σ = some (r, σ2)) : MI l D (tysX0 E) yX0_failure cX0_failure 3 (some .int) 1 20 [.ref h0, .int x1] (wX0 h0 E σ) (wX0 h0 E σ2) r := by
  refine g_enterI (own := RX0) (lv := [(0, .ref h0), (1, .int x1)]) (by decide +kernel) rfl (Nat.le_of_ble_eq_true rfl) rfl ?_
  intro p e s m args below meth c A C
  rw [fX0_failure] at hF
  refine g_iload_n C dX0_failure_0 1 rfl ?_
  refine g_bipush (v := nN) C dX0_failure_1 rfl ?_
  refine g_icmp_eq (tgt := 16) C dX0_failure_3 rfl (fun hc hF => ?_) (fun hc hF => ?_) hF
  · refine g_aload_n C dX0_failure_16 0 rfl ?_
    refine x0_get9 C dX0_failure_17 ?_
    refine g_if_eq (tgt := 26) C dX0_failure_20 rfl (fun hc hF => ?_) (fun hc hF => ?_) hF
    · refine g_aload_n C dX0_failure_26 0 rfl ?_
      refine x0_get8 C dX0_failure_27 ?_
      refine g_istore_n (lv2 := [(2, .int (σ.2 8)), (0, .ref h0), (1, .int x1)]) C dX0_failure_30 (Nat.le_of_ble_eq_true rfl) rfl ?_
      refine g_aload_n C dX0_failure_31 1 rfl ?_
      refine g_iload_n C dX0_failure_32 2 rfl ?_
      refine x0_put8 C dX0_failure_33 ?_
      refine g_iload_n C dX0_failure_36 0 rfl ?_
      exact x0_iret C rfl dX0_failure_37 hF
    · refine g_bipush (v := (-3)) C dX0_failure_23 rfl ?_
      exact x0_iret C rfl dX0_failure_25 hF
  · refine g_iload_n C dX0_failure_6 1 rfl ?_
    obtain ⟨r1, h1, hF⟩ := bs_some hF
    refine g_callS C (kX0_isPlace l D _ _ h1) gS_X0_isPlace hn_X0_isPlace rfl (Nat.le_of_ble_eq_true rfl) (Nat.le_of_ble_eq_true rfl) rfl (Nat.le_of_ble_eq_true rfl) dX0_failure_7 ?_
    refine g_if_ne (tgt := 16) C dX0_failure_10 rfl (fun hc hF => ?_) (fun hc hF => ?_) hF
    · refine g_aload_n C dX0_failure_16 0 rfl ?_
      refine x0_get9 C dX0_failure_17 ?_
      refine g_if_eq (tgt := 26) C dX0_failure_20 rfl (fun hc hF => ?_) (fun hc hF => ?_) hF
      · refine g_aload_n C dX0_failure_26 0 rfl ?_
        refine x0_get8 C dX0_failure_27 ?_
        refine g_istore_n (lv2 := [(2, .int (σ.2 8)), (0, .ref h0), (1, .int x1)]) C dX0_failure_30 (Nat.le_of_ble_eq_true rfl) rfl ?_
        refine g_aload_n C dX0_failure_31 1 rfl ?_
        refine g_iload_n C dX0_failure_32 2 rfl ?_
        refine x0_put8 C dX0_failure_33 ?_
        refine g_iload_n C dX0_failure_36 0 rfl ?_
        exact x0_iret C rfl dX0_failure_37 hF
      · refine g_bipush (v := (-3)) C dX0_failure_23 rfl ?_
        exact x0_iret C rfl dX0_failure_25 hF
    · refine g_bipush (v := (-2)) C dX0_failure_13 rfl ?_
      exact x0_iret C rfl dX0_failure_15 hF
set_option maxRecDepth 100000 in
set_option maxHeartbeats 4000000 in
theorem kX0_openLog (l : Launch) (D : va_G) (h0 : Nat) (E : EX) (x1 : Int32) (x2 : Int32) (x3 : Int32) (x4 : Int32) (x5 : Int32) (σ : SX) (r : Int32) (σ2 : SX) (hF : fX0_openLog x1 x2 x3 x4 x5 σ = some (r, σ2)) : MV l D (tysX0 E) yX0_openLog cX0_openLog 6 none 0 0 [.ref h0, .int x1, .int x2, .int x3, .int x4, .int x5] (wX0 h0 E σ) (wX0 h0 E σ2) := by
  refine g_enterV (own := RX0) (lv := [(0, .ref h0), (1, .int x1), (2, .int x2), (3, .int x3), (4, .int x4), (5, .int x5)]) (by decide +kernel) rfl (Nat.le_of_ble_eq_true rfl) rfl ?_
  intro p e s m args below meth c A C
  rw [fX0_openLog] at hF
  refine g_aload_n C dX0_openLog_0 0 rfl ?_
  refine g_iload_n C dX0_openLog_1 1 rfl ?_
  refine x0_put10 C dX0_openLog_2 ?_
  refine g_aload_n C dX0_openLog_5 0 rfl ?_
  refine g_iload_n C dX0_openLog_6 2 rfl ?_
  refine x0_put11 C dX0_openLog_7 ?_
  refine g_aload_n C dX0_openLog_10 0 rfl ?_
  refine g_iload_n C dX0_openLog_11 3 rfl ?_
  refine x0_put12 C dX0_openLog_12 ?_
  refine g_aload_n C dX0_openLog_15 0 rfl ?_
  refine g_iload C dX0_openLog_16 4 rfl ?_
  refine x0_put13 C dX0_openLog_18 ?_
  refine g_aload_n C dX0_openLog_21 0 rfl ?_
  refine g_iload C dX0_openLog_22 5 rfl ?_
  refine x0_put14 C dX0_openLog_24 ?_
  exact x0_vret C rfl dX0_openLog_27 hF
set_option maxRecDepth 100000 in
set_option maxHeartbeats 4000000 in
theorem wX0_doSteps_L2 {p : Program} {l : Launch} {e : Env} {s : State} {m : MethodId} {args : Array Value} {below : List Frame} {meth : Method} {c : Code} {A : Nat → Prop} {D : va_G} {h0 : Nat} {E : EX} {σ2 : SX} {r : Int32} (C : GC p { frames := 3, cells := 0, slots := 0, locals := 65 } s m args meth c A D cX0_doSteps 6 0 0 (tysX0 E) RX0 none) : ∀ (n : Nat) (x2 : Int32) (x3 : Int32) (σ : SX), fX0_doSteps_L2 n x2 x3 σ = some (r, σ2) → GW p l e { frames := 3, cells := 0, slots := 0, locals := 65 } s m args below meth c (QV D (wX0 h0 E σ2) A below args s) A D 6 0 0 (wX0 h0 E σ) 2 [(0, .ref h0), (2, .int x2), (3, .int x3)] [] := by
  intro n
  induction n with
  | zero => intro x2 x3 σ hF; simp only [fX0_doSteps_L2] at hF; cases hF
  | succ n ih =>
    intro x2 x3 σ hF
    rw [fX0_doSteps_L2] at hF
    refine g_iload_n C dX0_doSteps_2 2 rfl ?_
    refine g_iload_n C dX0_doSteps_3 1 rfl ?_
    refine g_icmp_ge (tgt := 77) C dX0_doSteps_4 rfl (fun hc hF => ?_) (fun hc hF => ?_) hF
    · exact x0_vret C rfl dX0_doSteps_77 hF
    · refine g_aload_n C dX0_doSteps_7 0 rfl ?_
      refine g_aload_n C dX0_doSteps_8 0 rfl ?_
      refine x0_get10 C dX0_doSteps_9 ?_
      refine g_aload_n C dX0_doSteps_12 0 rfl ?_
      refine x0_get11 C dX0_doSteps_13 ?_
      refine g_iload_n C dX0_doSteps_16 2 rfl ?_
      refine g_iadd C dX0_doSteps_17 ?_
      obtain ⟨r1, s1, h1, hF⟩ := bd_some hF
      refine g_callV C (kX0_blockAt l D h0 E _ _ _ _ _ h1) gV_X0_blockAt rfl rfl hn_X0_blockAt rfl (Nat.le_of_ble_eq_true rfl) (Nat.le_of_ble_eq_true rfl) rfl (Nat.le_of_ble_eq_true rfl) dX0_doSteps_18 ?_
      refine g_istore (lv2 := [(4, .int r1), (0, .ref h0), (2, .int x2), (3, .int x3)]) C dX0_doSteps_21 (Nat.le_of_ble_eq_true rfl) rfl ?_
      refine g_aload_n C dX0_doSteps_23 1 rfl ?_
      refine g_aload_n C dX0_doSteps_24 1 rfl ?_
      refine x0_get12 C dX0_doSteps_25 ?_
      refine g_aload_n C dX0_doSteps_28 1 rfl ?_
      refine x0_get13 C dX0_doSteps_29 ?_
      refine g_iload_n C dX0_doSteps_32 3 rfl ?_
      refine g_iadd C dX0_doSteps_33 ?_
      obtain ⟨r2, s2, h2, hF⟩ := bd_some hF
      refine g_callV C (kX0_blockAt l D h0 E _ _ _ _ _ h2) gV_X0_blockAt rfl rfl hn_X0_blockAt rfl (Nat.le_of_ble_eq_true rfl) (Nat.le_of_ble_eq_true rfl) rfl (Nat.le_of_ble_eq_true rfl) dX0_doSteps_34 ?_
      refine g_istore (lv2 := [(5, .int r2), (4, .int r1), (0, .ref h0), (2, .int x2), (3, .int x3)]) C dX0_doSteps_37 (Nat.le_of_ble_eq_true rfl) rfl ?_
      refine g_aload_n C dX0_doSteps_39 2 rfl ?_
      refine g_aload_n C dX0_doSteps_40 2 rfl ?_
      refine x0_get10 C dX0_doSteps_41 ?_
      refine g_aload_n C dX0_doSteps_44 2 rfl ?_
      refine x0_get11 C dX0_doSteps_45 ?_
      refine g_iload_n C dX0_doSteps_48 4 rfl ?_
      refine g_iadd C dX0_doSteps_49 ?_
      refine g_iload C dX0_doSteps_50 0 rfl ?_
      obtain ⟨r3, s3, h3, hF⟩ := bd_some hF
      refine g_callVv C (kX0_putBlock l D h0 E _ _ _ _ _ _ h3) gV_X0_putBlock rfl rfl hn_X0_putBlock rfl (Nat.le_of_ble_eq_true rfl) (Nat.le_of_ble_eq_true rfl) rfl (Nat.le_of_ble_eq_true rfl) dX0_doSteps_52 ?_
      refine g_aload_n C dX0_doSteps_55 2 rfl ?_
      refine g_aload_n C dX0_doSteps_56 2 rfl ?_
      refine x0_get12 C dX0_doSteps_57 ?_
      refine g_aload_n C dX0_doSteps_60 2 rfl ?_
      refine x0_get13 C dX0_doSteps_61 ?_
      refine g_iload_n C dX0_doSteps_64 4 rfl ?_
      refine g_iadd C dX0_doSteps_65 ?_
      refine g_iload C dX0_doSteps_66 1 rfl ?_
      obtain ⟨r4, s4, h4, hF⟩ := bd_some hF
      refine g_callVv C (kX0_putBlock l D h0 E _ _ _ _ _ _ h4) gV_X0_putBlock rfl rfl hn_X0_putBlock rfl (Nat.le_of_ble_eq_true rfl) (Nat.le_of_ble_eq_true rfl) rfl (Nat.le_of_ble_eq_true rfl) dX0_doSteps_68 ?_
      refine g_iinc (v := (x3 + nI 1)) (lv2 := [(3, .int (x3 + nI 1)), (5, .int r2), (4, .int r1), (0, .ref h0), (2, .int x2)]) C dX0_doSteps_71 4 rfl rfl (Nat.le_of_ble_eq_true rfl) rfl ?_
      refine g_goto (tgt := 2) C dX0_doSteps_74 rfl ?_
      refine g_sub [3, 4, 0] (lv2 := [(0, .ref h0), (2, .int x2), (3, .int (x3 + nI 1))]) rfl ?_
      exact ih _ _ _ hF
set_option maxRecDepth 100000 in
set_option maxHeartbeats 4000000 in
theorem kX0_doSteps (l : Launch) (D : va_G) (h0 : Nat) (E : EX) (x1 : Int32) (x2 : Int32) (σ : SX) (r : Int32) (σ2 : SX) (hF : fX0_doSteps x1 x2 σ = some (r, σ2)) : MV l D (tysX0 E) yX0_doSteps cX0_doSteps 6 none 3 65 [.ref h0, .int x1, .int x2] (wX0 h0 E σ) (wX0 h0 E σ2) := by
  refine g_enterV (own := RX0) (lv := [(0, .ref h0), (1, .int x1), (2, .int x2)]) (by decide +kernel) rfl (Nat.le_of_ble_eq_true rfl) rfl ?_
  intro p e s m args below meth c A C
  rw [fX0_doSteps] at hF
  refine g_iload_n C dX0_doSteps_0 1 rfl ?_
  refine g_istore_n (lv2 := [(3, .int x1), (0, .ref h0), (1, .int x1), (2, .int x2)]) C dX0_doSteps_1 (Nat.le_of_ble_eq_true rfl) rfl ?_
  refine g_sub [1, 3, 0] (lv2 := [(0, .ref h0), (2, .int x2), (3, .int x1)]) rfl ?_
  exact wX0_doSteps_L2 C FU _ _ _ hF
set_option maxRecDepth 100000 in
set_option maxHeartbeats 4000000 in
theorem kX0_exchange (l : Launch) (D : va_G) (h0 : Nat) (E : EX) (x1 : Int32) (x2 : Int32) (x3 : Int32) (x4 : Int32) (x5 : Int32) (σ : SX) (r : Int32) (σ2 : SX) (hF : fX0_exchange x1 x2 x3 x4 x5 σ = some (r, σ2)) : MI l D (tysX0 E) yX0_exchange cX0_exchange 6 (some .int) 4 90 [.ref h0, .int x1, .int x2, .int x3, .int x4, .int x5] (wX0 h0 E σ) (wX0 h0 E σ2) r := by
  refine g_enterI (own := RX0) (lv := [(0, .ref h0), (1, .int x1), (2, .int x2), (3, .int x3), (4, .int x4), (5, .int x5)]) (by decide +kernel) rfl (Nat.le_of_ble_eq_true rfl) rfl ?_
  intro p e s m args below meth c A C
  rw [fX0_exchange] at hF
  refine g_iload_n C dX0_exchange_0 1 rfl ?_
  obtain ⟨r1, h1, hF⟩ := bs_some hF
  refine g_callS C (kX0_isFile l D _ _ h1) gS_X0_isFile hn_X0_isFile rfl (Nat.le_of_ble_eq_true rfl) (Nat.le_of_ble_eq_true rfl) rfl (Nat.le_of_ble_eq_true rfl) dX0_exchange_1 ?_
  refine g_if_eq (tgt := 14) C dX0_exchange_4 rfl (fun hc hF => ?_) (fun hc hF => ?_) hF
  · refine g_iconst (v := (-1)) C dX0_exchange_14 rfl ?_
    exact x0_iret C rfl dX0_exchange_15 hF
  · refine g_iload_n C dX0_exchange_7 3 rfl ?_
    obtain ⟨r2, h2, hF⟩ := bs_some hF
    refine g_callS C (kX0_isFile l D _ _ h2) gS_X0_isFile hn_X0_isFile rfl (Nat.le_of_ble_eq_true rfl) (Nat.le_of_ble_eq_true rfl) rfl (Nat.le_of_ble_eq_true rfl) dX0_exchange_8 ?_
    refine g_if_ne (tgt := 16) C dX0_exchange_11 rfl (fun hc hF => ?_) (fun hc hF => ?_) hF
    · refine g_iload_n C dX0_exchange_16 2 rfl ?_
      refine g_iload C dX0_exchange_17 5 rfl ?_
      obtain ⟨r3, h3, hF⟩ := bs_some hF
      refine g_callS C (kX0_isPlaceRange l D _ _ _ h3) gS_X0_isPlaceRange hn_X0_isPlaceRange rfl (Nat.le_of_ble_eq_true rfl) (Nat.le_of_ble_eq_true rfl) rfl (Nat.le_of_ble_eq_true rfl) dX0_exchange_19 ?_
      refine g_if_eq (tgt := 35) C dX0_exchange_22 rfl (fun hc hF => ?_) (fun hc hF => ?_) hF
      · refine g_bipush (v := (-2)) C dX0_exchange_35 rfl ?_
        exact x0_iret C rfl dX0_exchange_37 hF
      · refine g_iload C dX0_exchange_25 4 rfl ?_
        refine g_iload C dX0_exchange_27 5 rfl ?_
        obtain ⟨r4, h4, hF⟩ := bs_some hF
        refine g_callS C (kX0_isPlaceRange l D _ _ _ h4) gS_X0_isPlaceRange hn_X0_isPlaceRange rfl (Nat.le_of_ble_eq_true rfl) (Nat.le_of_ble_eq_true rfl) rfl (Nat.le_of_ble_eq_true rfl) dX0_exchange_29 ?_
        refine g_if_ne (tgt := 38) C dX0_exchange_32 rfl (fun hc hF => ?_) (fun hc hF => ?_) hF
        · refine g_aload_n C dX0_exchange_38 0 rfl ?_
          refine x0_get9 C dX0_exchange_39 ?_
          refine g_if_ne (tgt := 81) C dX0_exchange_42 rfl (fun hc hF => ?_) (fun hc hF => ?_) hF
          · refine g_bipush (v := (-3)) C dX0_exchange_81 rfl ?_
            exact x0_iret C rfl dX0_exchange_83 hF
          · refine g_aload_n C dX0_exchange_45 0 rfl ?_
            refine g_iload_n C dX0_exchange_46 1 rfl ?_
            refine g_iload_n C dX0_exchange_47 2 rfl ?_
            refine g_iload C dX0_exchange_48 5 rfl ?_
            obtain ⟨r5, s5, h5, hF⟩ := bd_some hF
            refine g_callV C (kX0_isBelowSize l D h0 E _ _ _ _ _ _ h5) gV_X0_isBelowSize rfl rfl hn_X0_isBelowSize rfl (Nat.le_of_ble_eq_true rfl) (Nat.le_of_ble_eq_true rfl) rfl (Nat.le_of_ble_eq_true rfl) dX0_exchange_50 ?_
            refine g_if_eq (tgt := 81) C dX0_exchange_53 rfl (fun hc hF => ?_) (fun hc hF => ?_) hF
            · refine g_bipush (v := (-3)) C dX0_exchange_81 rfl ?_
              exact x0_iret C rfl dX0_exchange_83 hF
            · refine g_aload_n C dX0_exchange_56 0 rfl ?_
              refine g_iload_n C dX0_exchange_57 3 rfl ?_
              refine g_iload C dX0_exchange_58 4 rfl ?_
              refine g_iload C dX0_exchange_60 5 rfl ?_
              obtain ⟨r6, s6, h6, hF⟩ := bd_some hF
              refine g_callV C (kX0_isBelowSize l D h0 E _ _ _ _ _ _ h6) gV_X0_isBelowSize rfl rfl hn_X0_isBelowSize rfl (Nat.le_of_ble_eq_true rfl) (Nat.le_of_ble_eq_true rfl) rfl (Nat.le_of_ble_eq_true rfl) dX0_exchange_62 ?_
              refine g_if_eq (tgt := 81) C dX0_exchange_65 rfl (fun hc hF => ?_) (fun hc hF => ?_) hF
              · refine g_bipush (v := (-3)) C dX0_exchange_81 rfl ?_
                exact x0_iret C rfl dX0_exchange_83 hF
              · refine g_iload_n C dX0_exchange_68 1 rfl ?_
                refine g_iload_n C dX0_exchange_69 2 rfl ?_
                refine g_iload_n C dX0_exchange_70 3 rfl ?_
                refine g_iload C dX0_exchange_71 4 rfl ?_
                refine g_iload C dX0_exchange_73 5 rfl ?_
                obtain ⟨r7, h7, hF⟩ := bs_some hF
                refine g_callS C (kX0_meet l D _ _ _ _ _ _ h7) gS_X0_meet hn_X0_meet rfl (Nat.le_of_ble_eq_true rfl) (Nat.le_of_ble_eq_true rfl) rfl (Nat.le_of_ble_eq_true rfl) dX0_exchange_75 ?_
                refine g_if_eq (tgt := 84) C dX0_exchange_78 rfl (fun hc hF => ?_) (fun hc hF => ?_) hF
                · refine g_aload_n C dX0_exchange_84 0 rfl ?_
                  refine g_iload_n C dX0_exchange_85 1 rfl ?_
                  refine g_iload_n C dX0_exchange_86 2 rfl ?_
                  refine g_iload_n C dX0_exchange_87 3 rfl ?_
                  refine g_iload C dX0_exchange_88 4 rfl ?_
                  refine g_iload C dX0_exchange_90 5 rfl ?_
                  obtain ⟨r8, s8, h8, hF⟩ := bd_some hF
                  refine g_callVv C (kX0_openLog l D h0 E _ _ _ _ _ _ _ _ h8) gV_X0_openLog rfl rfl hn_X0_openLog rfl (Nat.le_of_ble_eq_true rfl) (Nat.le_of_ble_eq_true rfl) rfl (Nat.le_of_ble_eq_true rfl) dX0_exchange_92 ?_
                  refine g_aload_n C dX0_exchange_95 0 rfl ?_
                  refine g_aload_n C dX0_exchange_96 0 rfl ?_
                  refine x0_get8 C dX0_exchange_97 ?_
                  refine g_bipush (v := nN) C dX0_exchange_100 rfl ?_
                  refine g_icmp_eq (tgt := 118) C dX0_exchange_102 rfl (fun hc hF => ?_) (fun hc hF => ?_) hF
                  · refine g_iconst (v := (nI 0)) C dX0_exchange_118 rfl ?_
                    refine x0_put9 C rfl rfl dX0_exchange_119 ?_
                    refine g_aload_n C dX0_exchange_122 0 rfl ?_
                    refine g_aload_n C dX0_exchange_123 0 rfl ?_
                    refine x0_get9 C dX0_exchange_124 ?_
                    refine g_if_eq (tgt := 137) C dX0_exchange_127 rfl (fun hc hF => ?_) (fun hc hF => ?_) hF
                    · refine g_iload C dX0_exchange_137 5 rfl ?_
                      refine x0_put15 C dX0_exchange_139 ?_
                      refine g_aload_n C dX0_exchange_142 0 rfl ?_
                      refine g_iconst (v := (nI 0)) C dX0_exchange_143 rfl ?_
                      refine g_aload_n C dX0_exchange_144 0 rfl ?_
                      refine x0_get15 C dX0_exchange_145 ?_
                      obtain ⟨r9, s9, h9, hF⟩ := bd_some hF
                      refine g_callVv C (kX0_doSteps l D h0 E _ _ _ _ _ h9) gV_X0_doSteps rfl rfl hn_X0_doSteps rfl (Nat.le_of_ble_eq_true rfl) (Nat.le_of_ble_eq_true rfl) rfl (Nat.le_of_ble_eq_true rfl) dX0_exchange_148 ?_
                      refine g_aload_n C dX0_exchange_151 0 rfl ?_
                      refine g_bipush (v := nN) C dX0_exchange_152 rfl ?_
                      refine x0_put8 C dX0_exchange_154 ?_
                      refine g_aload_n C dX0_exchange_157 0 rfl ?_
                      refine x0_get15 C dX0_exchange_158 ?_
                      exact x0_iret C rfl dX0_exchange_161 hF
                    · refine g_aload_n C dX0_exchange_130 0 rfl ?_
                      refine x0_get8 C dX0_exchange_131 ?_
                      refine g_goto (tgt := 139) C dX0_exchange_134 rfl ?_
                      refine x0_put15 C dX0_exchange_139 ?_
                      refine g_aload_n C dX0_exchange_142 0 rfl ?_
                      refine g_iconst (v := (nI 0)) C dX0_exchange_143 rfl ?_
                      refine g_aload_n C dX0_exchange_144 0 rfl ?_
                      refine x0_get15 C dX0_exchange_145 ?_
                      obtain ⟨r10, s10, h10, hF⟩ := bd_some hF
                      refine g_callVv C (kX0_doSteps l D h0 E _ _ _ _ _ h10) gV_X0_doSteps rfl rfl hn_X0_doSteps rfl (Nat.le_of_ble_eq_true rfl) (Nat.le_of_ble_eq_true rfl) rfl (Nat.le_of_ble_eq_true rfl) dX0_exchange_148 ?_
                      refine g_aload_n C dX0_exchange_151 0 rfl ?_
                      refine g_bipush (v := nN) C dX0_exchange_152 rfl ?_
                      refine x0_put8 C dX0_exchange_154 ?_
                      refine g_aload_n C dX0_exchange_157 0 rfl ?_
                      refine x0_get15 C dX0_exchange_158 ?_
                      exact x0_iret C rfl dX0_exchange_161 hF
                  · refine g_aload_n C dX0_exchange_105 0 rfl ?_
                    refine x0_get8 C dX0_exchange_106 ?_
                    refine g_iload C dX0_exchange_109 5 rfl ?_
                    refine g_icmp_ge (tgt := 118) C dX0_exchange_111 rfl (fun hc hF => ?_) (fun hc hF => ?_) hF
                    · refine g_iconst (v := (nI 0)) C dX0_exchange_118 rfl ?_
                      refine x0_put9 C rfl rfl dX0_exchange_119 ?_
                      refine g_aload_n C dX0_exchange_122 0 rfl ?_
                      refine g_aload_n C dX0_exchange_123 0 rfl ?_
                      refine x0_get9 C dX0_exchange_124 ?_
                      refine g_if_eq (tgt := 137) C dX0_exchange_127 rfl (fun hc hF => ?_) (fun hc hF => ?_) hF
                      · refine g_iload C dX0_exchange_137 5 rfl ?_
                        refine x0_put15 C dX0_exchange_139 ?_
                        refine g_aload_n C dX0_exchange_142 0 rfl ?_
                        refine g_iconst (v := (nI 0)) C dX0_exchange_143 rfl ?_
                        refine g_aload_n C dX0_exchange_144 0 rfl ?_
                        refine x0_get15 C dX0_exchange_145 ?_
                        obtain ⟨r11, s11, h11, hF⟩ := bd_some hF
                        refine g_callVv C (kX0_doSteps l D h0 E _ _ _ _ _ h11) gV_X0_doSteps rfl rfl hn_X0_doSteps rfl (Nat.le_of_ble_eq_true rfl) (Nat.le_of_ble_eq_true rfl) rfl (Nat.le_of_ble_eq_true rfl) dX0_exchange_148 ?_
                        refine g_aload_n C dX0_exchange_151 0 rfl ?_
                        refine g_bipush (v := nN) C dX0_exchange_152 rfl ?_
                        refine x0_put8 C dX0_exchange_154 ?_
                        refine g_aload_n C dX0_exchange_157 0 rfl ?_
                        refine x0_get15 C dX0_exchange_158 ?_
                        exact x0_iret C rfl dX0_exchange_161 hF
                      · refine g_aload_n C dX0_exchange_130 0 rfl ?_
                        refine x0_get8 C dX0_exchange_131 ?_
                        refine g_goto (tgt := 139) C dX0_exchange_134 rfl ?_
                        refine x0_put15 C dX0_exchange_139 ?_
                        refine g_aload_n C dX0_exchange_142 0 rfl ?_
                        refine g_iconst (v := (nI 0)) C dX0_exchange_143 rfl ?_
                        refine g_aload_n C dX0_exchange_144 0 rfl ?_
                        refine x0_get15 C dX0_exchange_145 ?_
                        obtain ⟨r12, s12, h12, hF⟩ := bd_some hF
                        refine g_callVv C (kX0_doSteps l D h0 E _ _ _ _ _ h12) gV_X0_doSteps rfl rfl hn_X0_doSteps rfl (Nat.le_of_ble_eq_true rfl) (Nat.le_of_ble_eq_true rfl) rfl (Nat.le_of_ble_eq_true rfl) dX0_exchange_148 ?_
                        refine g_aload_n C dX0_exchange_151 0 rfl ?_
                        refine g_bipush (v := nN) C dX0_exchange_152 rfl ?_
                        refine x0_put8 C dX0_exchange_154 ?_
                        refine g_aload_n C dX0_exchange_157 0 rfl ?_
                        refine x0_get15 C dX0_exchange_158 ?_
                        exact x0_iret C rfl dX0_exchange_161 hF
                    · refine g_iconst (v := (nI 1)) C dX0_exchange_114 rfl ?_
                      refine g_goto (tgt := 119) C dX0_exchange_115 rfl ?_
                      refine x0_put9 C rfl rfl dX0_exchange_119 ?_
                      refine g_aload_n C dX0_exchange_122 0 rfl ?_
                      refine g_aload_n C dX0_exchange_123 0 rfl ?_
                      refine x0_get9 C dX0_exchange_124 ?_
                      refine g_if_eq (tgt := 137) C dX0_exchange_127 rfl (fun hc hF => ?_) (fun hc hF => ?_) hF
                      · refine g_iload C dX0_exchange_137 5 rfl ?_
                        refine x0_put15 C dX0_exchange_139 ?_
                        refine g_aload_n C dX0_exchange_142 0 rfl ?_
                        refine g_iconst (v := (nI 0)) C dX0_exchange_143 rfl ?_
                        refine g_aload_n C dX0_exchange_144 0 rfl ?_
                        refine x0_get15 C dX0_exchange_145 ?_
                        obtain ⟨r13, s13, h13, hF⟩ := bd_some hF
                        refine g_callVv C (kX0_doSteps l D h0 E _ _ _ _ _ h13) gV_X0_doSteps rfl rfl hn_X0_doSteps rfl (Nat.le_of_ble_eq_true rfl) (Nat.le_of_ble_eq_true rfl) rfl (Nat.le_of_ble_eq_true rfl) dX0_exchange_148 ?_
                        refine g_aload_n C dX0_exchange_151 0 rfl ?_
                        refine g_bipush (v := nN) C dX0_exchange_152 rfl ?_
                        refine x0_put8 C dX0_exchange_154 ?_
                        refine g_aload_n C dX0_exchange_157 0 rfl ?_
                        refine x0_get15 C dX0_exchange_158 ?_
                        exact x0_iret C rfl dX0_exchange_161 hF
                      · refine g_aload_n C dX0_exchange_130 0 rfl ?_
                        refine x0_get8 C dX0_exchange_131 ?_
                        refine g_goto (tgt := 139) C dX0_exchange_134 rfl ?_
                        refine x0_put15 C dX0_exchange_139 ?_
                        refine g_aload_n C dX0_exchange_142 0 rfl ?_
                        refine g_iconst (v := (nI 0)) C dX0_exchange_143 rfl ?_
                        refine g_aload_n C dX0_exchange_144 0 rfl ?_
                        refine x0_get15 C dX0_exchange_145 ?_
                        obtain ⟨r14, s14, h14, hF⟩ := bd_some hF
                        refine g_callVv C (kX0_doSteps l D h0 E _ _ _ _ _ h14) gV_X0_doSteps rfl rfl hn_X0_doSteps rfl (Nat.le_of_ble_eq_true rfl) (Nat.le_of_ble_eq_true rfl) rfl (Nat.le_of_ble_eq_true rfl) dX0_exchange_148 ?_
                        refine g_aload_n C dX0_exchange_151 0 rfl ?_
                        refine g_bipush (v := nN) C dX0_exchange_152 rfl ?_
                        refine x0_put8 C dX0_exchange_154 ?_
                        refine g_aload_n C dX0_exchange_157 0 rfl ?_
                        refine x0_get15 C dX0_exchange_158 ?_
                        exact x0_iret C rfl dX0_exchange_161 hF
                · refine g_bipush (v := (-3)) C dX0_exchange_81 rfl ?_
                  exact x0_iret C rfl dX0_exchange_83 hF
        · refine g_bipush (v := (-2)) C dX0_exchange_35 rfl ?_
          exact x0_iret C rfl dX0_exchange_37 hF
    · refine g_iconst (v := (-1)) C dX0_exchange_14 rfl ?_
      exact x0_iret C rfl dX0_exchange_15 hF
set_option maxRecDepth 100000 in
set_option maxHeartbeats 4000000 in
theorem kX0_mount (l : Launch) (D : va_G) (h0 : Nat) (E : EX) (x1 : Int32) (σ : SX) (r : Int32) (σ2 : SX) (hF : fX0_mount x1 σ = some (r, σ2)) : MI l D (tysX0 E) yX0_mount cX0_mount 4 (some .int) 4 90 [.ref h0, .int x1] (wX0 h0 E σ) (wX0 h0 E σ2) r := by
  refine g_enterI (own := RX0) (lv := [(0, .ref h0), (1, .int x1)]) (by decide +kernel) rfl (Nat.le_of_ble_eq_true rfl) rfl ?_
  intro p e s m args below meth c A C
  rw [fX0_mount] at hF
  refine g_aload_n C dX0_mount_0 0 rfl ?_
  refine x0_get9 C dX0_mount_1 ?_
  refine g_if_ne (tgt := 10) C dX0_mount_4 rfl (fun hc hF => ?_) (fun hc hF => ?_) hF
  · refine g_iload_n C dX0_mount_10 1 rfl ?_
    refine g_if_eq (tgt := 21) C dX0_mount_11 rfl (fun hc hF => ?_) (fun hc hF => ?_) hF
    · refine g_iconst (v := (nI 0)) C dX0_mount_21 rfl ?_
      refine g_istore_n (lv2 := [(2, .int (nI 0)), (0, .ref h0), (1, .int x1)]) C dX0_mount_22 (Nat.le_of_ble_eq_true rfl) rfl ?_
      refine g_iload_n C dX0_mount_23 2 rfl ?_
      refine g_if_eq (tgt := 34) C dX0_mount_24 rfl (fun hc hF => ?_) (fun hc hF => ?_) hF
      · refine g_aload_n C dX0_mount_34 1 rfl ?_
        refine x0_get15 C dX0_mount_35 ?_
        refine g_istore_n (lv2 := [(3, .int (σ.2 15)), (2, .int (nI 0)), (0, .ref h0), (1, .int x1)]) C dX0_mount_38 (Nat.le_of_ble_eq_true rfl) rfl ?_
        refine g_aload_n C dX0_mount_39 2 rfl ?_
        refine g_iload_n C dX0_mount_40 1 rfl ?_
        refine g_iload_n C dX0_mount_41 0 rfl ?_
        obtain ⟨r1, s1, h1, hF⟩ := bd_some hF
        refine g_callVv C (kX0_doSteps l D h0 E _ _ _ _ _ h1) gV_X0_doSteps rfl rfl hn_X0_doSteps rfl (Nat.le_of_ble_eq_true rfl) (Nat.le_of_ble_eq_true rfl) rfl (Nat.le_of_ble_eq_true rfl) dX0_mount_42 ?_
        refine g_aload_n C dX0_mount_45 2 rfl ?_
        refine g_iconst (v := (nI 0)) C dX0_mount_46 rfl ?_
        refine x0_put9 C rfl rfl dX0_mount_47 ?_
        refine g_iload_n C dX0_mount_50 0 rfl ?_
        refine g_iload_n C dX0_mount_51 1 rfl ?_
        refine g_isub C dX0_mount_52 ?_
        exact x0_iret C rfl dX0_mount_53 hF
      · refine g_aload_n C dX0_mount_27 1 rfl ?_
        refine x0_get14 C dX0_mount_28 ?_
        refine g_goto (tgt := 38) C dX0_mount_31 rfl ?_
        refine g_istore_n (lv2 := [(3, .int (σ.2 14)), (2, .int (nI 0)), (0, .ref h0), (1, .int x1)]) C dX0_mount_38 (Nat.le_of_ble_eq_true rfl) rfl ?_
        refine g_aload_n C dX0_mount_39 2 rfl ?_
        refine g_iload_n C dX0_mount_40 1 rfl ?_
        refine g_iload_n C dX0_mount_41 0 rfl ?_
        obtain ⟨r2, s2, h2, hF⟩ := bd_some hF
        refine g_callVv C (kX0_doSteps l D h0 E _ _ _ _ _ h2) gV_X0_doSteps rfl rfl hn_X0_doSteps rfl (Nat.le_of_ble_eq_true rfl) (Nat.le_of_ble_eq_true rfl) rfl (Nat.le_of_ble_eq_true rfl) dX0_mount_42 ?_
        refine g_aload_n C dX0_mount_45 2 rfl ?_
        refine g_iconst (v := (nI 0)) C dX0_mount_46 rfl ?_
        refine x0_put9 C rfl rfl dX0_mount_47 ?_
        refine g_iload_n C dX0_mount_50 0 rfl ?_
        refine g_iload_n C dX0_mount_51 1 rfl ?_
        refine g_isub C dX0_mount_52 ?_
        exact x0_iret C rfl dX0_mount_53 hF
    · refine g_aload_n C dX0_mount_14 0 rfl ?_
      refine x0_get15 C dX0_mount_15 ?_
      refine g_goto (tgt := 22) C dX0_mount_18 rfl ?_
      refine g_istore_n (lv2 := [(2, .int (σ.2 15)), (0, .ref h0), (1, .int x1)]) C dX0_mount_22 (Nat.le_of_ble_eq_true rfl) rfl ?_
      refine g_iload_n C dX0_mount_23 2 rfl ?_
      refine g_if_eq (tgt := 34) C dX0_mount_24 rfl (fun hc hF => ?_) (fun hc hF => ?_) hF
      · refine g_aload_n C dX0_mount_34 1 rfl ?_
        refine x0_get15 C dX0_mount_35 ?_
        refine g_istore_n (lv2 := [(3, .int (σ.2 15)), (2, .int (σ.2 15)), (0, .ref h0), (1, .int x1)]) C dX0_mount_38 (Nat.le_of_ble_eq_true rfl) rfl ?_
        refine g_aload_n C dX0_mount_39 2 rfl ?_
        refine g_iload_n C dX0_mount_40 1 rfl ?_
        refine g_iload_n C dX0_mount_41 0 rfl ?_
        obtain ⟨r3, s3, h3, hF⟩ := bd_some hF
        refine g_callVv C (kX0_doSteps l D h0 E _ _ _ _ _ h3) gV_X0_doSteps rfl rfl hn_X0_doSteps rfl (Nat.le_of_ble_eq_true rfl) (Nat.le_of_ble_eq_true rfl) rfl (Nat.le_of_ble_eq_true rfl) dX0_mount_42 ?_
        refine g_aload_n C dX0_mount_45 2 rfl ?_
        refine g_iconst (v := (nI 0)) C dX0_mount_46 rfl ?_
        refine x0_put9 C rfl rfl dX0_mount_47 ?_
        refine g_iload_n C dX0_mount_50 0 rfl ?_
        refine g_iload_n C dX0_mount_51 1 rfl ?_
        refine g_isub C dX0_mount_52 ?_
        exact x0_iret C rfl dX0_mount_53 hF
      · refine g_aload_n C dX0_mount_27 1 rfl ?_
        refine x0_get14 C dX0_mount_28 ?_
        refine g_goto (tgt := 38) C dX0_mount_31 rfl ?_
        refine g_istore_n (lv2 := [(3, .int (σ.2 14)), (2, .int (σ.2 15)), (0, .ref h0), (1, .int x1)]) C dX0_mount_38 (Nat.le_of_ble_eq_true rfl) rfl ?_
        refine g_aload_n C dX0_mount_39 2 rfl ?_
        refine g_iload_n C dX0_mount_40 1 rfl ?_
        refine g_iload_n C dX0_mount_41 0 rfl ?_
        obtain ⟨r4, s4, h4, hF⟩ := bd_some hF
        refine g_callVv C (kX0_doSteps l D h0 E _ _ _ _ _ h4) gV_X0_doSteps rfl rfl hn_X0_doSteps rfl (Nat.le_of_ble_eq_true rfl) (Nat.le_of_ble_eq_true rfl) rfl (Nat.le_of_ble_eq_true rfl) dX0_mount_42 ?_
        refine g_aload_n C dX0_mount_45 2 rfl ?_
        refine g_iconst (v := (nI 0)) C dX0_mount_46 rfl ?_
        refine x0_put9 C rfl rfl dX0_mount_47 ?_
        refine g_iload_n C dX0_mount_50 0 rfl ?_
        refine g_iload_n C dX0_mount_51 1 rfl ?_
        refine g_isub C dX0_mount_52 ?_
        exact x0_iret C rfl dX0_mount_53 hF
  · refine g_bipush (v := (-3)) C dX0_mount_7 rfl ?_
    exact x0_iret C rfl dX0_mount_9 hF
set_option maxRecDepth 100000 in
set_option maxHeartbeats 4000000 in
theorem wX0_placesCountedFrom_L5 {p : Program} {l : Launch} {e : Env} {s : State} {m : MethodId} {args : Array Value} {below : List Frame} {meth : Method} {c : Code} {A : Nat → Prop} {D : va_G} {h0 : Nat} {E : EX} {σ2 : SX} {r : Int32} (C : GC p { frames := 2, cells := 0, slots := 0, locals := 42 } s m args meth c A D cX0_placesCountedFrom 5 0 0 (tysX0 E) RX0 (some .int)) : ∀ (n : Nat) (x1 : Int32) (x2 : Int32) (x3 : Int32) (x4 : Int32) (σ : SX), fX0_placesCountedFrom_L5 n x1 x2 x3 x4 σ = some (r, σ2) → GW p l e { frames := 2, cells := 0, slots := 0, locals := 42 } s m args below meth c (QI D (wX0 h0 E σ2) r A below args s) A D 5 0 0 (wX0 h0 E σ) 5 [(0, .ref h0), (1, .int x1), (2, .int x2), (3, .int x3), (4, .int x4)] [] := by
  intro n
  induction n with
  | zero => intro x1 x2 x3 x4 σ hF; simp only [fX0_placesCountedFrom_L5] at hF; cases hF
  | succ n ih =>
    intro x1 x2 x3 x4 σ hF
    rw [fX0_placesCountedFrom_L5] at hF
    refine g_iload C dX0_placesCountedFrom_5 4 rfl ?_
    refine g_bipush (v := (nI 24)) C dX0_placesCountedFrom_7 rfl ?_
    refine g_icmp_ge (tgt := 36) C dX0_placesCountedFrom_9 rfl (fun hc hF => ?_) (fun hc hF => ?_) hF
    · refine g_iload_n C dX0_placesCountedFrom_36 3 rfl ?_
      exact x0_iret C rfl dX0_placesCountedFrom_37 hF
    · refine g_aload_n C dX0_placesCountedFrom_12 0 rfl ?_
      refine g_aload_n C dX0_placesCountedFrom_13 0 rfl ?_
      refine g_iload_n C dX0_placesCountedFrom_14 1 rfl ?_
      refine g_iload C dX0_placesCountedFrom_15 4 rfl ?_
      obtain ⟨r1, s1, h1, hF⟩ := bd_some hF
      refine g_callV C (kX0_blockAt l D h0 E _ _ _ _ _ h1) gV_X0_blockAt rfl rfl hn_X0_blockAt rfl (Nat.le_of_ble_eq_true rfl) (Nat.le_of_ble_eq_true rfl) rfl (Nat.le_of_ble_eq_true rfl) dX0_placesCountedFrom_17 ?_
      obtain ⟨r2, s2, h2, hF⟩ := bd_some hF
      refine g_callV C (kX0_countOf l D h0 E _ _ _ _ h2) gV_X0_countOf rfl rfl hn_X0_countOf rfl (Nat.le_of_ble_eq_true rfl) (Nat.le_of_ble_eq_true rfl) rfl (Nat.le_of_ble_eq_true rfl) dX0_placesCountedFrom_20 ?_
      refine g_iload_n C dX0_placesCountedFrom_23 2 rfl ?_
      refine g_icmp_lt (tgt := 30) C dX0_placesCountedFrom_24 rfl (fun hc hF => ?_) (fun hc hF => ?_) hF
      · refine g_iinc (v := (x4 + nI 1)) (lv2 := [(4, .int (x4 + nI 1)), (0, .ref h0), (1, .int x1), (2, .int x2), (3, .int x3)]) C dX0_placesCountedFrom_30 4 rfl rfl (Nat.le_of_ble_eq_true rfl) rfl ?_
        refine g_goto (tgt := 5) C dX0_placesCountedFrom_33 rfl ?_
        refine g_sub [1, 2, 3, 4, 0] (lv2 := [(0, .ref h0), (1, .int x1), (2, .int x2), (3, .int x3), (4, .int (x4 + nI 1))]) rfl ?_
        exact ih _ _ _ _ _ hF
      · refine g_iinc (v := (x3 + nI 1)) (lv2 := [(3, .int (x3 + nI 1)), (0, .ref h0), (1, .int x1), (2, .int x2), (4, .int x4)]) C dX0_placesCountedFrom_27 3 rfl rfl (Nat.le_of_ble_eq_true rfl) rfl ?_
        refine g_iinc (v := (x4 + nI 1)) (lv2 := [(4, .int (x4 + nI 1)), (3, .int (x3 + nI 1)), (0, .ref h0), (1, .int x1), (2, .int x2)]) C dX0_placesCountedFrom_30 4 rfl rfl (Nat.le_of_ble_eq_true rfl) rfl ?_
        refine g_goto (tgt := 5) C dX0_placesCountedFrom_33 rfl ?_
        refine g_sub [2, 3, 4, 1, 0] (lv2 := [(0, .ref h0), (1, .int x1), (2, .int x2), (3, .int (x3 + nI 1)), (4, .int (x4 + nI 1))]) rfl ?_
        exact ih _ _ _ _ _ hF
set_option maxRecDepth 100000 in
set_option maxHeartbeats 4000000 in
theorem kX0_placesCountedFrom (l : Launch) (D : va_G) (h0 : Nat) (E : EX) (x1 : Int32) (x2 : Int32) (σ : SX) (r : Int32) (σ2 : SX) (hF : fX0_placesCountedFrom x1 x2 σ = some (r, σ2)) : MI l D (tysX0 E) yX0_placesCountedFrom cX0_placesCountedFrom 5 (some .int) 2 42 [.ref h0, .int x1, .int x2] (wX0 h0 E σ) (wX0 h0 E σ2) r := by
  refine g_enterI (own := RX0) (lv := [(0, .ref h0), (1, .int x1), (2, .int x2)]) (by decide +kernel) rfl (Nat.le_of_ble_eq_true rfl) rfl ?_
  intro p e s m args below meth c A C
  rw [fX0_placesCountedFrom] at hF
  refine g_iconst (v := (nI 0)) C dX0_placesCountedFrom_0 rfl ?_
  refine g_istore_n (lv2 := [(3, .int (nI 0)), (0, .ref h0), (1, .int x1), (2, .int x2)]) C dX0_placesCountedFrom_1 (Nat.le_of_ble_eq_true rfl) rfl ?_
  refine g_iconst (v := (nI 0)) C dX0_placesCountedFrom_2 rfl ?_
  refine g_istore (lv2 := [(4, .int (nI 0)), (3, .int (nI 0)), (0, .ref h0), (1, .int x1), (2, .int x2)]) C dX0_placesCountedFrom_3 (Nat.le_of_ble_eq_true rfl) rfl ?_
  refine g_sub [2, 3, 4, 1, 0] (lv2 := [(0, .ref h0), (1, .int x1), (2, .int x2), (3, .int (nI 0)), (4, .int (nI 0))]) rfl ?_
  exact wX0_placesCountedFrom_L5 C FU _ _ _ _ _ hF
set_option maxRecDepth 100000 in
set_option maxHeartbeats 4000000 in
theorem kX0_goesOn (l : Launch) (D : va_G) (h0 : Nat) (E : EX) (x1 : Int32) (x2 : Int32) (σ : SX) (r : Int32) (σ2 : SX) (hF : fX0_goesOn x1 x2 σ = some (r, σ2)) : MI l D (tysX0 E) yX0_goesOn cX0_goesOn 3 (some .boolean) 2 42 [.ref h0, .int x1, .int x2] (wX0 h0 E σ) (wX0 h0 E σ2) r := by
  refine g_enterI (own := RX0) (lv := [(0, .ref h0), (1, .int x1), (2, .int x2)]) (by decide +kernel) rfl (Nat.le_of_ble_eq_true rfl) rfl ?_
  intro p e s m args below meth c A C
  rw [fX0_goesOn] at hF
  refine g_aload_n C dX0_goesOn_0 0 rfl ?_
  refine g_iload_n C dX0_goesOn_1 1 rfl ?_
  refine g_iload_n C dX0_goesOn_2 2 rfl ?_
  obtain ⟨r1, s1, h1, hF⟩ := bd_some hF
  refine g_callV C (kX0_blockAt l D h0 E _ _ _ _ _ h1) gV_X0_blockAt rfl rfl hn_X0_blockAt rfl (Nat.le_of_ble_eq_true rfl) (Nat.le_of_ble_eq_true rfl) rfl (Nat.le_of_ble_eq_true rfl) dX0_goesOn_3 ?_
  obtain ⟨r2, h2, hF⟩ := bs_some hF
  refine g_callS C (kX0_isBlock l D _ _ h2) gS_X0_isBlock hn_X0_isBlock rfl (Nat.le_of_ble_eq_true rfl) (Nat.le_of_ble_eq_true rfl) rfl (Nat.le_of_ble_eq_true rfl) dX0_goesOn_6 ?_
  refine g_if_eq (tgt := 35) C dX0_goesOn_9 rfl (fun hc hF => ?_) (fun hc hF => ?_) hF
  · refine g_iconst (v := (nI 0)) C dX0_goesOn_35 rfl ?_
    exact x0_zret C rfl rfl dX0_goesOn_36 hF
  · refine g_aload_n C dX0_goesOn_12 0 rfl ?_
    refine g_iload_n C dX0_goesOn_13 1 rfl ?_
    refine g_iload_n C dX0_goesOn_14 2 rfl ?_
    refine g_iconst (v := (nI 1)) C dX0_goesOn_15 rfl ?_
    refine g_iadd C dX0_goesOn_16 ?_
    obtain ⟨r3, s3, h3, hF⟩ := bd_some hF
    refine g_callV C (kX0_blockAt l D h0 E _ _ _ _ _ h3) gV_X0_blockAt rfl rfl hn_X0_blockAt rfl (Nat.le_of_ble_eq_true rfl) (Nat.le_of_ble_eq_true rfl) rfl (Nat.le_of_ble_eq_true rfl) dX0_goesOn_17 ?_
    refine g_aload_n C dX0_goesOn_20 0 rfl ?_
    refine g_iload_n C dX0_goesOn_21 1 rfl ?_
    refine g_iload_n C dX0_goesOn_22 2 rfl ?_
    obtain ⟨r4, s4, h4, hF⟩ := bd_some hF
    refine g_callV C (kX0_blockAt l D h0 E _ _ _ _ _ h4) gV_X0_blockAt rfl rfl hn_X0_blockAt rfl (Nat.le_of_ble_eq_true rfl) (Nat.le_of_ble_eq_true rfl) rfl (Nat.le_of_ble_eq_true rfl) dX0_goesOn_23 ?_
    refine g_iconst (v := (nI 1)) C dX0_goesOn_26 rfl ?_
    refine g_iadd C dX0_goesOn_27 ?_
    refine g_icmp_ne (tgt := 35) C dX0_goesOn_28 rfl (fun hc hF => ?_) (fun hc hF => ?_) hF
    · refine g_iconst (v := (nI 0)) C dX0_goesOn_35 rfl ?_
      exact x0_zret C rfl rfl dX0_goesOn_36 hF
    · refine g_iconst (v := (nI 1)) C dX0_goesOn_31 rfl ?_
      refine g_goto (tgt := 36) C dX0_goesOn_32 rfl ?_
      exact x0_zret C rfl rfl dX0_goesOn_36 hF
set_option maxRecDepth 100000 in
set_option maxHeartbeats 4000000 in
theorem kX0_startsPiece (l : Launch) (D : va_G) (h0 : Nat) (E : EX) (x1 : Int32) (x2 : Int32) (σ : SX) (r : Int32) (σ2 : SX) (hF : fX0_startsPiece x1 x2 σ = some (r, σ2)) : MI l D (tysX0 E) yX0_startsPiece cX0_startsPiece 3 (some .boolean) 3 64 [.ref h0, .int x1, .int x2] (wX0 h0 E σ) (wX0 h0 E σ2) r := by
  refine g_enterI (own := RX0) (lv := [(0, .ref h0), (1, .int x1), (2, .int x2)]) (by decide +kernel) rfl (Nat.le_of_ble_eq_true rfl) rfl ?_
  intro p e s m args below meth c A C
  rw [fX0_startsPiece] at hF
  refine g_aload_n C dX0_startsPiece_0 0 rfl ?_
  refine g_iload_n C dX0_startsPiece_1 1 rfl ?_
  refine g_iload_n C dX0_startsPiece_2 2 rfl ?_
  obtain ⟨r1, s1, h1, hF⟩ := bd_some hF
  refine g_callV C (kX0_blockAt l D h0 E _ _ _ _ _ h1) gV_X0_blockAt rfl rfl hn_X0_blockAt rfl (Nat.le_of_ble_eq_true rfl) (Nat.le_of_ble_eq_true rfl) rfl (Nat.le_of_ble_eq_true rfl) dX0_startsPiece_3 ?_
  obtain ⟨r2, h2, hF⟩ := bs_some hF
  refine g_callS C (kX0_isBlock l D _ _ h2) gS_X0_isBlock hn_X0_isBlock rfl (Nat.le_of_ble_eq_true rfl) (Nat.le_of_ble_eq_true rfl) rfl (Nat.le_of_ble_eq_true rfl) dX0_startsPiece_6 ?_
  refine g_if_eq (tgt := 27) C dX0_startsPiece_9 rfl (fun hc hF => ?_) (fun hc hF => ?_) hF
  · refine g_iconst (v := (nI 0)) C dX0_startsPiece_27 rfl ?_
    exact x0_zret C rfl rfl dX0_startsPiece_28 hF
  · refine g_aload_n C dX0_startsPiece_12 0 rfl ?_
    refine g_iload_n C dX0_startsPiece_13 1 rfl ?_
    refine g_iload_n C dX0_startsPiece_14 2 rfl ?_
    refine g_iconst (v := (nI 1)) C dX0_startsPiece_15 rfl ?_
    refine g_isub C dX0_startsPiece_16 ?_
    obtain ⟨r3, s3, h3, hF⟩ := bd_some hF
    refine g_callV C (kX0_goesOn l D h0 E _ _ _ _ _ h3) gV_X0_goesOn rfl rfl hn_X0_goesOn rfl (Nat.le_of_ble_eq_true rfl) (Nat.le_of_ble_eq_true rfl) rfl (Nat.le_of_ble_eq_true rfl) dX0_startsPiece_17 ?_
    refine g_if_ne (tgt := 27) C dX0_startsPiece_20 rfl (fun hc hF => ?_) (fun hc hF => ?_) hF
    · refine g_iconst (v := (nI 0)) C dX0_startsPiece_27 rfl ?_
      exact x0_zret C rfl rfl dX0_startsPiece_28 hF
    · refine g_iconst (v := (nI 1)) C dX0_startsPiece_23 rfl ?_
      refine g_goto (tgt := 28) C dX0_startsPiece_24 rfl ?_
      exact x0_zret C rfl rfl dX0_startsPiece_28 hF
set_option maxRecDepth 100000 in
set_option maxHeartbeats 4000000 in
theorem wX0_piecesOf_L4 {p : Program} {l : Launch} {e : Env} {s : State} {m : MethodId} {args : Array Value} {below : List Frame} {meth : Method} {c : Code} {A : Nat → Prop} {D : va_G} {h0 : Nat} {E : EX} {σ2 : SX} {r : Int32} (C : GC p { frames := 4, cells := 0, slots := 0, locals := 86 } s m args meth c A D cX0_piecesOf 4 0 0 (tysX0 E) RX0 (some .int)) : ∀ (n : Nat) (x1 : Int32) (x2 : Int32) (x3 : Int32) (σ : SX), fX0_piecesOf_L4 n x1 x2 x3 σ = some (r, σ2) → GW p l e { frames := 4, cells := 0, slots := 0, locals := 86 } s m args below meth c (QI D (wX0 h0 E σ2) r A below args s) A D 4 0 0 (wX0 h0 E σ) 4 [(0, .ref h0), (1, .int x1), (2, .int x2), (3, .int x3)] [] := by
  intro n
  induction n with
  | zero => intro x1 x2 x3 σ hF; simp only [fX0_piecesOf_L4] at hF; cases hF
  | succ n ih =>
    intro x1 x2 x3 σ hF
    rw [fX0_piecesOf_L4] at hF
    refine g_iload_n C dX0_piecesOf_4 3 rfl ?_
    refine g_bipush (v := (nI 24)) C dX0_piecesOf_5 rfl ?_
    refine g_icmp_ge (tgt := 28) C dX0_piecesOf_7 rfl (fun hc hF => ?_) (fun hc hF => ?_) hF
    · refine g_iload_n C dX0_piecesOf_28 2 rfl ?_
      exact x0_iret C rfl dX0_piecesOf_29 hF
    · refine g_aload_n C dX0_piecesOf_10 0 rfl ?_
      refine g_iload_n C dX0_piecesOf_11 1 rfl ?_
      refine g_iload_n C dX0_piecesOf_12 3 rfl ?_
      obtain ⟨r1, s1, h1, hF⟩ := bd_some hF
      refine g_callV C (kX0_startsPiece l D h0 E _ _ _ _ _ h1) gV_X0_startsPiece rfl rfl hn_X0_startsPiece rfl (Nat.le_of_ble_eq_true rfl) (Nat.le_of_ble_eq_true rfl) rfl (Nat.le_of_ble_eq_true rfl) dX0_piecesOf_13 ?_
      refine g_if_eq (tgt := 22) C dX0_piecesOf_16 rfl (fun hc hF => ?_) (fun hc hF => ?_) hF
      · refine g_iinc (v := (x3 + nI 1)) (lv2 := [(3, .int (x3 + nI 1)), (0, .ref h0), (1, .int x1), (2, .int x2)]) C dX0_piecesOf_22 3 rfl rfl (Nat.le_of_ble_eq_true rfl) rfl ?_
        refine g_goto (tgt := 4) C dX0_piecesOf_25 rfl ?_
        refine g_sub [1, 2, 3, 0] (lv2 := [(0, .ref h0), (1, .int x1), (2, .int x2), (3, .int (x3 + nI 1))]) rfl ?_
        exact ih _ _ _ _ hF
      · refine g_iinc (v := (x2 + nI 1)) (lv2 := [(2, .int (x2 + nI 1)), (0, .ref h0), (1, .int x1), (3, .int x3)]) C dX0_piecesOf_19 2 rfl rfl (Nat.le_of_ble_eq_true rfl) rfl ?_
        refine g_iinc (v := (x3 + nI 1)) (lv2 := [(3, .int (x3 + nI 1)), (2, .int (x2 + nI 1)), (0, .ref h0), (1, .int x1)]) C dX0_piecesOf_22 3 rfl rfl (Nat.le_of_ble_eq_true rfl) rfl ?_
        refine g_goto (tgt := 4) C dX0_piecesOf_25 rfl ?_
        refine g_sub [2, 3, 1, 0] (lv2 := [(0, .ref h0), (1, .int x1), (2, .int (x2 + nI 1)), (3, .int (x3 + nI 1))]) rfl ?_
        exact ih _ _ _ _ hF
set_option maxRecDepth 100000 in
set_option maxHeartbeats 4000000 in
theorem kX0_piecesOf (l : Launch) (D : va_G) (h0 : Nat) (E : EX) (x1 : Int32) (σ : SX) (r : Int32) (σ2 : SX) (hF : fX0_piecesOf x1 σ = some (r, σ2)) : MI l D (tysX0 E) yX0_piecesOf cX0_piecesOf 4 (some .int) 4 86 [.ref h0, .int x1] (wX0 h0 E σ) (wX0 h0 E σ2) r := by
  refine g_enterI (own := RX0) (lv := [(0, .ref h0), (1, .int x1)]) (by decide +kernel) rfl (Nat.le_of_ble_eq_true rfl) rfl ?_
  intro p e s m args below meth c A C
  rw [fX0_piecesOf] at hF
  refine g_iconst (v := (nI 0)) C dX0_piecesOf_0 rfl ?_
  refine g_istore_n (lv2 := [(2, .int (nI 0)), (0, .ref h0), (1, .int x1)]) C dX0_piecesOf_1 (Nat.le_of_ble_eq_true rfl) rfl ?_
  refine g_iconst (v := (nI 0)) C dX0_piecesOf_2 rfl ?_
  refine g_istore_n (lv2 := [(3, .int (nI 0)), (2, .int (nI 0)), (0, .ref h0), (1, .int x1)]) C dX0_piecesOf_3 (Nat.le_of_ble_eq_true rfl) rfl ?_
  refine g_sub [2, 3, 1, 0] (lv2 := [(0, .ref h0), (1, .int x1), (2, .int (nI 0)), (3, .int (nI 0))]) rfl ?_
  exact wX0_piecesOf_L4 C FU _ _ _ _ hF
set_option maxRecDepth 100000 in
set_option maxHeartbeats 4000000 in
theorem kX0_ofFile (l : Launch) (D : va_G) (h0 : Nat) (E : EX) (x1 : Int32) (x2 : Int32) (σ : SX) (r : Int32) (σ2 : SX) (hF : fX0_ofFile x1 x2 σ = some (r, σ2)) : MI l D (tysX0 E) yX0_ofFile cX0_ofFile 3 (some .int) 5 109 [.ref h0, .int x1, .int x2] (wX0 h0 E σ) (wX0 h0 E σ2) r := by
  refine g_enterI (own := RX0) (lv := [(0, .ref h0), (1, .int x1), (2, .int x2)]) (by decide +kernel) rfl (Nat.le_of_ble_eq_true rfl) rfl ?_
  intro p e s m args below meth c A C
  rw [fX0_ofFile] at hF
  refine g_iload_n C dX0_ofFile_0 1 rfl ?_
  obtain ⟨r1, h1, hF⟩ := bs_some hF
  refine g_callS C (kX0_isFile l D _ _ h1) gS_X0_isFile hn_X0_isFile rfl (Nat.le_of_ble_eq_true rfl) (Nat.le_of_ble_eq_true rfl) rfl (Nat.le_of_ble_eq_true rfl) dX0_ofFile_1 ?_
  refine g_if_ne (tgt := 9) C dX0_ofFile_4 rfl (fun hc hF => ?_) (fun hc hF => ?_) hF
  · refine g_iload_n C dX0_ofFile_9 2 rfl ?_
    refine g_case (x2 = nI 0) (fun hc0 hF => ?_) (fun hc0 hF => ?_) hF
    · refine g_tswI (tgt := 40) C dX0_ofFile_10 hc0 (by decide) (by decide) rfl rfl ?_
      refine g_aload_n C dX0_ofFile_40 0 rfl ?_
      refine g_iload_n C dX0_ofFile_41 1 rfl ?_
      obtain ⟨r2, s2, h2, hF⟩ := bd_some hF
      refine g_callV C (kX0_sizeOf l D h0 E _ _ _ _ h2) gV_X0_sizeOf rfl rfl hn_X0_sizeOf rfl (Nat.le_of_ble_eq_true rfl) (Nat.le_of_ble_eq_true rfl) rfl (Nat.le_of_ble_eq_true rfl) dX0_ofFile_42 ?_
      exact x0_iret C rfl dX0_ofFile_45 hF
    refine g_case (x2 = nI 1) (fun hc1 hF => ?_) (fun hc1 hF => ?_) hF
    · refine g_tswI (tgt := 46) C dX0_ofFile_10 hc1 (by decide) (by decide) rfl rfl ?_
      refine g_aload_n C dX0_ofFile_46 0 rfl ?_
      refine g_iload_n C dX0_ofFile_47 1 rfl ?_
      refine g_iconst (v := (nI 1)) C dX0_ofFile_48 rfl ?_
      obtain ⟨r3, s3, h3, hF⟩ := bd_some hF
      refine g_callV C (kX0_placesCountedFrom l D h0 E _ _ _ _ _ h3) gV_X0_placesCountedFrom rfl rfl hn_X0_placesCountedFrom rfl (Nat.le_of_ble_eq_true rfl) (Nat.le_of_ble_eq_true rfl) rfl (Nat.le_of_ble_eq_true rfl) dX0_ofFile_49 ?_
      exact x0_iret C rfl dX0_ofFile_52 hF
    refine g_case (x2 = nI 2) (fun hc2 hF => ?_) (fun hc2 hF => ?_) hF
    · refine g_tswI (tgt := 53) C dX0_ofFile_10 hc2 (by decide) (by decide) rfl rfl ?_
      refine g_aload_n C dX0_ofFile_53 0 rfl ?_
      refine g_iload_n C dX0_ofFile_54 1 rfl ?_
      refine g_iconst (v := (nI 2)) C dX0_ofFile_55 rfl ?_
      obtain ⟨r4, s4, h4, hF⟩ := bd_some hF
      refine g_callV C (kX0_placesCountedFrom l D h0 E _ _ _ _ _ h4) gV_X0_placesCountedFrom rfl rfl hn_X0_placesCountedFrom rfl (Nat.le_of_ble_eq_true rfl) (Nat.le_of_ble_eq_true rfl) rfl (Nat.le_of_ble_eq_true rfl) dX0_ofFile_56 ?_
      exact x0_iret C rfl dX0_ofFile_59 hF
    refine g_case (x2 = nI 3) (fun hc3 hF => ?_) (fun hc3 hF => ?_) hF
    · refine g_tswI (tgt := 60) C dX0_ofFile_10 hc3 (by decide) (by decide) rfl rfl ?_
      refine g_aload_n C dX0_ofFile_60 0 rfl ?_
      refine g_iload_n C dX0_ofFile_61 1 rfl ?_
      obtain ⟨r5, s5, h5, hF⟩ := bd_some hF
      refine g_callV C (kX0_piecesOf l D h0 E _ _ _ _ h5) gV_X0_piecesOf rfl rfl hn_X0_piecesOf rfl (Nat.le_of_ble_eq_true rfl) (Nat.le_of_ble_eq_true rfl) rfl (Nat.le_of_ble_eq_true rfl) dX0_ofFile_62 ?_
      exact x0_iret C rfl dX0_ofFile_65 hF
    refine g_tswO (tgt := 66) C dX0_ofFile_10 (sw_out (hi := 3) (by decide) (fun j hj => by rcases (show j = 0 ∨ j = 1 ∨ j = 2 ∨ j = 3 by omega) with rfl | rfl | rfl | rfl <;> assumption)) rfl ?_
    refine g_bipush (v := (-2)) C dX0_ofFile_66 rfl ?_
    exact x0_iret C rfl dX0_ofFile_68 hF
  · refine g_iconst (v := (-1)) C dX0_ofFile_7 rfl ?_
    exact x0_iret C rfl dX0_ofFile_8 hF
set_option maxRecDepth 100000 in
set_option maxHeartbeats 4000000 in
theorem kX0_block (l : Launch) (D : va_G) (h0 : Nat) (E : EX) (x1 : Int32) (x2 : Int32) (σ : SX) (r : Int32) (σ2 : SX) (hF : fX0_block x1 x2 σ = some (r, σ2)) : MI l D (tysX0 E) yX0_block cX0_block 3 (some .int) 2 42 [.ref h0, .int x1, .int x2] (wX0 h0 E σ) (wX0 h0 E σ2) r := by
  refine g_enterI (own := RX0) (lv := [(0, .ref h0), (1, .int x1), (2, .int x2)]) (by decide +kernel) rfl (Nat.le_of_ble_eq_true rfl) rfl ?_
  intro p e s m args below meth c A C
  rw [fX0_block] at hF
  refine g_iload_n C dX0_block_0 1 rfl ?_
  obtain ⟨r1, h1, hF⟩ := bs_some hF
  refine g_callS C (kX0_isFile l D _ _ h1) gS_X0_isFile hn_X0_isFile rfl (Nat.le_of_ble_eq_true rfl) (Nat.le_of_ble_eq_true rfl) rfl (Nat.le_of_ble_eq_true rfl) dX0_block_1 ?_
  refine g_if_ne (tgt := 9) C dX0_block_4 rfl (fun hc hF => ?_) (fun hc hF => ?_) hF
  · refine g_iload_n C dX0_block_9 2 rfl ?_
    obtain ⟨r2, h2, hF⟩ := bs_some hF
    refine g_callS C (kX0_isPlace l D _ _ h2) gS_X0_isPlace hn_X0_isPlace rfl (Nat.le_of_ble_eq_true rfl) (Nat.le_of_ble_eq_true rfl) rfl (Nat.le_of_ble_eq_true rfl) dX0_block_10 ?_
    refine g_if_ne (tgt := 19) C dX0_block_13 rfl (fun hc hF => ?_) (fun hc hF => ?_) hF
    · refine g_aload_n C dX0_block_19 0 rfl ?_
      refine g_iload_n C dX0_block_20 1 rfl ?_
      refine g_iload_n C dX0_block_21 2 rfl ?_
      obtain ⟨r3, s3, h3, hF⟩ := bd_some hF
      refine g_callV C (kX0_blockAt l D h0 E _ _ _ _ _ h3) gV_X0_blockAt rfl rfl hn_X0_blockAt rfl (Nat.le_of_ble_eq_true rfl) (Nat.le_of_ble_eq_true rfl) rfl (Nat.le_of_ble_eq_true rfl) dX0_block_22 ?_
      exact x0_iret C rfl dX0_block_25 hF
    · refine g_bipush (v := (-2)) C dX0_block_16 rfl ?_
      exact x0_iret C rfl dX0_block_18 hF
  · refine g_iconst (v := (-1)) C dX0_block_7 rfl ?_
    exact x0_iret C rfl dX0_block_8 hF
set_option maxRecDepth 100000 in
set_option maxHeartbeats 4000000 in
theorem wX0_pieceStart_L5 {p : Program} {l : Launch} {e : Env} {s : State} {m : MethodId} {args : Array Value} {below : List Frame} {meth : Method} {c : Code} {A : Nat → Prop} {D : va_G} {h0 : Nat} {E : EX} {σ2 : SX} {r : Int32} (C : GC p { frames := 4, cells := 0, slots := 0, locals := 86 } s m args meth c A D cX0_pieceStart 5 0 0 (tysX0 E) RX0 (some .int)) : ∀ (n : Nat) (x1 : Int32) (x2 : Int32) (x3 : Int32) (x4 : Int32) (σ : SX), fX0_pieceStart_L5 n x1 x2 x3 x4 σ = some (r, σ2) → GW p l e { frames := 4, cells := 0, slots := 0, locals := 86 } s m args below meth c (QI D (wX0 h0 E σ2) r A below args s) A D 5 0 0 (wX0 h0 E σ) 5 [(0, .ref h0), (1, .int x1), (2, .int x2), (3, .int x3), (4, .int x4)] [] := by
  intro n
  induction n with
  | zero => intro x1 x2 x3 x4 σ hF; simp only [fX0_pieceStart_L5] at hF; cases hF
  | succ n ih =>
    intro x1 x2 x3 x4 σ hF
    rw [fX0_pieceStart_L5] at hF
    refine g_iload C dX0_pieceStart_5 4 rfl ?_
    refine g_bipush (v := (nI 24)) C dX0_pieceStart_7 rfl ?_
    refine g_icmp_ge (tgt := 39) C dX0_pieceStart_9 rfl (fun hc hF => ?_) (fun hc hF => ?_) hF
    · refine g_bipush (v := nN) C dX0_pieceStart_39 rfl ?_
      exact x0_iret C rfl dX0_pieceStart_41 hF
    · refine g_aload_n C dX0_pieceStart_12 0 rfl ?_
      refine g_iload_n C dX0_pieceStart_13 1 rfl ?_
      refine g_iload C dX0_pieceStart_14 4 rfl ?_
      obtain ⟨r1, s1, h1, hF⟩ := bd_some hF
      refine g_callV C (kX0_startsPiece l D h0 E _ _ _ _ _ h1) gV_X0_startsPiece rfl rfl hn_X0_startsPiece rfl (Nat.le_of_ble_eq_true rfl) (Nat.le_of_ble_eq_true rfl) rfl (Nat.le_of_ble_eq_true rfl) dX0_pieceStart_16 ?_
      refine g_if_eq (tgt := 33) C dX0_pieceStart_19 rfl (fun hc hF => ?_) (fun hc hF => ?_) hF
      · refine g_iinc (v := (x4 + nI 1)) (lv2 := [(4, .int (x4 + nI 1)), (0, .ref h0), (1, .int x1), (2, .int x2), (3, .int x3)]) C dX0_pieceStart_33 4 rfl rfl (Nat.le_of_ble_eq_true rfl) rfl ?_
        refine g_goto (tgt := 5) C dX0_pieceStart_36 rfl ?_
        refine g_sub [1, 2, 3, 4, 0] (lv2 := [(0, .ref h0), (1, .int x1), (2, .int x2), (3, .int x3), (4, .int (x4 + nI 1))]) rfl ?_
        exact ih _ _ _ _ _ hF
      · refine g_iload_n C dX0_pieceStart_22 3 rfl ?_
        refine g_iload_n C dX0_pieceStart_23 2 rfl ?_
        refine g_icmp_ne (tgt := 30) C dX0_pieceStart_24 rfl (fun hc hF => ?_) (fun hc hF => ?_) hF
        · refine g_iinc (v := (x3 + nI 1)) (lv2 := [(3, .int (x3 + nI 1)), (0, .ref h0), (1, .int x1), (2, .int x2), (4, .int x4)]) C dX0_pieceStart_30 3 rfl rfl (Nat.le_of_ble_eq_true rfl) rfl ?_
          refine g_iinc (v := (x4 + nI 1)) (lv2 := [(4, .int (x4 + nI 1)), (3, .int (x3 + nI 1)), (0, .ref h0), (1, .int x1), (2, .int x2)]) C dX0_pieceStart_33 4 rfl rfl (Nat.le_of_ble_eq_true rfl) rfl ?_
          refine g_goto (tgt := 5) C dX0_pieceStart_36 rfl ?_
          refine g_sub [2, 3, 4, 1, 0] (lv2 := [(0, .ref h0), (1, .int x1), (2, .int x2), (3, .int (x3 + nI 1)), (4, .int (x4 + nI 1))]) rfl ?_
          exact ih _ _ _ _ _ hF
        · refine g_iload C dX0_pieceStart_27 4 rfl ?_
          exact x0_iret C rfl dX0_pieceStart_29 hF
set_option maxRecDepth 100000 in
set_option maxHeartbeats 4000000 in
theorem kX0_pieceStart (l : Launch) (D : va_G) (h0 : Nat) (E : EX) (x1 : Int32) (x2 : Int32) (σ : SX) (r : Int32) (σ2 : SX) (hF : fX0_pieceStart x1 x2 σ = some (r, σ2)) : MI l D (tysX0 E) yX0_pieceStart cX0_pieceStart 5 (some .int) 4 86 [.ref h0, .int x1, .int x2] (wX0 h0 E σ) (wX0 h0 E σ2) r := by
  refine g_enterI (own := RX0) (lv := [(0, .ref h0), (1, .int x1), (2, .int x2)]) (by decide +kernel) rfl (Nat.le_of_ble_eq_true rfl) rfl ?_
  intro p e s m args below meth c A C
  rw [fX0_pieceStart] at hF
  refine g_iconst (v := (nI 0)) C dX0_pieceStart_0 rfl ?_
  refine g_istore_n (lv2 := [(3, .int (nI 0)), (0, .ref h0), (1, .int x1), (2, .int x2)]) C dX0_pieceStart_1 (Nat.le_of_ble_eq_true rfl) rfl ?_
  refine g_iconst (v := (nI 0)) C dX0_pieceStart_2 rfl ?_
  refine g_istore (lv2 := [(4, .int (nI 0)), (3, .int (nI 0)), (0, .ref h0), (1, .int x1), (2, .int x2)]) C dX0_pieceStart_3 (Nat.le_of_ble_eq_true rfl) rfl ?_
  refine g_sub [2, 3, 4, 1, 0] (lv2 := [(0, .ref h0), (1, .int x1), (2, .int x2), (3, .int (nI 0)), (4, .int (nI 0))]) rfl ?_
  exact wX0_pieceStart_L5 C FU _ _ _ _ _ hF
set_option maxRecDepth 100000 in
set_option maxHeartbeats 4000000 in
theorem wX0_pieceLength_L5 {p : Program} {l : Launch} {e : Env} {s : State} {m : MethodId} {args : Array Value} {below : List Frame} {meth : Method} {c : Code} {A : Nat → Prop} {D : va_G} {h0 : Nat} {E : EX} {σ2 : SX} {r : Int32} (C : GC p { frames := 3, cells := 0, slots := 0, locals := 64 } s m args meth c A D cX0_pieceLength 5 0 0 (tysX0 E) RX0 (some .int)) : ∀ (n : Nat) (x1 : Int32) (x3 : Int32) (x4 : Int32) (σ : SX), fX0_pieceLength_L5 n x1 x3 x4 σ = some (r, σ2) → GW p l e { frames := 3, cells := 0, slots := 0, locals := 64 } s m args below meth c (QI D (wX0 h0 E σ2) r A below args s) A D 5 0 0 (wX0 h0 E σ) 5 [(0, .ref h0), (1, .int x1), (3, .int x3), (4, .int x4)] [] := by
  intro n
  induction n with
  | zero => intro x1 x3 x4 σ hF; simp only [fX0_pieceLength_L5] at hF; cases hF
  | succ n ih =>
    intro x1 x3 x4 σ hF
    rw [fX0_pieceLength_L5] at hF
    refine g_iload C dX0_pieceLength_5 3 rfl ?_
    refine g_bipush (v := (nI 24)) C dX0_pieceLength_7 rfl ?_
    refine g_icmp_ge (tgt := 31) C dX0_pieceLength_9 rfl (fun hc hF => ?_) (fun hc hF => ?_) hF
    · refine g_iload_n C dX0_pieceLength_31 2 rfl ?_
      exact x0_iret C rfl dX0_pieceLength_32 hF
    · refine g_aload_n C dX0_pieceLength_12 0 rfl ?_
      refine g_iload_n C dX0_pieceLength_13 1 rfl ?_
      refine g_iload C dX0_pieceLength_14 3 rfl ?_
      obtain ⟨r1, s1, h1, hF⟩ := bd_some hF
      refine g_callV C (kX0_goesOn l D h0 E _ _ _ _ _ h1) gV_X0_goesOn rfl rfl hn_X0_goesOn rfl (Nat.le_of_ble_eq_true rfl) (Nat.le_of_ble_eq_true rfl) rfl (Nat.le_of_ble_eq_true rfl) dX0_pieceLength_16 ?_
      refine g_if_eq (tgt := 31) C dX0_pieceLength_19 rfl (fun hc hF => ?_) (fun hc hF => ?_) hF
      · refine g_iload_n C dX0_pieceLength_31 2 rfl ?_
        exact x0_iret C rfl dX0_pieceLength_32 hF
      · refine g_iinc (v := (x3 + nI 1)) (lv2 := [(3, .int (x3 + nI 1)), (0, .ref h0), (1, .int x1), (4, .int x4)]) C dX0_pieceLength_22 2 rfl rfl (Nat.le_of_ble_eq_true rfl) rfl ?_
        refine g_iinc (v := (x4 + nI 1)) (lv2 := [(4, .int (x4 + nI 1)), (3, .int (x3 + nI 1)), (0, .ref h0), (1, .int x1)]) C dX0_pieceLength_25 3 rfl rfl (Nat.le_of_ble_eq_true rfl) rfl ?_
        refine g_goto (tgt := 5) C dX0_pieceLength_28 rfl ?_
        refine g_sub [2, 3, 1, 0] (lv2 := [(0, .ref h0), (1, .int x1), (3, .int (x3 + nI 1)), (4, .int (x4 + nI 1))]) rfl ?_
        exact ih _ _ _ _ hF
set_option maxRecDepth 100000 in
set_option maxHeartbeats 4000000 in
theorem kX0_pieceLength (l : Launch) (D : va_G) (h0 : Nat) (E : EX) (x1 : Int32) (x2 : Int32) (σ : SX) (r : Int32) (σ2 : SX) (hF : fX0_pieceLength x1 x2 σ = some (r, σ2)) : MI l D (tysX0 E) yX0_pieceLength cX0_pieceLength 5 (some .int) 3 64 [.ref h0, .int x1, .int x2] (wX0 h0 E σ) (wX0 h0 E σ2) r := by
  refine g_enterI (own := RX0) (lv := [(0, .ref h0), (1, .int x1), (2, .int x2)]) (by decide +kernel) rfl (Nat.le_of_ble_eq_true rfl) rfl ?_
  intro p e s m args below meth c A C
  rw [fX0_pieceLength] at hF
  refine g_iconst (v := (nI 1)) C dX0_pieceLength_0 rfl ?_
  refine g_istore_n (lv2 := [(3, .int (nI 1)), (0, .ref h0), (1, .int x1), (2, .int x2)]) C dX0_pieceLength_1 (Nat.le_of_ble_eq_true rfl) rfl ?_
  refine g_iload_n C dX0_pieceLength_2 3 rfl ?_
  refine g_istore (lv2 := [(4, .int x2), (3, .int (nI 1)), (0, .ref h0), (1, .int x1), (2, .int x2)]) C dX0_pieceLength_3 (Nat.le_of_ble_eq_true rfl) rfl ?_
  refine g_sub [2, 3, 1, 0] (lv2 := [(0, .ref h0), (1, .int x1), (3, .int (nI 1)), (4, .int x2)]) rfl ?_
  exact wX0_pieceLength_L5 C FU _ _ _ _ hF
set_option maxRecDepth 100000 in
set_option maxHeartbeats 4000000 in
theorem kX0_piece (l : Launch) (D : va_G) (h0 : Nat) (E : EX) (x1 : Int32) (x2 : Int32) (x3 : Int32) (σ : SX) (r : Int32) (σ2 : SX) (hF : fX0_piece x1 x2 x3 σ = some (r, σ2)) : MI l D (tysX0 E) yX0_piece cX0_piece 5 (some .int) 5 110 [.ref h0, .int x1, .int x2, .int x3] (wX0 h0 E σ) (wX0 h0 E σ2) r := by
  refine g_enterI (own := RX0) (lv := [(0, .ref h0), (1, .int x1), (2, .int x2), (3, .int x3)]) (by decide +kernel) rfl (Nat.le_of_ble_eq_true rfl) rfl ?_
  intro p e s m args below meth c A C
  rw [fX0_piece] at hF
  refine g_iload_n C dX0_piece_0 1 rfl ?_
  obtain ⟨r1, h1, hF⟩ := bs_some hF
  refine g_callS C (kX0_isFile l D _ _ h1) gS_X0_isFile hn_X0_isFile rfl (Nat.le_of_ble_eq_true rfl) (Nat.le_of_ble_eq_true rfl) rfl (Nat.le_of_ble_eq_true rfl) dX0_piece_1 ?_
  refine g_if_ne (tgt := 9) C dX0_piece_4 rfl (fun hc hF => ?_) (fun hc hF => ?_) hF
  · refine g_iload_n C dX0_piece_9 2 rfl ?_
    obtain ⟨r2, h2, hF⟩ := bs_some hF
    refine g_callS C (kX0_isPlace l D _ _ h2) gS_X0_isPlace hn_X0_isPlace rfl (Nat.le_of_ble_eq_true rfl) (Nat.le_of_ble_eq_true rfl) rfl (Nat.le_of_ble_eq_true rfl) dX0_piece_10 ?_
    refine g_if_eq (tgt := 25) C dX0_piece_13 rfl (fun hc hF => ?_) (fun hc hF => ?_) hF
    · refine g_bipush (v := (-2)) C dX0_piece_25 rfl ?_
      exact x0_iret C rfl dX0_piece_27 hF
    · refine g_iload_n C dX0_piece_16 3 rfl ?_
      refine g_if_lt (tgt := 25) C dX0_piece_17 rfl (fun hc hF => ?_) (fun hc hF => ?_) hF
      · refine g_bipush (v := (-2)) C dX0_piece_25 rfl ?_
        exact x0_iret C rfl dX0_piece_27 hF
      · refine g_iload_n C dX0_piece_20 3 rfl ?_
        refine g_iconst (v := (nI 2)) C dX0_piece_21 rfl ?_
        refine g_icmp_le (tgt := 28) C dX0_piece_22 rfl (fun hc hF => ?_) (fun hc hF => ?_) hF
        · refine g_aload_n C dX0_piece_28 0 rfl ?_
          refine g_iload_n C dX0_piece_29 1 rfl ?_
          refine g_iload_n C dX0_piece_30 2 rfl ?_
          obtain ⟨r3, s3, h3, hF⟩ := bd_some hF
          refine g_callV C (kX0_pieceStart l D h0 E _ _ _ _ _ h3) gV_X0_pieceStart rfl rfl hn_X0_pieceStart rfl (Nat.le_of_ble_eq_true rfl) (Nat.le_of_ble_eq_true rfl) rfl (Nat.le_of_ble_eq_true rfl) dX0_piece_31 ?_
          refine g_istore (lv2 := [(4, .int r3), (0, .ref h0), (1, .int x1), (2, .int x2), (3, .int x3)]) C dX0_piece_34 (Nat.le_of_ble_eq_true rfl) rfl ?_
          refine g_iload C dX0_piece_36 0 rfl ?_
          refine g_bipush (v := nN) C dX0_piece_38 rfl ?_
          refine g_icmp_ne (tgt := 46) C dX0_piece_40 rfl (fun hc hF => ?_) (fun hc hF => ?_) hF
          · refine g_iload_n C dX0_piece_46 4 rfl ?_
            refine g_case (x3 = nI 0) (fun hc0 hF => ?_) (fun hc0 hF => ?_) hF
            · refine g_lsw (tgt := 72) C dX0_piece_47 (by decide) (by rw [hc0] <;> rfl) rfl ?_
              refine g_iload C dX0_piece_72 0 rfl ?_
              exact x0_iret C rfl dX0_piece_74 hF
            refine g_case (x3 = nI 1) (fun hc1 hF => ?_) (fun hc1 hF => ?_) hF
            · refine g_lsw (tgt := 75) C dX0_piece_47 (by decide) (by rw [lv_osw hc0 (by decide), hc1] <;> rfl) rfl ?_
              refine g_aload_n C dX0_piece_75 1 rfl ?_
              refine g_iload_n C dX0_piece_76 2 rfl ?_
              refine g_iload C dX0_piece_77 0 rfl ?_
              obtain ⟨r4, s4, h4, hF⟩ := bd_some hF
              refine g_callV C (kX0_blockAt l D h0 E _ _ _ _ _ h4) gV_X0_blockAt rfl rfl hn_X0_blockAt rfl (Nat.le_of_ble_eq_true rfl) (Nat.le_of_ble_eq_true rfl) rfl (Nat.le_of_ble_eq_true rfl) dX0_piece_79 ?_
              exact x0_iret C rfl dX0_piece_82 hF
            refine g_lsw (tgt := 83) C dX0_piece_47 (by decide) (by rw [lv_osw hc0 (by decide), lv_osw hc1 (by decide)] <;> rfl) rfl ?_
            refine g_aload_n C dX0_piece_83 1 rfl ?_
            refine g_iload_n C dX0_piece_84 2 rfl ?_
            refine g_iload C dX0_piece_85 0 rfl ?_
            obtain ⟨r5, s5, h5, hF⟩ := bd_some hF
            refine g_callV C (kX0_pieceLength l D h0 E _ _ _ _ _ h5) gV_X0_pieceLength rfl rfl hn_X0_pieceLength rfl (Nat.le_of_ble_eq_true rfl) (Nat.le_of_ble_eq_true rfl) rfl (Nat.le_of_ble_eq_true rfl) dX0_piece_87 ?_
            exact x0_iret C rfl dX0_piece_90 hF
          · refine g_bipush (v := nN) C dX0_piece_43 rfl ?_
            exact x0_iret C rfl dX0_piece_45 hF
        · refine g_bipush (v := (-2)) C dX0_piece_25 rfl ?_
          exact x0_iret C rfl dX0_piece_27 hF
  · refine g_iconst (v := (-1)) C dX0_piece_7 rfl ?_
    exact x0_iret C rfl dX0_piece_8 hF
set_option maxRecDepth 100000 in
set_option maxHeartbeats 4000000 in
theorem wX0_seek_L25 {p : Program} {l : Launch} {e : Env} {s : State} {m : MethodId} {args : Array Value} {below : List Frame} {meth : Method} {c : Code} {A : Nat → Prop} {D : va_G} {h0 : Nat} {E : EX} {σ2 : SX} {r : Int32} (C : GC p { frames := 2, cells := 0, slots := 0, locals := 42 } s m args meth c A D cX0_seek 5 0 0 (tysX0 E) RX0 (some .int)) : ∀ (n : Nat) (x1 : Int32) (x2 : Int32) (x3 : Int32) (x4 : Int32) (σ : SX), fX0_seek_L25 n x1 x2 x3 x4 σ = some (r, σ2) → GW p l e { frames := 2, cells := 0, slots := 0, locals := 42 } s m args below meth c (QI D (wX0 h0 E σ2) r A below args s) A D 5 0 0 (wX0 h0 E σ) 25 [(0, .ref h0), (1, .int x1), (2, .int x2), (3, .int x3), (4, .int x4)] [] := by
  intro n
  induction n with
  | zero => intro x1 x2 x3 x4 σ hF; simp only [fX0_seek_L25] at hF; cases hF
  | succ n ih =>
    intro x1 x2 x3 x4 σ hF
    rw [fX0_seek_L25] at hF
    refine g_iload C dX0_seek_25 4 rfl ?_
    refine g_aload_n C dX0_seek_27 0 rfl ?_
    refine g_iload_n C dX0_seek_28 1 rfl ?_
    obtain ⟨r1, s1, h1, hF⟩ := bd_some hF
    refine g_callV C (kX0_sizeOf l D h0 E _ _ _ _ h1) gV_X0_sizeOf rfl rfl hn_X0_sizeOf rfl (Nat.le_of_ble_eq_true rfl) (Nat.le_of_ble_eq_true rfl) rfl (Nat.le_of_ble_eq_true rfl) dX0_seek_29 ?_
    refine g_icmp_ge (tgt := 60) C dX0_seek_32 rfl (fun hc hF => ?_) (fun hc hF => ?_) hF
    · refine g_iload_n C dX0_seek_60 3 rfl ?_
      refine g_if_eq (tgt := 69) C dX0_seek_61 rfl (fun hc hF => ?_) (fun hc hF => ?_) hF
      · refine g_aload_n C dX0_seek_69 0 rfl ?_
        refine g_iload_n C dX0_seek_70 1 rfl ?_
        obtain ⟨r2, s2, h2, hF⟩ := bd_some hF
        refine g_callV C (kX0_sizeOf l D h0 E _ _ _ _ h2) gV_X0_sizeOf rfl rfl hn_X0_sizeOf rfl (Nat.le_of_ble_eq_true rfl) (Nat.le_of_ble_eq_true rfl) rfl (Nat.le_of_ble_eq_true rfl) dX0_seek_71 ?_
        refine g_iload_n C dX0_seek_74 2 rfl ?_
        refine g_mx C mw_227 mw_228 mw_62 mw_229 (Nat.le_of_ble_eq_true rfl) (Nat.le_of_ble_eq_true rfl) dX0_seek_75 ?_
        exact x0_iret C rfl dX0_seek_78 hF
      · refine g_bipush (v := nN) C dX0_seek_64 rfl ?_
        refine g_goto (tgt := 78) C dX0_seek_66 rfl ?_
        exact x0_iret C rfl dX0_seek_78 hF
    · refine g_aload_n C dX0_seek_35 0 rfl ?_
      refine g_iload_n C dX0_seek_36 1 rfl ?_
      refine g_iload C dX0_seek_37 4 rfl ?_
      refine g_iconst (v := (nI 4)) C dX0_seek_39 rfl ?_
      refine g_idiv C dX0_seek_40 (by decide) ?_
      obtain ⟨r3, s3, h3, hF⟩ := bd_some hF
      refine g_callV C (kX0_blockAt l D h0 E _ _ _ _ _ h3) gV_X0_blockAt rfl rfl hn_X0_blockAt rfl (Nat.le_of_ble_eq_true rfl) (Nat.le_of_ble_eq_true rfl) rfl (Nat.le_of_ble_eq_true rfl) dX0_seek_41 ?_
      obtain ⟨r4, h4, hF⟩ := bs_some hF
      refine g_callS C (kX0_isBlock l D _ _ h4) gS_X0_isBlock hn_X0_isBlock rfl (Nat.le_of_ble_eq_true rfl) (Nat.le_of_ble_eq_true rfl) rfl (Nat.le_of_ble_eq_true rfl) dX0_seek_44 ?_
      refine g_iload_n C dX0_seek_47 3 rfl ?_
      refine g_icmp_ne (tgt := 54) C dX0_seek_48 rfl (fun hc hF => ?_) (fun hc hF => ?_) hF
      · refine g_iinc (v := (x4 + nI 1)) (lv2 := [(4, .int (x4 + nI 1)), (0, .ref h0), (1, .int x1), (2, .int x2), (3, .int x3)]) C dX0_seek_54 4 rfl rfl (Nat.le_of_ble_eq_true rfl) rfl ?_
        refine g_goto (tgt := 25) C dX0_seek_57 rfl ?_
        refine g_sub [1, 2, 3, 4, 0] (lv2 := [(0, .ref h0), (1, .int x1), (2, .int x2), (3, .int x3), (4, .int (x4 + nI 1))]) rfl ?_
        exact ih _ _ _ _ _ hF
      · refine g_iload C dX0_seek_51 4 rfl ?_
        exact x0_iret C rfl dX0_seek_53 hF
set_option maxRecDepth 100000 in
set_option maxHeartbeats 4000000 in
theorem kX0_seek (l : Launch) (D : va_G) (h0 : Nat) (E : EX) (x1 : Int32) (x2 : Int32) (x3 : Int32) (σ : SX) (r : Int32) (σ2 : SX) (hF : fX0_seek x1 x2 x3 σ = some (r, σ2)) : MI l D (tysX0 E) yX0_seek cX0_seek 5 (some .int) 2 42 [.ref h0, .int x1, .int x2, .int x3] (wX0 h0 E σ) (wX0 h0 E σ2) r := by
  refine g_enterI (own := RX0) (lv := [(0, .ref h0), (1, .int x1), (2, .int x2), (3, .int x3)]) (by decide +kernel) rfl (Nat.le_of_ble_eq_true rfl) rfl ?_
  intro p e s m args below meth c A C
  rw [fX0_seek] at hF
  refine g_iload_n C dX0_seek_0 1 rfl ?_
  obtain ⟨r1, h1, hF⟩ := bs_some hF
  refine g_callS C (kX0_isFile l D _ _ h1) gS_X0_isFile hn_X0_isFile rfl (Nat.le_of_ble_eq_true rfl) (Nat.le_of_ble_eq_true rfl) rfl (Nat.le_of_ble_eq_true rfl) dX0_seek_1 ?_
  refine g_if_ne (tgt := 9) C dX0_seek_4 rfl (fun hc hF => ?_) (fun hc hF => ?_) hF
  · refine g_iload_n C dX0_seek_9 2 rfl ?_
    refine g_if_lt (tgt := 19) C dX0_seek_10 rfl (fun hc hF => ?_) (fun hc hF => ?_) hF
    · refine g_bipush (v := (-2)) C dX0_seek_19 rfl ?_
      exact x0_iret C rfl dX0_seek_21 hF
    · refine g_iload_n C dX0_seek_13 2 rfl ?_
      refine g_bipush (v := (nI 96)) C dX0_seek_14 rfl ?_
      refine g_icmp_le (tgt := 22) C dX0_seek_16 rfl (fun hc hF => ?_) (fun hc hF => ?_) hF
      · refine g_iload_n C dX0_seek_22 2 rfl ?_
        refine g_istore (lv2 := [(4, .int x2), (0, .ref h0), (1, .int x1), (2, .int x2), (3, .int x3)]) C dX0_seek_23 (Nat.le_of_ble_eq_true rfl) rfl ?_
        refine g_sub [1, 2, 3, 4, 0] (lv2 := [(0, .ref h0), (1, .int x1), (2, .int x2), (3, .int x3), (4, .int x2)]) rfl ?_
        exact wX0_seek_L25 C FU _ _ _ _ _ hF
      · refine g_bipush (v := (-2)) C dX0_seek_19 rfl ?_
        exact x0_iret C rfl dX0_seek_21 hF
  · refine g_iconst (v := (-1)) C dX0_seek_7 rfl ?_
    exact x0_iret C rfl dX0_seek_8 hF
set_option maxRecDepth 100000 in
set_option maxHeartbeats 4000000 in
theorem kX0_count (l : Launch) (D : va_G) (h0 : Nat) (E : EX) (x1 : Int32) (σ : SX) (r : Int32) (σ2 : SX) (hF : fX0_count x1 σ = some (r, σ2)) : MI l D (tysX0 E) yX0_count cX0_count 2 (some .int) 2 41 [.ref h0, .int x1] (wX0 h0 E σ) (wX0 h0 E σ2) r := by
  refine g_enterI (own := RX0) (lv := [(0, .ref h0), (1, .int x1)]) (by decide +kernel) rfl (Nat.le_of_ble_eq_true rfl) rfl ?_
  intro p e s m args below meth c A C
  rw [fX0_count] at hF
  refine g_iload_n C dX0_count_0 1 rfl ?_
  obtain ⟨r1, h1, hF⟩ := bs_some hF
  refine g_callS C (kX0_isBlock l D _ _ h1) gS_X0_isBlock hn_X0_isBlock rfl (Nat.le_of_ble_eq_true rfl) (Nat.le_of_ble_eq_true rfl) rfl (Nat.le_of_ble_eq_true rfl) dX0_count_1 ?_
  refine g_if_eq (tgt := 15) C dX0_count_4 rfl (fun hc hF => ?_) (fun hc hF => ?_) hF
  · refine g_bipush (v := (-2)) C dX0_count_15 rfl ?_
    exact x0_iret C rfl dX0_count_17 hF
  · refine g_aload_n C dX0_count_7 0 rfl ?_
    refine g_iload_n C dX0_count_8 1 rfl ?_
    obtain ⟨r2, s2, h2, hF⟩ := bd_some hF
    refine g_callV C (kX0_countOf l D h0 E _ _ _ _ h2) gV_X0_countOf rfl rfl hn_X0_countOf rfl (Nat.le_of_ble_eq_true rfl) (Nat.le_of_ble_eq_true rfl) rfl (Nat.le_of_ble_eq_true rfl) dX0_count_9 ?_
    refine g_goto (tgt := 17) C dX0_count_12 rfl ?_
    exact x0_iret C rfl dX0_count_17 hF
set_option maxRecDepth 100000 in
set_option maxHeartbeats 4000000 in
theorem wX0_stretchStart_L5 {p : Program} {l : Launch} {e : Env} {s : State} {m : MethodId} {args : Array Value} {below : List Frame} {meth : Method} {c : Code} {A : Nat → Prop} {D : va_G} {h0 : Nat} {E : EX} {σ2 : SX} {r : Int32} (C : GC p { frames := 3, cells := 0, slots := 0, locals := 63 } s m args meth c A D cX0_stretchStart 5 0 0 (tysX0 E) RX0 (some .int)) : ∀ (n : Nat) (x1 : Int32) (x2 : Int32) (x3 : Int32) (x4 : Int32) (σ : SX), fX0_stretchStart_L5 n x1 x2 x3 x4 σ = some (r, σ2) → GW p l e { frames := 3, cells := 0, slots := 0, locals := 63 } s m args below meth c (QI D (wX0 h0 E σ2) r A below args s) A D 5 0 0 (wX0 h0 E σ) 5 [(0, .ref h0), (1, .int x1), (2, .int x2), (3, .int x3), (4, .int x4)] [] := by
  intro n
  induction n with
  | zero => intro x1 x2 x3 x4 σ hF; simp only [fX0_stretchStart_L5] at hF; cases hF
  | succ n ih =>
    intro x1 x2 x3 x4 σ hF
    rw [fX0_stretchStart_L5] at hF
    refine g_iload C dX0_stretchStart_5 4 rfl ?_
    refine g_bipush (v := (nI 48)) C dX0_stretchStart_7 rfl ?_
    refine g_icmp_ge (tgt := 39) C dX0_stretchStart_9 rfl (fun hc hF => ?_) (fun hc hF => ?_) hF
    · refine g_bipush (v := nN) C dX0_stretchStart_39 rfl ?_
      exact x0_iret C rfl dX0_stretchStart_41 hF
    · refine g_aload_n C dX0_stretchStart_12 0 rfl ?_
      refine g_iload C dX0_stretchStart_13 4 rfl ?_
      refine g_iload_n C dX0_stretchStart_15 2 rfl ?_
      obtain ⟨r1, s1, h1, hF⟩ := bd_some hF
      refine g_callV C (kX0_startsStretch l D h0 E _ _ _ _ _ h1) gV_X0_startsStretch rfl rfl hn_X0_startsStretch rfl (Nat.le_of_ble_eq_true rfl) (Nat.le_of_ble_eq_true rfl) rfl (Nat.le_of_ble_eq_true rfl) dX0_stretchStart_16 ?_
      refine g_if_eq (tgt := 33) C dX0_stretchStart_19 rfl (fun hc hF => ?_) (fun hc hF => ?_) hF
      · refine g_iinc (v := (x4 + nI 1)) (lv2 := [(4, .int (x4 + nI 1)), (0, .ref h0), (1, .int x1), (2, .int x2), (3, .int x3)]) C dX0_stretchStart_33 4 rfl rfl (Nat.le_of_ble_eq_true rfl) rfl ?_
        refine g_goto (tgt := 5) C dX0_stretchStart_36 rfl ?_
        refine g_sub [1, 2, 3, 4, 0] (lv2 := [(0, .ref h0), (1, .int x1), (2, .int x2), (3, .int x3), (4, .int (x4 + nI 1))]) rfl ?_
        exact ih _ _ _ _ _ hF
      · refine g_iload_n C dX0_stretchStart_22 3 rfl ?_
        refine g_iload_n C dX0_stretchStart_23 1 rfl ?_
        refine g_icmp_ne (tgt := 30) C dX0_stretchStart_24 rfl (fun hc hF => ?_) (fun hc hF => ?_) hF
        · refine g_iinc (v := (x3 + nI 1)) (lv2 := [(3, .int (x3 + nI 1)), (0, .ref h0), (1, .int x1), (2, .int x2), (4, .int x4)]) C dX0_stretchStart_30 3 rfl rfl (Nat.le_of_ble_eq_true rfl) rfl ?_
          refine g_iinc (v := (x4 + nI 1)) (lv2 := [(4, .int (x4 + nI 1)), (3, .int (x3 + nI 1)), (0, .ref h0), (1, .int x1), (2, .int x2)]) C dX0_stretchStart_33 4 rfl rfl (Nat.le_of_ble_eq_true rfl) rfl ?_
          refine g_goto (tgt := 5) C dX0_stretchStart_36 rfl ?_
          refine g_sub [2, 3, 4, 1, 0] (lv2 := [(0, .ref h0), (1, .int x1), (2, .int x2), (3, .int (x3 + nI 1)), (4, .int (x4 + nI 1))]) rfl ?_
          exact ih _ _ _ _ _ hF
        · refine g_iload C dX0_stretchStart_27 4 rfl ?_
          exact x0_iret C rfl dX0_stretchStart_29 hF
set_option maxRecDepth 100000 in
set_option maxHeartbeats 4000000 in
theorem kX0_stretchStart (l : Launch) (D : va_G) (h0 : Nat) (E : EX) (x1 : Int32) (x2 : Int32) (σ : SX) (r : Int32) (σ2 : SX) (hF : fX0_stretchStart x1 x2 σ = some (r, σ2)) : MI l D (tysX0 E) yX0_stretchStart cX0_stretchStart 5 (some .int) 3 63 [.ref h0, .int x1, .int x2] (wX0 h0 E σ) (wX0 h0 E σ2) r := by
  refine g_enterI (own := RX0) (lv := [(0, .ref h0), (1, .int x1), (2, .int x2)]) (by decide +kernel) rfl (Nat.le_of_ble_eq_true rfl) rfl ?_
  intro p e s m args below meth c A C
  rw [fX0_stretchStart] at hF
  refine g_iconst (v := (nI 0)) C dX0_stretchStart_0 rfl ?_
  refine g_istore_n (lv2 := [(3, .int (nI 0)), (0, .ref h0), (1, .int x1), (2, .int x2)]) C dX0_stretchStart_1 (Nat.le_of_ble_eq_true rfl) rfl ?_
  refine g_iconst (v := (nI 0)) C dX0_stretchStart_2 rfl ?_
  refine g_istore (lv2 := [(4, .int (nI 0)), (3, .int (nI 0)), (0, .ref h0), (1, .int x1), (2, .int x2)]) C dX0_stretchStart_3 (Nat.le_of_ble_eq_true rfl) rfl ?_
  refine g_sub [2, 3, 4, 1, 0] (lv2 := [(0, .ref h0), (1, .int x1), (2, .int x2), (3, .int (nI 0)), (4, .int (nI 0))]) rfl ?_
  exact wX0_stretchStart_L5 C FU _ _ _ _ _ hF
set_option maxRecDepth 100000 in
set_option maxHeartbeats 4000000 in
theorem kX0_range (l : Launch) (D : va_G) (h0 : Nat) (E : EX) (x1 : Int32) (x2 : Int32) (σ : SX) (r : Int32) (σ2 : SX) (hF : fX0_range x1 x2 σ = some (r, σ2)) : MI l D (tysX0 E) yX0_range cX0_range 4 (some .int) 4 87 [.ref h0, .int x1, .int x2] (wX0 h0 E σ) (wX0 h0 E σ2) r := by
  refine g_enterI (own := RX0) (lv := [(0, .ref h0), (1, .int x1), (2, .int x2)]) (by decide +kernel) rfl (Nat.le_of_ble_eq_true rfl) rfl ?_
  intro p e s m args below meth c A C
  rw [fX0_range] at hF
  refine g_iload_n C dX0_range_0 1 rfl ?_
  refine g_if_lt (tgt := 19) C dX0_range_1 rfl (fun hc hF => ?_) (fun hc hF => ?_) hF
  · refine g_bipush (v := (-2)) C dX0_range_19 rfl ?_
    exact x0_iret C rfl dX0_range_21 hF
  · refine g_iload_n C dX0_range_4 1 rfl ?_
    refine g_bipush (v := (nI 48)) C dX0_range_5 rfl ?_
    refine g_icmp_ge (tgt := 19) C dX0_range_7 rfl (fun hc hF => ?_) (fun hc hF => ?_) hF
    · refine g_bipush (v := (-2)) C dX0_range_19 rfl ?_
      exact x0_iret C rfl dX0_range_21 hF
    · refine g_iload_n C dX0_range_10 2 rfl ?_
      refine g_if_lt (tgt := 19) C dX0_range_11 rfl (fun hc hF => ?_) (fun hc hF => ?_) hF
      · refine g_bipush (v := (-2)) C dX0_range_19 rfl ?_
        exact x0_iret C rfl dX0_range_21 hF
      · refine g_iload_n C dX0_range_14 2 rfl ?_
        refine g_iconst (v := (nI 4)) C dX0_range_15 rfl ?_
        refine g_icmp_le (tgt := 22) C dX0_range_16 rfl (fun hc hF => ?_) (fun hc hF => ?_) hF
        · refine g_aload_n C dX0_range_22 0 rfl ?_
          refine g_iload_n C dX0_range_23 1 rfl ?_
          refine g_iload_n C dX0_range_24 2 rfl ?_
          refine g_iconst (v := (nI 2)) C dX0_range_25 rfl ?_
          refine g_icmp_ge (tgt := 33) C dX0_range_26 rfl (fun hc hF => ?_) (fun hc hF => ?_) hF
          · refine g_iconst (v := (nI 0)) C dX0_range_33 rfl ?_
            obtain ⟨r1, s1, h1, hF⟩ := bd_some hF
            refine g_callV C (kX0_stretchStart l D h0 E _ _ _ _ _ h1) gV_X0_stretchStart rfl rfl hn_X0_stretchStart rfl (Nat.le_of_ble_eq_true rfl) (Nat.le_of_ble_eq_true rfl) rfl (Nat.le_of_ble_eq_true rfl) dX0_range_34 ?_
            refine g_istore_n (lv2 := [(3, .int r1), (0, .ref h0), (1, .int x1), (2, .int x2)]) C dX0_range_37 (Nat.le_of_ble_eq_true rfl) rfl ?_
            refine g_iload_n C dX0_range_38 0 rfl ?_
            refine g_bipush (v := nN) C dX0_range_39 rfl ?_
            refine g_icmp_ne (tgt := 47) C dX0_range_41 rfl (fun hc hF => ?_) (fun hc hF => ?_) hF
            · refine g_iload_n C dX0_range_47 3 rfl ?_
              refine g_case (x2 = nI 0) (fun hc0 hF => ?_) (fun hc0 hF => ?_) hF
              · refine g_tswI (tgt := 80) C dX0_range_48 hc0 (by decide) (by decide) rfl rfl ?_
                refine g_iload_n C dX0_range_80 0 rfl ?_
                exact x0_iret C rfl dX0_range_81 hF
              refine g_case (x2 = nI 1) (fun hc1 hF => ?_) (fun hc1 hF => ?_) hF
              · refine g_tswI (tgt := 82) C dX0_range_48 hc1 (by decide) (by decide) rfl rfl ?_
                refine g_aload_n C dX0_range_82 1 rfl ?_
                refine g_iload_n C dX0_range_83 0 rfl ?_
                obtain ⟨r2, s2, h2, hF⟩ := bd_some hF
                refine g_callV C (kX0_stretchLength l D h0 E _ _ _ _ h2) gV_X0_stretchLength rfl rfl hn_X0_stretchLength rfl (Nat.le_of_ble_eq_true rfl) (Nat.le_of_ble_eq_true rfl) rfl (Nat.le_of_ble_eq_true rfl) dX0_range_84 ?_
                exact x0_iret C rfl dX0_range_87 hF
              refine g_case (x2 = nI 2) (fun hc2 hF => ?_) (fun hc2 hF => ?_) hF
              · refine g_tswI (tgt := 80) C dX0_range_48 hc2 (by decide) (by decide) rfl rfl ?_
                refine g_iload_n C dX0_range_80 0 rfl ?_
                exact x0_iret C rfl dX0_range_81 hF
              refine g_case (x2 = nI 3) (fun hc3 hF => ?_) (fun hc3 hF => ?_) hF
              · refine g_tswI (tgt := 82) C dX0_range_48 hc3 (by decide) (by decide) rfl rfl ?_
                refine g_aload_n C dX0_range_82 1 rfl ?_
                refine g_iload_n C dX0_range_83 0 rfl ?_
                obtain ⟨r3, s3, h3, hF⟩ := bd_some hF
                refine g_callV C (kX0_stretchLength l D h0 E _ _ _ _ h3) gV_X0_stretchLength rfl rfl hn_X0_stretchLength rfl (Nat.le_of_ble_eq_true rfl) (Nat.le_of_ble_eq_true rfl) rfl (Nat.le_of_ble_eq_true rfl) dX0_range_84 ?_
                exact x0_iret C rfl dX0_range_87 hF
              refine g_tswO (tgt := 88) C dX0_range_48 (sw_out (hi := 3) (by decide) (fun j hj => by rcases (show j = 0 ∨ j = 1 ∨ j = 2 ∨ j = 3 by omega) with rfl | rfl | rfl | rfl <;> assumption)) rfl ?_
              refine g_aload_n C dX0_range_88 1 rfl ?_
              refine g_iload_n C dX0_range_89 0 rfl ?_
              obtain ⟨r4, s4, h4, hF⟩ := bd_some hF
              refine g_callV C (kX0_countOf l D h0 E _ _ _ _ h4) gV_X0_countOf rfl rfl hn_X0_countOf rfl (Nat.le_of_ble_eq_true rfl) (Nat.le_of_ble_eq_true rfl) rfl (Nat.le_of_ble_eq_true rfl) dX0_range_90 ?_
              exact x0_iret C rfl dX0_range_93 hF
            · refine g_bipush (v := nN) C dX0_range_44 rfl ?_
              exact x0_iret C rfl dX0_range_46 hF
          · refine g_iconst (v := (nI 1)) C dX0_range_29 rfl ?_
            refine g_goto (tgt := 34) C dX0_range_30 rfl ?_
            obtain ⟨r5, s5, h5, hF⟩ := bd_some hF
            refine g_callV C (kX0_stretchStart l D h0 E _ _ _ _ _ h5) gV_X0_stretchStart rfl rfl hn_X0_stretchStart rfl (Nat.le_of_ble_eq_true rfl) (Nat.le_of_ble_eq_true rfl) rfl (Nat.le_of_ble_eq_true rfl) dX0_range_34 ?_
            refine g_istore_n (lv2 := [(3, .int r5), (0, .ref h0), (1, .int x1), (2, .int x2)]) C dX0_range_37 (Nat.le_of_ble_eq_true rfl) rfl ?_
            refine g_iload_n C dX0_range_38 0 rfl ?_
            refine g_bipush (v := nN) C dX0_range_39 rfl ?_
            refine g_icmp_ne (tgt := 47) C dX0_range_41 rfl (fun hc hF => ?_) (fun hc hF => ?_) hF
            · refine g_iload_n C dX0_range_47 3 rfl ?_
              refine g_case (x2 = nI 0) (fun hc0 hF => ?_) (fun hc0 hF => ?_) hF
              · refine g_tswI (tgt := 80) C dX0_range_48 hc0 (by decide) (by decide) rfl rfl ?_
                refine g_iload_n C dX0_range_80 0 rfl ?_
                exact x0_iret C rfl dX0_range_81 hF
              refine g_case (x2 = nI 1) (fun hc1 hF => ?_) (fun hc1 hF => ?_) hF
              · refine g_tswI (tgt := 82) C dX0_range_48 hc1 (by decide) (by decide) rfl rfl ?_
                refine g_aload_n C dX0_range_82 1 rfl ?_
                refine g_iload_n C dX0_range_83 0 rfl ?_
                obtain ⟨r6, s6, h6, hF⟩ := bd_some hF
                refine g_callV C (kX0_stretchLength l D h0 E _ _ _ _ h6) gV_X0_stretchLength rfl rfl hn_X0_stretchLength rfl (Nat.le_of_ble_eq_true rfl) (Nat.le_of_ble_eq_true rfl) rfl (Nat.le_of_ble_eq_true rfl) dX0_range_84 ?_
                exact x0_iret C rfl dX0_range_87 hF
              refine g_case (x2 = nI 2) (fun hc2 hF => ?_) (fun hc2 hF => ?_) hF
              · refine g_tswI (tgt := 80) C dX0_range_48 hc2 (by decide) (by decide) rfl rfl ?_
                refine g_iload_n C dX0_range_80 0 rfl ?_
                exact x0_iret C rfl dX0_range_81 hF
              refine g_case (x2 = nI 3) (fun hc3 hF => ?_) (fun hc3 hF => ?_) hF
              · refine g_tswI (tgt := 82) C dX0_range_48 hc3 (by decide) (by decide) rfl rfl ?_
                refine g_aload_n C dX0_range_82 1 rfl ?_
                refine g_iload_n C dX0_range_83 0 rfl ?_
                obtain ⟨r7, s7, h7, hF⟩ := bd_some hF
                refine g_callV C (kX0_stretchLength l D h0 E _ _ _ _ h7) gV_X0_stretchLength rfl rfl hn_X0_stretchLength rfl (Nat.le_of_ble_eq_true rfl) (Nat.le_of_ble_eq_true rfl) rfl (Nat.le_of_ble_eq_true rfl) dX0_range_84 ?_
                exact x0_iret C rfl dX0_range_87 hF
              refine g_tswO (tgt := 88) C dX0_range_48 (sw_out (hi := 3) (by decide) (fun j hj => by rcases (show j = 0 ∨ j = 1 ∨ j = 2 ∨ j = 3 by omega) with rfl | rfl | rfl | rfl <;> assumption)) rfl ?_
              refine g_aload_n C dX0_range_88 1 rfl ?_
              refine g_iload_n C dX0_range_89 0 rfl ?_
              obtain ⟨r8, s8, h8, hF⟩ := bd_some hF
              refine g_callV C (kX0_countOf l D h0 E _ _ _ _ h8) gV_X0_countOf rfl rfl hn_X0_countOf rfl (Nat.le_of_ble_eq_true rfl) (Nat.le_of_ble_eq_true rfl) rfl (Nat.le_of_ble_eq_true rfl) dX0_range_90 ?_
              exact x0_iret C rfl dX0_range_93 hF
            · refine g_bipush (v := nN) C dX0_range_44 rfl ?_
              exact x0_iret C rfl dX0_range_46 hF
        · refine g_bipush (v := (-2)) C dX0_range_19 rfl ?_
          exact x0_iret C rfl dX0_range_21 hF
set_option maxRecDepth 100000 in
set_option maxHeartbeats 4000000 in
theorem wX0_sharedMany_L4 {p : Program} {l : Launch} {e : Env} {s : State} {m : MethodId} {args : Array Value} {below : List Frame} {meth : Method} {c : Code} {A : Nat → Prop} {D : va_G} {h0 : Nat} {E : EX} {σ2 : SX} {r : Int32} (C : GC p { frames := 2, cells := 0, slots := 0, locals := 41 } s m args meth c A D cX0_sharedMany 3 0 0 (tysX0 E) RX0 (some .int)) : ∀ (n : Nat) (x1 : Int32) (x2 : Int32) (σ : SX), fX0_sharedMany_L4 n x1 x2 σ = some (r, σ2) → GW p l e { frames := 2, cells := 0, slots := 0, locals := 41 } s m args below meth c (QI D (wX0 h0 E σ2) r A below args s) A D 3 0 0 (wX0 h0 E σ) 4 [(0, .ref h0), (1, .int x1), (2, .int x2)] [] := by
  intro n
  induction n with
  | zero => intro x1 x2 σ hF; simp only [fX0_sharedMany_L4] at hF; cases hF
  | succ n ih =>
    intro x1 x2 σ hF
    rw [fX0_sharedMany_L4] at hF
    refine g_iload_n C dX0_sharedMany_4 2 rfl ?_
    refine g_bipush (v := (nI 48)) C dX0_sharedMany_5 rfl ?_
    refine g_icmp_ge (tgt := 28) C dX0_sharedMany_7 rfl (fun hc hF => ?_) (fun hc hF => ?_) hF
    · refine g_iload_n C dX0_sharedMany_28 1 rfl ?_
      exact x0_iret C rfl dX0_sharedMany_29 hF
    · refine g_aload_n C dX0_sharedMany_10 0 rfl ?_
      refine g_iload_n C dX0_sharedMany_11 2 rfl ?_
      obtain ⟨r1, s1, h1, hF⟩ := bd_some hF
      refine g_callV C (kX0_countOf l D h0 E _ _ _ _ h1) gV_X0_countOf rfl rfl hn_X0_countOf rfl (Nat.le_of_ble_eq_true rfl) (Nat.le_of_ble_eq_true rfl) rfl (Nat.le_of_ble_eq_true rfl) dX0_sharedMany_12 ?_
      refine g_iconst (v := (nI 1)) C dX0_sharedMany_15 rfl ?_
      refine g_icmp_le (tgt := 22) C dX0_sharedMany_16 rfl (fun hc hF => ?_) (fun hc hF => ?_) hF
      · refine g_iinc (v := (x2 + nI 1)) (lv2 := [(2, .int (x2 + nI 1)), (0, .ref h0), (1, .int x1)]) C dX0_sharedMany_22 2 rfl rfl (Nat.le_of_ble_eq_true rfl) rfl ?_
        refine g_goto (tgt := 4) C dX0_sharedMany_25 rfl ?_
        refine g_sub [1, 2, 0] (lv2 := [(0, .ref h0), (1, .int x1), (2, .int (x2 + nI 1))]) rfl ?_
        exact ih _ _ _ hF
      · refine g_iinc (v := (x1 + nI 1)) (lv2 := [(1, .int (x1 + nI 1)), (0, .ref h0), (2, .int x2)]) C dX0_sharedMany_19 1 rfl rfl (Nat.le_of_ble_eq_true rfl) rfl ?_
        refine g_iinc (v := (x2 + nI 1)) (lv2 := [(2, .int (x2 + nI 1)), (1, .int (x1 + nI 1)), (0, .ref h0)]) C dX0_sharedMany_22 2 rfl rfl (Nat.le_of_ble_eq_true rfl) rfl ?_
        refine g_goto (tgt := 4) C dX0_sharedMany_25 rfl ?_
        refine g_sub [2, 1, 0] (lv2 := [(0, .ref h0), (1, .int (x1 + nI 1)), (2, .int (x2 + nI 1))]) rfl ?_
        exact ih _ _ _ hF
set_option maxRecDepth 100000 in
set_option maxHeartbeats 4000000 in
theorem kX0_sharedMany (l : Launch) (D : va_G) (h0 : Nat) (E : EX) (σ : SX) (r : Int32) (σ2 : SX) (hF : fX0_sharedMany σ = some (r, σ2)) : MI l D (tysX0 E) yX0_sharedMany cX0_sharedMany 3 (some .int) 2 41 [.ref h0] (wX0 h0 E σ) (wX0 h0 E σ2) r := by
  refine g_enterI (own := RX0) (lv := [(0, .ref h0)]) (by decide +kernel) rfl (Nat.le_of_ble_eq_true rfl) rfl ?_
  intro p e s m args below meth c A C
  rw [fX0_sharedMany] at hF
  refine g_iconst (v := (nI 0)) C dX0_sharedMany_0 rfl ?_
  refine g_istore_n (lv2 := [(1, .int (nI 0)), (0, .ref h0)]) C dX0_sharedMany_1 (Nat.le_of_ble_eq_true rfl) rfl ?_
  refine g_iconst (v := (nI 0)) C dX0_sharedMany_2 rfl ?_
  refine g_istore_n (lv2 := [(2, .int (nI 0)), (1, .int (nI 0)), (0, .ref h0)]) C dX0_sharedMany_3 (Nat.le_of_ble_eq_true rfl) rfl ?_
  refine g_sub [2, 1, 0] (lv2 := [(0, .ref h0), (1, .int (nI 0)), (2, .int (nI 0))]) rfl ?_
  exact wX0_sharedMany_L4 C FU _ _ _ hF
set_option maxRecDepth 100000 in
set_option maxHeartbeats 4000000 in
theorem wX0_stretchesMany_L4 {p : Program} {l : Launch} {e : Env} {s : State} {m : MethodId} {args : Array Value} {below : List Frame} {meth : Method} {c : Code} {A : Nat → Prop} {D : va_G} {h0 : Nat} {E : EX} {σ2 : SX} {r : Int32} (C : GC p { frames := 3, cells := 0, slots := 0, locals := 63 } s m args meth c A D cX0_stretchesMany 4 0 0 (tysX0 E) RX0 (some .int)) : ∀ (n : Nat) (x1 : Int32) (x2 : Int32) (x3 : Int32) (σ : SX), fX0_stretchesMany_L4 n x1 x2 x3 σ = some (r, σ2) → GW p l e { frames := 3, cells := 0, slots := 0, locals := 63 } s m args below meth c (QI D (wX0 h0 E σ2) r A below args s) A D 4 0 0 (wX0 h0 E σ) 4 [(0, .ref h0), (1, .int x1), (2, .int x2), (3, .int x3)] [] := by
  intro n
  induction n with
  | zero => intro x1 x2 x3 σ hF; simp only [fX0_stretchesMany_L4] at hF; cases hF
  | succ n ih =>
    intro x1 x2 x3 σ hF
    rw [fX0_stretchesMany_L4] at hF
    refine g_iload_n C dX0_stretchesMany_4 3 rfl ?_
    refine g_bipush (v := (nI 48)) C dX0_stretchesMany_5 rfl ?_
    refine g_icmp_ge (tgt := 28) C dX0_stretchesMany_7 rfl (fun hc hF => ?_) (fun hc hF => ?_) hF
    · refine g_iload_n C dX0_stretchesMany_28 2 rfl ?_
      exact x0_iret C rfl dX0_stretchesMany_29 hF
    · refine g_aload_n C dX0_stretchesMany_10 0 rfl ?_
      refine g_iload_n C dX0_stretchesMany_11 3 rfl ?_
      refine g_iload_n C dX0_stretchesMany_12 1 rfl ?_
      obtain ⟨r1, s1, h1, hF⟩ := bd_some hF
      refine g_callV C (kX0_startsStretch l D h0 E _ _ _ _ _ h1) gV_X0_startsStretch rfl rfl hn_X0_startsStretch rfl (Nat.le_of_ble_eq_true rfl) (Nat.le_of_ble_eq_true rfl) rfl (Nat.le_of_ble_eq_true rfl) dX0_stretchesMany_13 ?_
      refine g_if_eq (tgt := 22) C dX0_stretchesMany_16 rfl (fun hc hF => ?_) (fun hc hF => ?_) hF
      · refine g_iinc (v := (x3 + nI 1)) (lv2 := [(3, .int (x3 + nI 1)), (0, .ref h0), (1, .int x1), (2, .int x2)]) C dX0_stretchesMany_22 3 rfl rfl (Nat.le_of_ble_eq_true rfl) rfl ?_
        refine g_goto (tgt := 4) C dX0_stretchesMany_25 rfl ?_
        refine g_sub [1, 2, 3, 0] (lv2 := [(0, .ref h0), (1, .int x1), (2, .int x2), (3, .int (x3 + nI 1))]) rfl ?_
        exact ih _ _ _ _ hF
      · refine g_iinc (v := (x2 + nI 1)) (lv2 := [(2, .int (x2 + nI 1)), (0, .ref h0), (1, .int x1), (3, .int x3)]) C dX0_stretchesMany_19 2 rfl rfl (Nat.le_of_ble_eq_true rfl) rfl ?_
        refine g_iinc (v := (x3 + nI 1)) (lv2 := [(3, .int (x3 + nI 1)), (2, .int (x2 + nI 1)), (0, .ref h0), (1, .int x1)]) C dX0_stretchesMany_22 3 rfl rfl (Nat.le_of_ble_eq_true rfl) rfl ?_
        refine g_goto (tgt := 4) C dX0_stretchesMany_25 rfl ?_
        refine g_sub [2, 3, 1, 0] (lv2 := [(0, .ref h0), (1, .int x1), (2, .int (x2 + nI 1)), (3, .int (x3 + nI 1))]) rfl ?_
        exact ih _ _ _ _ hF
set_option maxRecDepth 100000 in
set_option maxHeartbeats 4000000 in
theorem kX0_stretchesMany (l : Launch) (D : va_G) (h0 : Nat) (E : EX) (x1 : Int32) (σ : SX) (r : Int32) (σ2 : SX) (hF : fX0_stretchesMany x1 σ = some (r, σ2)) : MI l D (tysX0 E) yX0_stretchesMany cX0_stretchesMany 4 (some .int) 3 63 [.ref h0, .int x1] (wX0 h0 E σ) (wX0 h0 E σ2) r := by
  refine g_enterI (own := RX0) (lv := [(0, .ref h0), (1, .int x1)]) (by decide +kernel) rfl (Nat.le_of_ble_eq_true rfl) rfl ?_
  intro p e s m args below meth c A C
  rw [fX0_stretchesMany] at hF
  refine g_iconst (v := (nI 0)) C dX0_stretchesMany_0 rfl ?_
  refine g_istore_n (lv2 := [(2, .int (nI 0)), (0, .ref h0), (1, .int x1)]) C dX0_stretchesMany_1 (Nat.le_of_ble_eq_true rfl) rfl ?_
  refine g_iconst (v := (nI 0)) C dX0_stretchesMany_2 rfl ?_
  refine g_istore_n (lv2 := [(3, .int (nI 0)), (2, .int (nI 0)), (0, .ref h0), (1, .int x1)]) C dX0_stretchesMany_3 (Nat.le_of_ble_eq_true rfl) rfl ?_
  refine g_sub [2, 3, 1, 0] (lv2 := [(0, .ref h0), (1, .int x1), (2, .int (nI 0)), (3, .int (nI 0))]) rfl ?_
  exact wX0_stretchesMany_L4 C FU _ _ _ _ hF
set_option maxRecDepth 100000 in
set_option maxHeartbeats 4000000 in
theorem kX0_many (l : Launch) (D : va_G) (h0 : Nat) (E : EX) (x1 : Int32) (σ : SX) (r : Int32) (σ2 : SX) (hF : fX0_many x1 σ = some (r, σ2)) : MI l D (tysX0 E) yX0_many cX0_many 2 (some .int) 4 86 [.ref h0, .int x1] (wX0 h0 E σ) (wX0 h0 E σ2) r := by
  refine g_enterI (own := RX0) (lv := [(0, .ref h0), (1, .int x1)]) (by decide +kernel) rfl (Nat.le_of_ble_eq_true rfl) rfl ?_
  intro p e s m args below meth c A C
  rw [fX0_many] at hF
  refine g_iload_n C dX0_many_0 1 rfl ?_
  refine g_case (x1 = nI 0) (fun hc0 hF => ?_) (fun hc0 hF => ?_) hF
  · refine g_tswI (tgt := 40) C dX0_many_1 hc0 (by decide) (by decide) rfl rfl ?_
    refine g_aload_n C dX0_many_40 0 rfl ?_
    obtain ⟨r1, s1, h1, hF⟩ := bd_some hF
    refine g_callV C (kX0_freeMany l D h0 E _ _ _ h1) gV_X0_freeMany rfl rfl hn_X0_freeMany rfl (Nat.le_of_ble_eq_true rfl) (Nat.le_of_ble_eq_true rfl) rfl (Nat.le_of_ble_eq_true rfl) dX0_many_41 ?_
    exact x0_iret C rfl dX0_many_44 hF
  refine g_case (x1 = nI 1) (fun hc1 hF => ?_) (fun hc1 hF => ?_) hF
  · refine g_tswI (tgt := 45) C dX0_many_1 hc1 (by decide) (by decide) rfl rfl ?_
    refine g_aload_n C dX0_many_45 0 rfl ?_
    obtain ⟨r2, s2, h2, hF⟩ := bd_some hF
    refine g_callV C (kX0_sharedMany l D h0 E _ _ _ h2) gV_X0_sharedMany rfl rfl hn_X0_sharedMany rfl (Nat.le_of_ble_eq_true rfl) (Nat.le_of_ble_eq_true rfl) rfl (Nat.le_of_ble_eq_true rfl) dX0_many_46 ?_
    exact x0_iret C rfl dX0_many_49 hF
  refine g_case (x1 = nI 2) (fun hc2 hF => ?_) (fun hc2 hF => ?_) hF
  · refine g_tswI (tgt := 50) C dX0_many_1 hc2 (by decide) (by decide) rfl rfl ?_
    refine g_aload_n C dX0_many_50 0 rfl ?_
    refine g_iconst (v := (nI 1)) C dX0_many_51 rfl ?_
    obtain ⟨r3, s3, h3, hF⟩ := bd_some hF
    refine g_callV C (kX0_stretchesMany l D h0 E _ _ _ _ h3) gV_X0_stretchesMany rfl rfl hn_X0_stretchesMany rfl (Nat.le_of_ble_eq_true rfl) (Nat.le_of_ble_eq_true rfl) rfl (Nat.le_of_ble_eq_true rfl) dX0_many_52 ?_
    exact x0_iret C rfl dX0_many_55 hF
  refine g_case (x1 = nI 3) (fun hc3 hF => ?_) (fun hc3 hF => ?_) hF
  · refine g_tswI (tgt := 56) C dX0_many_1 hc3 (by decide) (by decide) rfl rfl ?_
    refine g_aload_n C dX0_many_56 0 rfl ?_
    refine g_iconst (v := (nI 0)) C dX0_many_57 rfl ?_
    obtain ⟨r4, s4, h4, hF⟩ := bd_some hF
    refine g_callV C (kX0_stretchesMany l D h0 E _ _ _ _ h4) gV_X0_stretchesMany rfl rfl hn_X0_stretchesMany rfl (Nat.le_of_ble_eq_true rfl) (Nat.le_of_ble_eq_true rfl) rfl (Nat.le_of_ble_eq_true rfl) dX0_many_58 ?_
    exact x0_iret C rfl dX0_many_61 hF
  refine g_case (x1 = nI 4) (fun hc4 hF => ?_) (fun hc4 hF => ?_) hF
  · refine g_tswI (tgt := 62) C dX0_many_1 hc4 (by decide) (by decide) rfl rfl ?_
    refine g_aload_n C dX0_many_62 0 rfl ?_
    refine x0_get9 C dX0_many_63 ?_
    refine g_if_eq (tgt := 73) C dX0_many_66 rfl (fun hc hF => ?_) (fun hc hF => ?_) hF
    · refine g_iconst (v := (nI 0)) C dX0_many_73 rfl ?_
      exact x0_iret C rfl dX0_many_74 hF
    · refine g_iconst (v := (nI 1)) C dX0_many_69 rfl ?_
      refine g_goto (tgt := 74) C dX0_many_70 rfl ?_
      exact x0_iret C rfl dX0_many_74 hF
  refine g_case (x1 = nI 5) (fun hc5 hF => ?_) (fun hc5 hF => ?_) hF
  · refine g_tswI (tgt := 75) C dX0_many_1 hc5 (by decide) (by decide) rfl rfl ?_
    refine g_aload_n C dX0_many_75 0 rfl ?_
    refine x0_get9 C dX0_many_76 ?_
    refine g_if_eq (tgt := 94) C dX0_many_79 rfl (fun hc hF => ?_) (fun hc hF => ?_) hF
    · refine g_iconst (v := (nI 0)) C dX0_many_94 rfl ?_
      exact x0_iret C rfl dX0_many_95 hF
    · refine g_aload_n C dX0_many_82 0 rfl ?_
      refine x0_get14 C dX0_many_83 ?_
      refine g_aload_n C dX0_many_86 0 rfl ?_
      refine x0_get15 C dX0_many_87 ?_
      refine g_isub C dX0_many_90 ?_
      refine g_goto (tgt := 95) C dX0_many_91 rfl ?_
      exact x0_iret C rfl dX0_many_95 hF
  refine g_tswO (tgt := 96) C dX0_many_1 (sw_out (hi := 5) (by decide) (fun j hj => by rcases (show j = 0 ∨ j = 1 ∨ j = 2 ∨ j = 3 ∨ j = 4 ∨ j = 5 by omega) with rfl | rfl | rfl | rfl | rfl | rfl <;> assumption)) rfl ?_
  refine g_bipush (v := (-2)) C dX0_many_96 rfl ?_
  exact x0_iret C rfl dX0_many_98 hF
