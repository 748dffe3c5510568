def P0 (σ : SX) : Prop := (∀ j, j ≠ 2 → σ.1 j = fun _ => 0) ∧ (∀ j, j < 96 → σ.1 2 j = nN) ∧ (∀ j, 96 ≤ j → σ.1 2 j = 0) ∧ σ.2 = upd (fun _ => 0) 8 nN
set_option maxRecDepth 100000 in
set_option maxHeartbeats 4000000 in
theorem iX0_loop {p : Program} {l : Launch} {e : Env} {s : State} {m : MethodId} {args : Array Value} {below : List Frame} {meth : Method} {c : Code} {A : Nat → Prop} {D : va_G} {h0 : Nat} {E : EX} (C : GC p { frames := 1, cells := 6, slots := 412, locals := 20 } s m args meth c A D cX0_init 2 6 412 (tysX0 E) RX0 none) : ∀ (k j : Nat) (σ : SX), j + k = 96 → (∀ t, t ≠ 2 → σ.1 t = fun _ => 0) → (∀ t, t < j → σ.1 2 t = nN) → (∀ t, 96 ≤ t → σ.1 2 t = 0) → σ.2 = upd (fun _ => 0) 8 nN → GW p l e { frames := 1, cells := 6, slots := 412, locals := 20 } s m args below meth c (QC D 6 412 (fun (u : EX × SX) => P0 u.2) (fun u => wX0 h0 u.1 u.2) (fun u => tysX0 u.1) A below args s) A D 2 6 412 (wX0 h0 E σ) 60 [(0, .ref h0), (1, .int (nI j))] [] := by
  intro k
  induction k with
  | zero =>
    intro j σ hj h1 h2 h4 h3
    refine g_iload_n C dX0_init_60 1 rfl ?_
    refine g_aload_n C dX0_init_61 0 rfl ?_
    refine x0_get2 C dX0_init_62 ?_
    refine x0_len2 C dX0_init_65 ?_
    refine b_icmp_ge (tgt := 83) C dX0_init_66 rfl (fun hc => ?_) (fun hc => absurd ((nI_leI (by omega) (by omega)).mpr (by omega)) hc)
    exact g_vretC C rfl (E, σ) ⟨h1, fun t ht => h2 t (by omega), h4, h3⟩ rfl rfl dX0_init_83
  | succ k ih =>
    intro j σ hj h1 h2 h4 h3
    refine g_iload_n C dX0_init_60 1 rfl ?_
    refine g_aload_n C dX0_init_61 0 rfl ?_
    refine x0_get2 C dX0_init_62 ?_
    refine x0_len2 C dX0_init_65 ?_
    refine b_icmp_ge (tgt := 83) C dX0_init_66 rfl (fun hc => absurd ((nI_leI (by omega) (by omega)).mp hc) (by omega)) (fun hc => ?_)
    refine g_aload_n C dX0_init_69 0 rfl ?_
    refine x0_get2 C dX0_init_70 ?_
    refine g_iload_n C dX0_init_73 1 rfl ?_
    refine g_bipush (v := nN) C dX0_init_74 rfl ?_
    refine x0_st2 C dX0_init_76 (z := ()) (t := some ()) (fun _ => ?_) (gD_n (by omega) (by omega))
    refine g_iinc (v := nI (j + 1)) (lv2 := [(1, .int (nI (j + 1))), (0, .ref h0)]) C dX0_init_77 1 rfl (nI_add j 1) (Nat.le_of_ble_eq_true rfl) rfl ?_
    refine g_goto (tgt := 60) C dX0_init_80 rfl ?_
    refine g_sub [1, 0] (lv2 := [(0, .ref h0), (1, .int (nI (j + 1)))]) rfl ?_
    rw [nI_cl (by omega)]
    exact ih (j + 1) _ (by omega) (fun t ht => (sa_1n _ _ _ _ ht).trans (h1 t ht)) (fun t ht => by
      rw [sa_1e]
      by_cases q : t = j
      · subst q; exact upd_e _ _ _
      · rw [upd_n _ _ _ q]; exact h2 t (by omega)) (fun t ht => by
      rw [sa_1e, upd_n _ _ _ (by omega)]; exact h4 t ht) h3
set_option maxRecDepth 100000 in
set_option maxHeartbeats 4000000 in
theorem kX0_init (l : Launch) (D : va_G) (h0 : Nat) : MC l D yX0_init cX0_init 2 1 20 6 412 [.ref h0] [(h0, .inr (0, [.null, .null, .null, .null, .null, .int 0, .null, .int 0, .int 0, .int 0, .int 0, .int 0, .int 0, .int 0, .int 0, .int 0]))] (fun (u : EX × SX) => P0 u.2) (fun u => wX0 h0 u.1 u.2) (fun u => tysX0 u.1) := by
  refine g_enterC (own := RX0) (lv := [(0, .ref h0)]) (by decide +kernel) rfl rfl (Nat.le_of_ble_eq_true rfl) rfl ?_
  intro p e s m args below meth c A C hin
  refine g_aload_n C dX0_init_0 0 rfl ?_
  refine g_objInit C mw_68 mw_69 mw_70 (Nat.le_of_ble_eq_true rfl) (Nat.le_of_ble_eq_true rfl) dX0_init_1 ?_
  refine g_aload_n C dX0_init_4 0 rfl ?_
  refine g_sipush (v := (nI 192)) C dX0_init_5 rfl ?_
  refine g_newa_int C mw_120 (Nat.le_of_ble_eq_true rfl) (Nat.le_of_ble_eq_true rfl) (Nat.le_of_ble_eq_true rfl) dX0_init_8 (fun q0 c0 C => ?_)
  refine c0_putF0 C hin rfl (Nat.le_of_ble_eq_true rfl) dX0_init_10 ?_
  refine g_aload_n C dX0_init_13 0 rfl ?_
  refine g_bipush (v := (nI 48)) C dX0_init_14 rfl ?_
  refine g_newa_int C mw_120 (Nat.le_of_ble_eq_true rfl) (Nat.le_of_ble_eq_true rfl) (Nat.le_of_ble_eq_true rfl) dX0_init_16 (fun q1 c1 C => ?_)
  refine c0_putF1 C hin rfl (Nat.le_of_ble_eq_true rfl) dX0_init_18 ?_
  refine g_aload_n C dX0_init_21 0 rfl ?_
  refine g_bipush (v := (nI 96)) C dX0_init_22 rfl ?_
  refine g_newa_int C mw_120 (Nat.le_of_ble_eq_true rfl) (Nat.le_of_ble_eq_true rfl) (Nat.le_of_ble_eq_true rfl) dX0_init_24 (fun q2 c2 C => ?_)
  refine c0_putF2 C hin rfl (Nat.le_of_ble_eq_true rfl) dX0_init_26 ?_
  refine g_aload_n C dX0_init_29 0 rfl ?_
  refine g_iconst (v := (nI 4)) C dX0_init_30 rfl ?_
  refine g_newa_int C mw_120 (Nat.le_of_ble_eq_true rfl) (Nat.le_of_ble_eq_true rfl) (Nat.le_of_ble_eq_true rfl) dX0_init_31 (fun q3 c3 C => ?_)
  refine c0_putF3 C hin rfl (Nat.le_of_ble_eq_true rfl) dX0_init_33 ?_
  refine g_aload_n C dX0_init_36 0 rfl ?_
  refine g_bipush (v := (nI 24)) C dX0_init_37 rfl ?_
  refine g_newa_int C mw_120 (Nat.le_of_ble_eq_true rfl) (Nat.le_of_ble_eq_true rfl) (Nat.le_of_ble_eq_true rfl) dX0_init_39 (fun q4 c4 C => ?_)
  refine c0_putF4 C hin rfl (Nat.le_of_ble_eq_true rfl) dX0_init_41 ?_
  refine g_aload_n C dX0_init_44 0 rfl ?_
  refine g_bipush (v := (nI 48)) C dX0_init_45 rfl ?_
  refine g_newa_int C mw_120 (Nat.le_of_ble_eq_true rfl) (Nat.le_of_ble_eq_true rfl) (Nat.le_of_ble_eq_true rfl) dX0_init_47 (fun q6 c6 C => ?_)
  refine c0_putF6 C hin rfl (Nat.le_of_ble_eq_true rfl) dX0_init_49 ?_
  have C : GC p { frames := 1, cells := 6, slots := 412, locals := 20 } s m args meth c A D cX0_init 2 6 412 (tysX0 ((fun k => match k with | 0 => q0 | 1 => q1 | 2 => q2 | 3 => q3 | 4 => q4 | _ => q6), (fun k => match k with | 0 => c0 | 1 => c1 | 2 => c2 | 3 => c3 | 4 => c4 | _ => c6))) RX0 none := C
  show GW p l e { frames := 1, cells := 6, slots := 412, locals := 20 } s m args below meth c (QC D 6 412 (fun (u : EX × SX) => P0 u.2) (fun u => wX0 h0 u.1 u.2) (fun u => tysX0 u.1) A below args s) A D 2 6 412 (wX0 h0 ((fun k => match k with | 0 => q0 | 1 => q1 | 2 => q2 | 3 => q3 | 4 => q4 | _ => q6), (fun k => match k with | 0 => c0 | 1 => c1 | 2 => c2 | 3 => c3 | 4 => c4 | _ => c6)) (fun _ _ => 0, fun _ => 0)) 52 [(0, .ref h0)] []
  generalize (((fun k => match k with | 0 => q0 | 1 => q1 | 2 => q2 | 3 => q3 | 4 => q4 | _ => q6), (fun k => match k with | 0 => c0 | 1 => c1 | 2 => c2 | 3 => c3 | 4 => c4 | _ => c6)) : EX) = E at C ⊢
  refine g_aload_n C dX0_init_52 0 rfl ?_
  refine g_bipush (v := nN) C dX0_init_53 rfl ?_
  refine x0_put8 C dX0_init_55 ?_
  refine g_iconst (v := (nI 0)) C dX0_init_58 rfl ?_
  refine g_istore_n (lv2 := [(1, .int (nI 0)), (0, .ref h0)]) C dX0_init_59 (Nat.le_of_ble_eq_true rfl) rfl ?_
  refine g_sub [1, 0] (lv2 := [(0, .ref h0), (1, .int (nI 0))]) rfl ?_
  exact iX0_loop C 96 0 _ (by omega) (fun t ht => rfl) (fun t ht => by omega) (fun t ht => rfl) rfl
def P1 (σ : SX) : Prop := (∀ j, j ≠ 2 → σ.1 j = fun _ => 0) ∧ (∀ j, j < 96 → σ.1 2 j = nN) ∧ (∀ j, 96 ≤ j → σ.1 2 j = 0) ∧ σ.2 = upd (fun _ => 0) 10 nN
set_option maxRecDepth 100000 in
set_option maxHeartbeats 4000000 in
theorem iX1_loop {p : Program} {l : Launch} {e : Env} {s : State} {m : MethodId} {args : Array Value} {below : List Frame} {meth : Method} {c : Code} {A : Nat → Prop} {D : va_G} {h0 : Nat} {E : EX} (C : GC p { frames := 1, cells := 6, slots := 388, locals := 20 } s m args meth c A D cX1_init 2 6 388 (tysX1 E) RX1 none) : ∀ (k j : Nat) (σ : SX), j + k = 96 → (∀ t, t ≠ 2 → σ.1 t = fun _ => 0) → (∀ t, t < j → σ.1 2 t = nN) → (∀ t, 96 ≤ t → σ.1 2 t = 0) → σ.2 = upd (fun _ => 0) 10 nN → GW p l e { frames := 1, cells := 6, slots := 388, locals := 20 } s m args below meth c (QC D 6 388 (fun (u : EX × SX) => P1 u.2) (fun u => wX1 h0 u.1 u.2) (fun u => tysX1 u.1) A below args s) A D 2 6 388 (wX1 h0 E σ) 60 [(0, .ref h0), (1, .int (nI j))] [] := by
  intro k
  induction k with
  | zero =>
    intro j σ hj h1 h2 h4 h3
    refine g_iload_n C dX1_init_60 1 rfl ?_
    refine g_bipush (v := (nI 96)) C dX1_init_61 rfl ?_
    refine b_icmp_ge (tgt := 80) C dX1_init_63 rfl (fun hc => ?_) (fun hc => absurd ((nI_leI (by omega) (by omega)).mpr (by omega)) hc)
    exact g_vretC C rfl (E, σ) ⟨h1, fun t ht => h2 t (by omega), h4, h3⟩ rfl rfl dX1_init_80
  | succ k ih =>
    intro j σ hj h1 h2 h4 h3
    refine g_iload_n C dX1_init_60 1 rfl ?_
    refine g_bipush (v := (nI 96)) C dX1_init_61 rfl ?_
    refine b_icmp_ge (tgt := 80) C dX1_init_63 rfl (fun hc => absurd ((nI_leI (by omega) (by omega)).mp hc) (by omega)) (fun hc => ?_)
    refine g_aload_n C dX1_init_66 0 rfl ?_
    refine x1_get2 C dX1_init_67 ?_
    refine g_iload_n C dX1_init_70 1 rfl ?_
    refine g_bipush (v := nN) C dX1_init_71 rfl ?_
    refine x1_st2 C dX1_init_73 (z := ()) (t := some ()) (fun _ => ?_) (gD_n (by omega) (by omega))
    refine g_iinc (v := nI (j + 1)) (lv2 := [(1, .int (nI (j + 1))), (0, .ref h0)]) C dX1_init_74 1 rfl (nI_add j 1) (Nat.le_of_ble_eq_true rfl) rfl ?_
    refine g_goto (tgt := 60) C dX1_init_77 rfl ?_
    refine g_sub [1, 0] (lv2 := [(0, .ref h0), (1, .int (nI (j + 1)))]) rfl ?_
    rw [nI_cl (by omega)]
    exact ih (j + 1) _ (by omega) (fun t ht => (sa_1n _ _ _ _ ht).trans (h1 t ht)) (fun t ht => by
      rw [sa_1e]
      by_cases q : t = j
      · subst q; exact upd_e _ _ _
      · rw [upd_n _ _ _ q]; exact h2 t (by omega)) (fun t ht => by
      rw [sa_1e, upd_n _ _ _ (by omega)]; exact h4 t ht) h3
set_option maxRecDepth 100000 in
set_option maxHeartbeats 4000000 in
theorem kX1_init (l : Launch) (D : va_G) (h0 : Nat) : MC l D yX1_init cX1_init 2 1 20 6 388 [.ref h0] [(h0, .inr (1, [.null, .null, .null, .int 0, .int 0, .null, .null, .int 0, .null, .int 0, .int 0, .int 0, .int 0, .int 0, .int 0, .int 0, .int 0]))] (fun (u : EX × SX) => P1 u.2) (fun u => wX1 h0 u.1 u.2) (fun u => tysX1 u.1) := by
  refine g_enterC (own := RX1) (lv := [(0, .ref h0)]) (by decide +kernel) rfl rfl (Nat.le_of_ble_eq_true rfl) rfl ?_
  intro p e s m args below meth c A C hin
  refine g_aload_n C dX1_init_0 0 rfl ?_
  refine g_objInit C mw_369 mw_69 mw_70 (Nat.le_of_ble_eq_true rfl) (Nat.le_of_ble_eq_true rfl) dX1_init_1 ?_
  refine g_aload_n C dX1_init_4 0 rfl ?_
  refine g_sipush (v := (nI 192)) C dX1_init_5 rfl ?_
  refine g_newa_int C mw_120 (Nat.le_of_ble_eq_true rfl) (Nat.le_of_ble_eq_true rfl) (Nat.le_of_ble_eq_true rfl) dX1_init_8 (fun q0 c0 C => ?_)
  refine c1_putF0 C hin rfl (Nat.le_of_ble_eq_true rfl) dX1_init_10 ?_
  refine g_aload_n C dX1_init_13 0 rfl ?_
  refine g_iconst (v := (nI 4)) C dX1_init_14 rfl ?_
  refine g_newa_int C mw_120 (Nat.le_of_ble_eq_true rfl) (Nat.le_of_ble_eq_true rfl) (Nat.le_of_ble_eq_true rfl) dX1_init_15 (fun q1 c1 C => ?_)
  refine c1_putF1 C hin rfl (Nat.le_of_ble_eq_true rfl) dX1_init_17 ?_
  refine g_aload_n C dX1_init_20 0 rfl ?_
  refine g_bipush (v := (nI 96)) C dX1_init_21 rfl ?_
  refine g_newa_int C mw_120 (Nat.le_of_ble_eq_true rfl) (Nat.le_of_ble_eq_true rfl) (Nat.le_of_ble_eq_true rfl) dX1_init_23 (fun q2 c2 C => ?_)
  refine c1_putF2 C hin rfl (Nat.le_of_ble_eq_true rfl) dX1_init_25 ?_
  refine g_aload_n C dX1_init_28 0 rfl ?_
  refine g_bipush (v := (nI 24)) C dX1_init_29 rfl ?_
  refine g_newa_int C mw_120 (Nat.le_of_ble_eq_true rfl) (Nat.le_of_ble_eq_true rfl) (Nat.le_of_ble_eq_true rfl) dX1_init_31 (fun q5 c5 C => ?_)
  refine c1_putF5 C hin rfl (Nat.le_of_ble_eq_true rfl) dX1_init_33 ?_
  refine g_aload_n C dX1_init_36 0 rfl ?_
  refine g_bipush (v := (nI 48)) C dX1_init_37 rfl ?_
  refine g_newa_boolean C mw_422 (Nat.le_of_ble_eq_true rfl) (Nat.le_of_ble_eq_true rfl) (Nat.le_of_ble_eq_true rfl) dX1_init_39 (fun q6 c6 C => ?_)
  refine c1_putF6 C hin rfl (Nat.le_of_ble_eq_true rfl) dX1_init_41 ?_
  refine g_aload_n C dX1_init_44 0 rfl ?_
  refine g_bipush (v := (nI 24)) C dX1_init_45 rfl ?_
  refine g_newa_int C mw_120 (Nat.le_of_ble_eq_true rfl) (Nat.le_of_ble_eq_true rfl) (Nat.le_of_ble_eq_true rfl) dX1_init_47 (fun q8 c8 C => ?_)
  refine c1_putF8 C hin rfl (Nat.le_of_ble_eq_true rfl) dX1_init_49 ?_
  have C : GC p { frames := 1, cells := 6, slots := 388, locals := 20 } s m args meth c A D cX1_init 2 6 388 (tysX1 ((fun k => match k with | 0 => q0 | 1 => q1 | 2 => q2 | 5 => q5 | 6 => q6 | _ => q8), (fun k => match k with | 0 => c0 | 1 => c1 | 2 => c2 | 5 => c5 | 6 => c6 | _ => c8))) RX1 none := C
  show GW p l e { frames := 1, cells := 6, slots := 388, locals := 20 } s m args below meth c (QC D 6 388 (fun (u : EX × SX) => P1 u.2) (fun u => wX1 h0 u.1 u.2) (fun u => tysX1 u.1) A below args s) A D 2 6 388 (wX1 h0 ((fun k => match k with | 0 => q0 | 1 => q1 | 2 => q2 | 5 => q5 | 6 => q6 | _ => q8), (fun k => match k with | 0 => c0 | 1 => c1 | 2 => c2 | 5 => c5 | 6 => c6 | _ => c8)) (fun _ _ => 0, fun _ => 0)) 52 [(0, .ref h0)] []
  generalize (((fun k => match k with | 0 => q0 | 1 => q1 | 2 => q2 | 5 => q5 | 6 => q6 | _ => q8), (fun k => match k with | 0 => c0 | 1 => c1 | 2 => c2 | 5 => c5 | 6 => c6 | _ => c8)) : EX) = E at C ⊢
  refine g_aload_n C dX1_init_52 0 rfl ?_
  refine g_bipush (v := nN) C dX1_init_53 rfl ?_
  refine x1_put10 C dX1_init_55 ?_
  refine g_iconst (v := (nI 0)) C dX1_init_58 rfl ?_
  refine g_istore_n (lv2 := [(1, .int (nI 0)), (0, .ref h0)]) C dX1_init_59 (Nat.le_of_ble_eq_true rfl) rfl ?_
  refine g_sub [1, 0] (lv2 := [(0, .ref h0), (1, .int (nI 0))]) rfl ?_
  exact iX1_loop C 96 0 _ (by omega) (fun t ht => rfl) (fun t ht => by omega) (fun t ht => rfl) rfl
