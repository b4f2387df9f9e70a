set_option maxHeartbeats 4000000 in
set_option maxRecDepth 100000 in
theorem c_J6_bitCount_0f7a4 (l : Launch) (E : EE) (w : va_W) (x : Int32) : Ct l yJ6_bitCount_0f7a4 cJ6_bitCount_0f7a4 1 (some .int) 0 E [.int x] (w) (bcC x) (w) := by
  refine Ct_mk RJ6 rfl (by decide +kernel) (Nat.le_of_ble_eq_true rfl) ?_
  intro p e s m below meth c A ls X hr G hl
  have hl : lv_has ls 1 [(0, .int x)] := hl
  obtain ⟨hx, hb, hml, hown, hts, hK, hA, hlocks⟩ := id X
  refine lv_iload_n hx hb dJ6_bitCount_0f7a4_0 rfl (lv_at hl 0 rfl) ?_
  refine lv_iload_n hx hb dJ6_bitCount_0f7a4_1 rfl (lv_at hl 0 rfl) ?_
  refine lv_iconst (v := 1) hx hb dJ6_bitCount_0f7a4_2 (by decide) ?_
  refine lv_iushr (v := ush x 1) hx hb dJ6_bitCount_0f7a4_3 rfl ?_
  refine lv_ldcw (v := 1431655765) hx hb hown (hts _ q_ldc265) dJ6_bitCount_0f7a4_4 ?_
  refine lv_iand hx hb dJ6_bitCount_0f7a4_7 ?_
  refine lv_isub hx hb dJ6_bitCount_0f7a4_8 ?_
  refine lv_istore_n (lv' := [(0, .int (x - ((ush x 1) &&& 1431655765)))]) hx hb dJ6_bitCount_0f7a4_9 rfl hl (by decide) rfl (fun ls hl => ?_)
  refine lv_iload_n hx hb dJ6_bitCount_0f7a4_10 rfl (lv_at hl 0 rfl) ?_
  refine lv_ldcw (v := 858993459) hx hb hown (hts _ q_ldc266) dJ6_bitCount_0f7a4_11 ?_
  refine lv_iand hx hb dJ6_bitCount_0f7a4_14 ?_
  refine lv_iload_n hx hb dJ6_bitCount_0f7a4_15 rfl (lv_at hl 0 rfl) ?_
  refine lv_iconst (v := 2) hx hb dJ6_bitCount_0f7a4_16 (by decide) ?_
  refine lv_iushr (v := ush (x - ((ush x 1) &&& 1431655765)) 2) hx hb dJ6_bitCount_0f7a4_17 rfl ?_
  refine lv_ldcw (v := 858993459) hx hb hown (hts _ q_ldc266) dJ6_bitCount_0f7a4_18 ?_
  refine lv_iand hx hb dJ6_bitCount_0f7a4_21 ?_
  refine lv_iadd hx hb dJ6_bitCount_0f7a4_22 ?_
  refine lv_istore_n (lv' := [(0, .int (((x - ((ush x 1) &&& 1431655765)) &&& 858993459) + ((ush (x - ((ush x 1) &&& 1431655765)) 2) &&& 858993459)))]) hx hb dJ6_bitCount_0f7a4_23 rfl hl (by decide) rfl (fun ls hl => ?_)
  refine lv_iload_n hx hb dJ6_bitCount_0f7a4_24 rfl (lv_at hl 0 rfl) ?_
  refine lv_iload_n hx hb dJ6_bitCount_0f7a4_25 rfl (lv_at hl 0 rfl) ?_
  refine lv_iconst (v := 4) hx hb dJ6_bitCount_0f7a4_26 (by decide) ?_
  refine lv_iushr (v := ush (((x - ((ush x 1) &&& 1431655765)) &&& 858993459) + ((ush (x - ((ush x 1) &&& 1431655765)) 2) &&& 858993459)) 4) hx hb dJ6_bitCount_0f7a4_27 rfl ?_
  refine lv_iadd hx hb dJ6_bitCount_0f7a4_28 ?_
  refine lv_ldcw (v := 252645135) hx hb hown (hts _ q_ldc267) dJ6_bitCount_0f7a4_29 ?_
  refine lv_iand hx hb dJ6_bitCount_0f7a4_32 ?_
  refine lv_istore_n (lv' := [(0, .int (((((x - ((ush x 1) &&& 1431655765)) &&& 858993459) + ((ush (x - ((ush x 1) &&& 1431655765)) 2) &&& 858993459)) + (ush (((x - ((ush x 1) &&& 1431655765)) &&& 858993459) + ((ush (x - ((ush x 1) &&& 1431655765)) 2) &&& 858993459)) 4)) &&& 252645135))]) hx hb dJ6_bitCount_0f7a4_33 rfl hl (by decide) rfl (fun ls hl => ?_)
  refine lv_iload_n hx hb dJ6_bitCount_0f7a4_34 rfl (lv_at hl 0 rfl) ?_
  refine lv_iload_n hx hb dJ6_bitCount_0f7a4_35 rfl (lv_at hl 0 rfl) ?_
  refine lv_bipush (v := 8) hx hb dJ6_bitCount_0f7a4_36 (by decide) ?_
  refine lv_iushr (v := ush (((((x - ((ush x 1) &&& 1431655765)) &&& 858993459) + ((ush (x - ((ush x 1) &&& 1431655765)) 2) &&& 858993459)) + (ush (((x - ((ush x 1) &&& 1431655765)) &&& 858993459) + ((ush (x - ((ush x 1) &&& 1431655765)) 2) &&& 858993459)) 4)) &&& 252645135) 8) hx hb dJ6_bitCount_0f7a4_38 rfl ?_
  refine lv_iadd hx hb dJ6_bitCount_0f7a4_39 ?_
  refine lv_istore_n (lv' := [(0, .int ((((((x - ((ush x 1) &&& 1431655765)) &&& 858993459) + ((ush (x - ((ush x 1) &&& 1431655765)) 2) &&& 858993459)) + (ush (((x - ((ush x 1) &&& 1431655765)) &&& 858993459) + ((ush (x - ((ush x 1) &&& 1431655765)) 2) &&& 858993459)) 4)) &&& 252645135) + (ush (((((x - ((ush x 1) &&& 1431655765)) &&& 858993459) + ((ush (x - ((ush x 1) &&& 1431655765)) 2) &&& 858993459)) + (ush (((x - ((ush x 1) &&& 1431655765)) &&& 858993459) + ((ush (x - ((ush x 1) &&& 1431655765)) 2) &&& 858993459)) 4)) &&& 252645135) 8)))]) hx hb dJ6_bitCount_0f7a4_40 rfl hl (by decide) rfl (fun ls hl => ?_)
  refine lv_iload_n hx hb dJ6_bitCount_0f7a4_41 rfl (lv_at hl 0 rfl) ?_
  refine lv_iload_n hx hb dJ6_bitCount_0f7a4_42 rfl (lv_at hl 0 rfl) ?_
  refine lv_bipush (v := 16) hx hb dJ6_bitCount_0f7a4_43 (by decide) ?_
  refine lv_iushr (v := ush ((((((x - ((ush x 1) &&& 1431655765)) &&& 858993459) + ((ush (x - ((ush x 1) &&& 1431655765)) 2) &&& 858993459)) + (ush (((x - ((ush x 1) &&& 1431655765)) &&& 858993459) + ((ush (x - ((ush x 1) &&& 1431655765)) 2) &&& 858993459)) 4)) &&& 252645135) + (ush (((((x - ((ush x 1) &&& 1431655765)) &&& 858993459) + ((ush (x - ((ush x 1) &&& 1431655765)) 2) &&& 858993459)) + (ush (((x - ((ush x 1) &&& 1431655765)) &&& 858993459) + ((ush (x - ((ush x 1) &&& 1431655765)) 2) &&& 858993459)) 4)) &&& 252645135) 8)) 16) hx hb dJ6_bitCount_0f7a4_45 rfl ?_
  refine lv_iadd hx hb dJ6_bitCount_0f7a4_46 ?_
  refine lv_istore_n (lv' := [(0, .int (((((((x - ((ush x 1) &&& 1431655765)) &&& 858993459) + ((ush (x - ((ush x 1) &&& 1431655765)) 2) &&& 858993459)) + (ush (((x - ((ush x 1) &&& 1431655765)) &&& 858993459) + ((ush (x - ((ush x 1) &&& 1431655765)) 2) &&& 858993459)) 4)) &&& 252645135) + (ush (((((x - ((ush x 1) &&& 1431655765)) &&& 858993459) + ((ush (x - ((ush x 1) &&& 1431655765)) 2) &&& 858993459)) + (ush (((x - ((ush x 1) &&& 1431655765)) &&& 858993459) + ((ush (x - ((ush x 1) &&& 1431655765)) 2) &&& 858993459)) 4)) &&& 252645135) 8)) + (ush ((((((x - ((ush x 1) &&& 1431655765)) &&& 858993459) + ((ush (x - ((ush x 1) &&& 1431655765)) 2) &&& 858993459)) + (ush (((x - ((ush x 1) &&& 1431655765)) &&& 858993459) + ((ush (x - ((ush x 1) &&& 1431655765)) 2) &&& 858993459)) 4)) &&& 252645135) + (ush (((((x - ((ush x 1) &&& 1431655765)) &&& 858993459) + ((ush (x - ((ush x 1) &&& 1431655765)) 2) &&& 858993459)) + (ush (((x - ((ush x 1) &&& 1431655765)) &&& 858993459) + ((ush (x - ((ush x 1) &&& 1431655765)) 2) &&& 858993459)) 4)) &&& 252645135) 8)) 16)))]) hx hb dJ6_bitCount_0f7a4_47 rfl hl (by decide) rfl (fun ls hl => ?_)
  refine lv_iload_n hx hb dJ6_bitCount_0f7a4_48 rfl (lv_at hl 0 rfl) ?_
  refine lv_bipush (v := 63) hx hb dJ6_bitCount_0f7a4_49 (by decide) ?_
  refine lv_iand hx hb dJ6_bitCount_0f7a4_51 ?_
  exact g_iret X hr G rfl (by rfl) dJ6_bitCount_0f7a4_52
set_option maxHeartbeats 4000000 in
set_option maxRecDepth 100000 in
theorem c_X0_countSent (l : Launch) (E : EE) (a : Nat → Nat) (st : St) (w : va_W) (o : Nat) (ho : o < 16) : Ct l yX0_countSent cX0_countSent 4 (some .int) 1 E [.ref (a 2), .int (nI o)] (wB E a st w) (countSentC st o) (wB E a st w) := by
  refine Ct_mk RX0 rfl (by decide +kernel) (Nat.le_of_ble_eq_true rfl) ?_
  intro p e s m below meth c A ls X hr G hl
  have hl : lv_has ls 4 [(0, .ref (a 2)), (1, .int (nI o))] := hl
  obtain ⟨hx, hb, hml, hown, hts, hK, hA, hlocks⟩ := id X
  refine lv_iconst (v := 0) hx hb dX0_countSent_0 (by decide) ?_
  refine lv_istore_n (lv' := [(2, .int 0), (0, .ref (a 2)), (1, .int (nI o))]) hx hb dX0_countSent_1 rfl hl (by decide) rfl (fun ls hl => ?_)
  refine lv_iconst (v := 0) hx hb dX0_countSent_2 (by decide) ?_
  refine lv_istore_n (lv' := [(3, .int 0), (2, .int 0), (0, .ref (a 2)), (1, .int (nI o))]) hx hb dX0_countSent_3 rfl hl (by decide) rfl (fun ls hl => ?_)
  have LP4 : ∀ (n i : Nat) (k : Int32) (H : Heap) (locs : List Loc) (ls : Array Slot), (i + n = 5) → (sumF (fun r => bcC (st 6 (o * 5 + r))) n i k = countSentC st o) → Gw E A s (wB E a st w) H locs → lv_has ls 4 [(0, .ref (a 2)), (1, .int (nI o)), (2, .int k), (3, .int (nI i))] → W p l e (rmD 1) s m ([.ref (a 2), .int (nI o)] : List Value).toArray below meth c H locs 0 0 (MQ below (CtQ E A (countSentC st o) (wB E a st w)) ([.ref (a 2), .int (nI o)] : List Value).toArray s 0 0 A) (F0 m 4 ls []) := by
    intro n
    induction n with
    | zero =>
      intro i k H locs ls hi hR G hl
      refine lv_iload_n hx hb dX0_countSent_4 rfl (lv_at hl 3 rfl) ?_
      refine lv_iconst (v := 5) hx hb dX0_countSent_5 (by decide) ?_
      refine n_cmp_ge (tgt := 31) i 5 rfl rfl (by omega) (by omega) hx hb dX0_countSent_6 (by decide) (fun c1 => ?_) (fun c1 => ?_)
      · skip
        refine lv_iload_n hx hb dX0_countSent_31 rfl (lv_at hl 2 rfl) ?_
        exact g_iret X hr G rfl (by rw [← hR]; rfl) dX0_countSent_32
      · skip
        exact absurd c1 (by omega)
    | succ n ih4 =>
      intro i k H locs ls hi hR G hl
      refine lv_iload_n hx hb dX0_countSent_4 rfl (lv_at hl 3 rfl) ?_
      refine lv_iconst (v := 5) hx hb dX0_countSent_5 (by decide) ?_
      refine n_cmp_ge (tgt := 31) i 5 rfl rfl (by omega) (by omega) hx hb dX0_countSent_6 (by decide) (fun c2 => ?_) (fun c2 => ?_)
      · skip
        exact absurd c2 (by omega)
      · skip
        refine lv_iload_n hx hb dX0_countSent_9 rfl (lv_at hl 2 rfl) ?_
        refine lv_aload_n hx hb dX0_countSent_10 rfl (lv_at hl 0 rfl) ?_
        refine g_get X G fX0_27 2 rfl rfl dX0_countSent_11 ?_
        refine lv_iload_n hx hb dX0_countSent_14 rfl (lv_at hl 1 rfl) ?_
        refine lv_iconst (v := 5) hx hb dX0_countSent_15 (by decide) ?_
        refine n_imul o 5 rfl rfl hx hb dX0_countSent_16 ?_
        refine lv_iload_n hx hb dX0_countSent_17 rfl (lv_at hl 3 rfl) ?_
        refine n_iadd (o * 5) i rfl rfl hx hb dX0_countSent_18 ?_
        refine g_iald (j := (o * 5) + i) X G 9 rfl rfl (by omega) (by decide) dX0_countSent_19 ?_
        refine g_callS (As := [.int (st 6 ((o * 5) + i))]) (rest := [.int k]) X kX0_40 (c_J6_bitCount_0f7a4 l E _ (st 6 ((o * 5) + i))) G ⟨Nat.le_of_ble_eq_true rfl, Nat.le_of_ble_eq_true rfl⟩ ⟨Nat.le_refl _, Nat.le_refl _⟩ rfl hl.1 rfl (Nat.le_of_ble_eq_true rfl) dX0_countSent_20 (fun H locs G => ?_)
        refine lv_iadd hx hb dX0_countSent_23 ?_
        refine lv_istore_n (lv' := [(2, .int (k + (bcC (st 6 ((o * 5) + i))))), (0, .ref (a 2)), (1, .int (nI o)), (3, .int (nI i))]) hx hb dX0_countSent_24 rfl hl (by decide) rfl (fun ls hl => ?_)
        refine lv_iinc (v := nI (i + 1)) (lv' := [(3, .int (nI (i + 1))), (2, .int (k + (bcC (st 6 ((o * 5) + i))))), (0, .ref (a 2)), (1, .int (nI o))]) hx hb dX0_countSent_25 hl (k := 3) rfl (nI_inc _) (by decide) rfl (fun ls hl => ?_)
        refine lv_goto (tgt := 4) hx hb dX0_countSent_28 (by decide) ?_
        exact ih4 (i + 1) (k + (bcC (st 6 ((o * 5) + i)))) _ _ ls (by omega) (by rw [← hR]; rfl) G (lv_sub hl [2, 3, 1, 0] rfl)
  exact LP4 5 0 0 _ _ ls (by omega) rfl G (lv_sub hl [2, 3, 1, 0] rfl)
set_option maxHeartbeats 4000000 in
set_option maxRecDepth 100000 in
theorem c_X0_countFreeBlocks (l : Launch) (E : EE) (a : Nat → Nat) (st : St) (w : va_W) : Ct l yX0_countFreeBlocks cX0_countFreeBlocks 1 (some .int) 4 E [.ref (a 2)] (wB E a st w) (bcC (blocksC st (-6))) (wB E a st w) := by
  refine Ct_mk RX0 rfl (by decide +kernel) (Nat.le_of_ble_eq_true rfl) ?_
  intro p e s m below meth c A ls X hr G hl
  have hl : lv_has ls 1 [(0, .ref (a 2))] := hl
  obtain ⟨hx, hb, hml, hown, hts, hK, hA, hlocks⟩ := id X
  refine lv_aload_n hx hb dX0_countFreeBlocks_0 rfl (lv_at hl 0 rfl) ?_
  refine lv_bipush (v := (-6)) hx hb dX0_countFreeBlocks_1 (by decide) ?_
  refine g_callV (As := [.int (-6)]) (rest := []) X kX0_56 (c_X0_blocksOf l E a st w (-6)) G 2 rfl rfl ⟨Nat.le_of_ble_eq_true rfl, Nat.le_of_ble_eq_true rfl⟩ ⟨Nat.le_refl _, Nat.le_refl _⟩ rfl hl.1 rfl (Nat.le_of_ble_eq_true rfl) dX0_countFreeBlocks_3 (fun H locs G => ?_)
  refine g_callS (As := [.int (blocksC st (-6))]) (rest := []) X kX0_40 (c_J6_bitCount_0f7a4 l E _ (blocksC st (-6))) G ⟨Nat.le_of_ble_eq_true rfl, Nat.le_of_ble_eq_true rfl⟩ ⟨Nat.le_refl _, Nat.le_refl _⟩ rfl hl.1 rfl (Nat.le_of_ble_eq_true rfl) dX0_countFreeBlocks_6 (fun H locs G => ?_)
  exact g_iret X hr G rfl rfl dX0_countFreeBlocks_9
set_option maxHeartbeats 4000000 in
set_option maxRecDepth 100000 in
theorem c_X1_endBinding (l : Launch) (E : EE) (a : Nat → Nat) (st : St) (w : va_W) (o : Nat) (ho : o < 16) : Cv l yX1_endBinding cX1_endBinding 2 2 E [.ref (a 0), .int (nI o)] (wB E a st w) (wB E a (endB o st) w) := by
  refine Cv_mk RX1 rfl (by decide +kernel) (Nat.le_of_ble_eq_true rfl) ?_
  intro p e s m below meth c A ls X hr G hl
  have hl : lv_has ls 2 [(0, .ref (a 0)), (1, .int (nI o))] := hl
  obtain ⟨hx, hb, hml, hown, hts, hK, hA, hlocks⟩ := id X
  refine lv_aload_n hx hb dX1_endBinding_0 rfl (lv_at hl 0 rfl) ?_
  refine g_get X G fX1_26 0 rfl rfl dX1_endBinding_1 ?_
  refine lv_iload_n hx hb dX1_endBinding_4 rfl (lv_at hl 1 rfl) ?_
  refine g_callVv (As := [.int (nI o)]) (rest := []) X kX1_154 (c_X0_unlend l E a st w o (by omega)) G 2 rfl rfl ⟨Nat.le_of_ble_eq_true rfl, Nat.le_of_ble_eq_true rfl⟩ ⟨Nat.le_refl _, Nat.le_refl _⟩ rfl hl.1 rfl (Nat.le_of_ble_eq_true rfl) dX1_endBinding_5 (fun H locs G => ?_)
  refine lv_aload_n hx hb dX1_endBinding_8 rfl (lv_at hl 0 rfl) ?_
  refine g_get X G fX1_33 0 rfl rfl dX1_endBinding_9 ?_
  refine lv_iload_n hx hb dX1_endBinding_12 rfl (lv_at hl 1 rfl) ?_
  refine g_callVv (As := [.int (nI o)]) (rest := []) X kX1_157 (c_X2_forgetAllOf l E a (sU st 1 o (-6)) w (nI o)) G 3 rfl rfl ⟨Nat.le_of_ble_eq_true rfl, Nat.le_of_ble_eq_true rfl⟩ ⟨Nat.le_refl _, Nat.le_refl _⟩ rfl hl.1 rfl (Nat.le_of_ble_eq_true rfl) dX1_endBinding_13 (fun H locs G => ?_)
  exact g_vret X hr G (congrArg (fun z => wB E a z w) (by rfl)) dX1_endBinding_16
set_option maxHeartbeats 4000000 in
set_option maxRecDepth 100000 in
theorem c_X1_endAll (l : Launch) (E : EE) (a : Nat → Nat) (st : St) (w : va_W) : Cv l yX1_endAll cX1_endAll 2 3 E [.ref (a 0)] (wB E a st w) (wB E a (endAllC st) w) := by
  refine Cv_mk RX1 rfl (by decide +kernel) (Nat.le_of_ble_eq_true rfl) ?_
  intro p e s m below meth c A ls X hr G hl
  have hl : lv_has ls 2 [(0, .ref (a 0))] := hl
  obtain ⟨hx, hb, hml, hown, hts, hK, hA, hlocks⟩ := id X
  refine lv_iconst (v := 0) hx hb dX1_endAll_0 (by decide) ?_
  refine lv_istore_n (lv' := [(1, .int 0), (0, .ref (a 0))]) hx hb dX1_endAll_1 rfl hl (by decide) rfl (fun ls hl => ?_)
  have LP2 : ∀ (n i : Nat) (sx : St) (H : Heap) (locs : List Loc) (ls : Array Slot), (i + n = 16) → (iF endB n i sx = endAllC st) → Gw E A s (wB E a sx w) H locs → lv_has ls 2 [(0, .ref (a 0)), (1, .int (nI i))] → W p l e (rmD 3) s m ([.ref (a 0)] : List Value).toArray below meth c H locs 0 0 (MQ below (CvQ E A (wB E a (endAllC st) w)) ([.ref (a 0)] : List Value).toArray s 0 0 A) (F0 m 2 ls []) := by
    intro n
    induction n with
    | zero =>
      intro i sx H locs ls hi hR G hl
      refine lv_iload_n hx hb dX1_endAll_2 rfl (lv_at hl 1 rfl) ?_
      refine lv_bipush (v := 16) hx hb dX1_endAll_3 (by decide) ?_
      refine n_cmp_ge (tgt := 19) i 16 rfl rfl (by omega) (by omega) hx hb dX1_endAll_5 (by decide) (fun c1 => ?_) (fun c1 => ?_)
      · skip
        exact g_vret X hr G (congrArg (fun z => wB E a z w) (by rw [← hR]; rfl)) dX1_endAll_19
      · skip
        exact absurd c1 (by omega)
    | succ n ih2 =>
      intro i sx H locs ls hi hR G hl
      refine lv_iload_n hx hb dX1_endAll_2 rfl (lv_at hl 1 rfl) ?_
      refine lv_bipush (v := 16) hx hb dX1_endAll_3 (by decide) ?_
      refine n_cmp_ge (tgt := 19) i 16 rfl rfl (by omega) (by omega) hx hb dX1_endAll_5 (by decide) (fun c2 => ?_) (fun c2 => ?_)
      · skip
        exact absurd c2 (by omega)
      · skip
        refine lv_aload_n hx hb dX1_endAll_8 rfl (lv_at hl 0 rfl) ?_
        refine lv_iload_n hx hb dX1_endAll_9 rfl (lv_at hl 1 rfl) ?_
        refine g_callVv (As := [.int (nI i)]) (rest := []) X kX1_148 (c_X1_endBinding l E a sx w i (by omega)) G 0 rfl rfl ⟨Nat.le_of_ble_eq_true rfl, Nat.le_of_ble_eq_true rfl⟩ ⟨Nat.le_refl _, Nat.le_refl _⟩ rfl hl.1 rfl (Nat.le_of_ble_eq_true rfl) dX1_endAll_10 (fun H locs G => ?_)
        refine lv_iinc (v := nI (i + 1)) (lv' := [(1, .int (nI (i + 1))), (0, .ref (a 0))]) hx hb dX1_endAll_13 hl (k := 1) rfl (nI_inc _) (by decide) rfl (fun ls hl => ?_)
        refine lv_goto (tgt := 2) hx hb dX1_endAll_16 (by decide) ?_
        exact ih2 (i + 1) (endB i sx) _ _ ls (by omega) (by rw [← hR]; rfl) G (lv_sub hl [1, 0] rfl)
  exact LP2 16 0 st _ _ ls (by omega) rfl G (lv_sub hl [1, 0] rfl)
set_option maxHeartbeats 4000000 in
set_option maxRecDepth 100000 in
theorem c_X1_lifeOf (l : Launch) (E : EE) (a : Nat → Nat) (st : St) (w : va_W) (o : Nat) (ho : o < 16) : Ct l yX1_lifeOf cX1_lifeOf 2 (some .int) 0 E [.ref (a 0), .int (nI o)] (wB E a st w) (lifeC st o) (wB E a st w) := by
  refine Ct_mk RX1 rfl (by decide +kernel) (Nat.le_of_ble_eq_true rfl) ?_
  intro p e s m below meth c A ls X hr G hl
  have hl : lv_has ls 2 [(0, .ref (a 0)), (1, .int (nI o))] := hl
  obtain ⟨hx, hb, hml, hown, hts, hK, hA, hlocks⟩ := id X
  refine lv_aload_n hx hb dX1_lifeOf_0 rfl (lv_at hl 0 rfl) ?_
  refine g_get X G fX1_26 0 rfl rfl dX1_lifeOf_1 ?_
  refine g_get X G fX1_63 2 rfl rfl dX1_lifeOf_4 ?_
  refine lv_iload_n hx hb dX1_lifeOf_7 rfl (lv_at hl 1 rfl) ?_
  refine g_iald (j := o) X G 5 rfl rfl (by omega) (by decide) dX1_lifeOf_8 ?_
  by_cases c1 : (st 2 o) = 0
  · skip
    refine lv_lookup (off := 27) (tgt := 36) hx hb dX1_lifeOf_9 (by decide) (by rw [c1]; decide) (by decide) ?_
    refine lv_aload_n hx hb dX1_lifeOf_36 rfl (lv_at hl 0 rfl) ?_
    refine g_get X G fX1_18 0 rfl rfl dX1_lifeOf_37 ?_
    refine lv_iconst (v := 3) hx hb dX1_lifeOf_40 (by decide) ?_
    refine g_iald (j := 3) X G 1 rfl rfl (by omega) (by decide) dX1_lifeOf_41 ?_
    exact g_iret X hr G rfl (by simp [lifeC, c1]) dX1_lifeOf_42
  by_cases c2 : (st 2 o) = 1
  · skip
    refine lv_lookup (off := 34) (tgt := 43) hx hb dX1_lifeOf_9 (by decide) (by rw [c2]; decide) (by decide) ?_
    refine lv_aload_n hx hb dX1_lifeOf_43 rfl (lv_at hl 0 rfl) ?_
    refine g_get X G fX1_18 0 rfl rfl dX1_lifeOf_44 ?_
    refine lv_iconst (v := 4) hx hb dX1_lifeOf_47 (by decide) ?_
    refine g_iald (j := 4) X G 1 rfl rfl (by omega) (by decide) dX1_lifeOf_48 ?_
    exact g_iret X hr G rfl (by simp [lifeC, c1, c2]) dX1_lifeOf_49
  refine lv_lookup (off := 41) (tgt := 50) hx hb dX1_lifeOf_9 (by decide) (by show Op.lookupswitch.offset [(0, 27), (1, 34)] 41 _ = _; rw [lv_osw c1 (by decide)]; rw [lv_osw c2 (by decide)]; rfl) (by decide) ?_
  refine lv_aload_n hx hb dX1_lifeOf_50 rfl (lv_at hl 0 rfl) ?_
  refine g_get X G fX1_18 0 rfl rfl dX1_lifeOf_51 ?_
  refine lv_iconst (v := 5) hx hb dX1_lifeOf_54 (by decide) ?_
  refine g_iald (j := 5) X G 1 rfl rfl (by omega) (by decide) dX1_lifeOf_55 ?_
  exact g_iret X hr G rfl (by simp [lifeC, c1, c2]) dX1_lifeOf_56
set_option maxHeartbeats 4000000 in
set_option maxRecDepth 100000 in
theorem c_X1_ticksLeft (l : Launch) (E : EE) (a : Nat → Nat) (st : St) (w : va_W) (o : Nat) (ho : o < 16) : Ct l yX1_ticksLeft cX1_ticksLeft 2 (some .int) 1 E [.ref (a 0), .int (nI o)] (wB E a st w) (leftC st o) (wB E a st w) := by
  refine Ct_mk RX1 rfl (by decide +kernel) (Nat.le_of_ble_eq_true rfl) ?_
  intro p e s m below meth c A ls X hr G hl
  have hl : lv_has ls 2 [(0, .ref (a 0)), (1, .int (nI o))] := hl
  obtain ⟨hx, hb, hml, hown, hts, hK, hA, hlocks⟩ := id X
  refine lv_aload_n hx hb dX1_ticksLeft_0 rfl (lv_at hl 0 rfl) ?_
  refine g_get X G fX1_26 0 rfl rfl dX1_ticksLeft_1 ?_
  refine g_get X G fX1_60 2 rfl rfl dX1_ticksLeft_4 ?_
  refine lv_iload_n hx hb dX1_ticksLeft_7 rfl (lv_at hl 1 rfl) ?_
  refine g_iald (j := o) X G 6 rfl rfl (by omega) (by decide) dX1_ticksLeft_8 ?_
  refine lv_aload_n hx hb dX1_ticksLeft_9 rfl (lv_at hl 0 rfl) ?_
  refine lv_iload_n hx hb dX1_ticksLeft_10 rfl (lv_at hl 1 rfl) ?_
  refine g_callV (As := [.int (nI o)]) (rest := [.int (st 3 o)]) X kX1_145 (c_X1_lifeOf l E a st w o (by omega)) G 0 rfl rfl ⟨Nat.le_of_ble_eq_true rfl, Nat.le_of_ble_eq_true rfl⟩ ⟨Nat.le_refl _, Nat.le_refl _⟩ rfl hl.1 rfl (Nat.le_of_ble_eq_true rfl) dX1_ticksLeft_11 (fun H locs G => ?_)
  refine lv_iadd hx hb dX1_ticksLeft_14 ?_
  refine lv_aload_n hx hb dX1_ticksLeft_15 rfl (lv_at hl 0 rfl) ?_
  refine g_get X G fX1_37 0 rfl rfl dX1_ticksLeft_16 ?_
  refine lv_isub hx hb dX1_ticksLeft_19 ?_
  exact g_iret X hr G rfl (by rfl) dX1_ticksLeft_20
set_option maxHeartbeats 4000000 in
set_option maxRecDepth 100000 in
theorem c_X1_endLapsed (l : Launch) (E : EE) (a : Nat → Nat) (st : St) (w : va_W) : Ct l yX1_endLapsed cX1_endLapsed 3 (some .int) 3 E [.ref (a 0)] (wB E a st w) (nI ((endLapC st).2)) (wB E a ((endLapC st).1) w) := by
  refine Ct_mk RX1 rfl (by decide +kernel) (Nat.le_of_ble_eq_true rfl) ?_
  intro p e s m below meth c A ls X hr G hl
  have hl : lv_has ls 3 [(0, .ref (a 0))] := hl
  obtain ⟨hx, hb, hml, hown, hts, hK, hA, hlocks⟩ := id X
  refine lv_iconst (v := 0) hx hb dX1_endLapsed_0 (by decide) ?_
  refine lv_istore_n (lv' := [(1, .int 0), (0, .ref (a 0))]) hx hb dX1_endLapsed_1 rfl hl (by decide) rfl (fun ls hl => ?_)
  refine lv_iconst (v := 0) hx hb dX1_endLapsed_2 (by decide) ?_
  refine lv_istore_n (lv' := [(2, .int 0), (1, .int 0), (0, .ref (a 0))]) hx hb dX1_endLapsed_3 rfl hl (by decide) rfl (fun ls hl => ?_)
  have LP4 : ∀ (n i : Nat) (sx : St) (z : Nat) (H : Heap) (locs : List Loc) (ls : Array Slot), (i + n = 16) → (iF lapS n i (sx, z) = endLapC st) → Gw E A s (wB E a sx w) H locs → lv_has ls 3 [(0, .ref (a 0)), (1, .int (nI z)), (2, .int (nI i))] → W p l e (rmD 3) s m ([.ref (a 0)] : List Value).toArray below meth c H locs 0 0 (MQ below (CtQ E A (nI ((endLapC st).2)) (wB E a ((endLapC st).1) w)) ([.ref (a 0)] : List Value).toArray s 0 0 A) (F0 m 4 ls []) := by
    intro n
    induction n with
    | zero =>
      intro i sx z H locs ls hi hR G hl
      refine lv_iload_n hx hb dX1_endLapsed_4 rfl (lv_at hl 2 rfl) ?_
      refine lv_bipush (v := 16) hx hb dX1_endLapsed_5 (by decide) ?_
      refine n_cmp_ge (tgt := 43) i 16 rfl rfl (by omega) (by omega) hx hb dX1_endLapsed_7 (by decide) (fun c1 => ?_) (fun c1 => ?_)
      · skip
        refine lv_iload_n hx hb dX1_endLapsed_43 rfl (lv_at hl 1 rfl) ?_
        exact g_iret X hr G (congrArg (fun z => wB E a z w) (by rw [← hR]; rfl)) (by rw [← hR]; rfl) dX1_endLapsed_44
      · skip
        exact absurd c1 (by omega)
    | succ n ih4 =>
      intro i sx z H locs ls hi hR G hl
      refine lv_iload_n hx hb dX1_endLapsed_4 rfl (lv_at hl 2 rfl) ?_
      refine lv_bipush (v := 16) hx hb dX1_endLapsed_5 (by decide) ?_
      refine n_cmp_ge (tgt := 43) i 16 rfl rfl (by omega) (by omega) hx hb dX1_endLapsed_7 (by decide) (fun c2 => ?_) (fun c2 => ?_)
      · skip
        exact absurd c2 (by omega)
      · skip
        refine lv_aload_n hx hb dX1_endLapsed_10 rfl (lv_at hl 0 rfl) ?_
        refine g_get X G fX1_26 0 rfl rfl dX1_endLapsed_11 ?_
        refine lv_iload_n hx hb dX1_endLapsed_14 rfl (lv_at hl 2 rfl) ?_
        refine g_callV (As := [.int (nI i)]) (rest := []) X kX1_80 (c_X0_isLent l E a sx w i (by omega)) G 2 rfl rfl ⟨Nat.le_of_ble_eq_true rfl, Nat.le_of_ble_eq_true rfl⟩ ⟨Nat.le_refl _, Nat.le_refl _⟩ rfl hl.1 rfl (Nat.le_of_ble_eq_true rfl) dX1_endLapsed_15 (fun H locs G => ?_)
        refine b_ifeq (tgt := 37) hx hb dX1_endLapsed_18 (by decide) (fun c3 => ?_) (fun c3 => ?_)
        · skip
          refine lv_iinc (v := nI (i + 1)) (lv' := [(2, .int (nI (i + 1))), (0, .ref (a 0)), (1, .int (nI z))]) hx hb dX1_endLapsed_37 hl (k := 2) rfl (nI_inc _) (by decide) rfl (fun ls hl => ?_)
          refine lv_goto (tgt := 4) hx hb dX1_endLapsed_40 (by decide) ?_
          exact ih4 (i + 1) sx z _ _ ls (by omega) (by rw [← hR]; simp [iF, lapS, c2, c3]) G (lv_sub hl [1, 2, 0] rfl)
        · skip
          refine lv_aload_n hx hb dX1_endLapsed_21 rfl (lv_at hl 0 rfl) ?_
          refine lv_iload_n hx hb dX1_endLapsed_22 rfl (lv_at hl 2 rfl) ?_
          refine g_callV (As := [.int (nI i)]) (rest := []) X kX1_124 (c_X1_ticksLeft l E a sx w i (by omega)) G 0 rfl rfl ⟨Nat.le_of_ble_eq_true rfl, Nat.le_of_ble_eq_true rfl⟩ ⟨Nat.le_refl _, Nat.le_refl _⟩ rfl hl.1 rfl (Nat.le_of_ble_eq_true rfl) dX1_endLapsed_23 (fun H locs G => ?_)
          refine lv_if_gt (tgt := 37) hx hb dX1_endLapsed_26 (by decide) (fun c4 => ?_) (fun c4 => ?_)
          · skip
            refine lv_iinc (v := nI (i + 1)) (lv' := [(2, .int (nI (i + 1))), (0, .ref (a 0)), (1, .int (nI z))]) hx hb dX1_endLapsed_37 hl (k := 2) rfl (nI_inc _) (by decide) rfl (fun ls hl => ?_)
            refine lv_goto (tgt := 4) hx hb dX1_endLapsed_40 (by decide) ?_
            exact ih4 (i + 1) sx z _ _ ls (by omega) (by rw [← hR]; simp [iF, lapS, c2, c3, c4]) G (lv_sub hl [1, 2, 0] rfl)
          · skip
            refine lv_aload_n hx hb dX1_endLapsed_29 rfl (lv_at hl 0 rfl) ?_
            refine lv_iload_n hx hb dX1_endLapsed_30 rfl (lv_at hl 2 rfl) ?_
            refine g_callVv (As := [.int (nI i)]) (rest := []) X kX1_148 (c_X1_endBinding l E a sx w i (by omega)) G 0 rfl rfl ⟨Nat.le_of_ble_eq_true rfl, Nat.le_of_ble_eq_true rfl⟩ ⟨Nat.le_refl _, Nat.le_refl _⟩ rfl hl.1 rfl (Nat.le_of_ble_eq_true rfl) dX1_endLapsed_31 (fun H locs G => ?_)
            refine lv_iinc (v := nI (z + 1)) (lv' := [(1, .int (nI (z + 1))), (0, .ref (a 0)), (2, .int (nI i))]) hx hb dX1_endLapsed_34 hl (k := 1) rfl (nI_inc _) (by decide) rfl (fun ls hl => ?_)
            refine lv_iinc (v := nI (i + 1)) (lv' := [(2, .int (nI (i + 1))), (1, .int (nI (z + 1))), (0, .ref (a 0))]) hx hb dX1_endLapsed_37 hl (k := 2) rfl (nI_inc _) (by decide) rfl (fun ls hl => ?_)
            refine lv_goto (tgt := 4) hx hb dX1_endLapsed_40 (by decide) ?_
            exact ih4 (i + 1) (endB i sx) (z + 1) _ _ ls (by omega) (by rw [← hR]; simp [iF, lapS, c2, c3, c4]) G (lv_sub hl [2, 1, 0] rfl)
  exact LP4 16 0 st 0 _ _ ls (by omega) rfl G (lv_sub hl [2, 1, 0] rfl)
set_option maxHeartbeats 4000000 in
set_option maxRecDepth 100000 in
theorem c_X1_setRule (l : Launch) (E : EE) (a : Nat → Nat) (st : St) (w : va_W) (what : Nat) (hwhat : what < 6) (v : Int32) : Ct l yX1_setRule cX1_setRule 4 (some .int) 4 E [.ref (a 0), .int (nI what), .int v] (wB E a st w) (st 0 what) (wB E a (setRuleC st what v) w) := by
  refine Ct_mk RX1 rfl (by decide +kernel) (Nat.le_of_ble_eq_true rfl) ?_
  intro p e s m below meth c A ls X hr G hl
  have hl : lv_has ls 4 [(0, .ref (a 0)), (1, .int (nI what)), (2, .int v)] := hl
  obtain ⟨hx, hb, hml, hown, hts, hK, hA, hlocks⟩ := id X
  refine lv_aload_n hx hb dX1_setRule_0 rfl (lv_at hl 0 rfl) ?_
  refine g_get X G fX1_18 0 rfl rfl dX1_setRule_1 ?_
  refine lv_iload_n hx hb dX1_setRule_4 rfl (lv_at hl 1 rfl) ?_
  refine g_iald (j := what) X G 1 rfl rfl (by omega) (by decide) dX1_setRule_5 ?_
  refine lv_istore_n (lv' := [(3, .int (st 0 what)), (0, .ref (a 0)), (1, .int (nI what)), (2, .int v)]) hx hb dX1_setRule_6 rfl hl (by decide) rfl (fun ls hl => ?_)
  refine lv_aload_n hx hb dX1_setRule_7 rfl (lv_at hl 1 rfl) ?_
  refine g_get X G fX1_18 0 rfl rfl dX1_setRule_8 ?_
  refine lv_iload_n hx hb dX1_setRule_11 rfl (lv_at hl 2 rfl) ?_
  refine lv_iload_n hx hb dX1_setRule_12 rfl (lv_at hl 3 rfl) ?_
  refine g_iast (j := what) X G 1 rfl rfl (by omega) (by decide) dX1_setRule_13 (fun H locs G => ?_)
  have G : Gw E A s (wB E a (sU st 0 what v) w) H locs := G
  refine lv_iload_n hx hb dX1_setRule_14 rfl (lv_at hl 2 rfl) ?_
  refine n_if_ne (tgt := 27) what rfl (by omega) hx hb dX1_setRule_15 (by decide) (fun c1 => ?_) (fun c1 => ?_)
  · skip
    refine lv_aload_n hx hb dX1_setRule_27 rfl (lv_at hl 1 rfl) ?_
    refine g_callV (As := []) (rest := []) X kX1_44 (c_X1_endLapsed l E a (sU st 0 what v) w) G 0 rfl rfl ⟨Nat.le_of_ble_eq_true rfl, Nat.le_of_ble_eq_true rfl⟩ ⟨Nat.le_refl _, Nat.le_refl _⟩ rfl hl.1 rfl (Nat.le_of_ble_eq_true rfl) dX1_setRule_28 (fun H locs G => ?_)
    refine lv_pop hx hb dX1_setRule_31 rfl ?_
    refine lv_iload_n hx hb dX1_setRule_32 rfl (lv_at hl 0 rfl) ?_
    exact g_iret X hr G (congrArg (fun z => wB E a z w) (by clear G hl X hr hK hts; simp_all [setRuleC])) rfl dX1_setRule_33
  · skip
    refine lv_iload_n hx hb dX1_setRule_18 rfl (lv_at hl 3 rfl) ?_
    refine lv_iload_n hx hb dX1_setRule_19 rfl (lv_at hl 0 rfl) ?_
    refine lv_icmp_eq (tgt := 27) hx hb dX1_setRule_20 (by decide) (fun c2 => ?_) (fun c2 => ?_)
    · skip
      refine lv_aload_n hx hb dX1_setRule_27 rfl (lv_at hl 1 rfl) ?_
      refine g_callV (As := []) (rest := []) X kX1_44 (c_X1_endLapsed l E a (sU st 0 what v) w) G 0 rfl rfl ⟨Nat.le_of_ble_eq_true rfl, Nat.le_of_ble_eq_true rfl⟩ ⟨Nat.le_refl _, Nat.le_refl _⟩ rfl hl.1 rfl (Nat.le_of_ble_eq_true rfl) dX1_setRule_28 (fun H locs G => ?_)
      refine lv_pop hx hb dX1_setRule_31 rfl ?_
      refine lv_iload_n hx hb dX1_setRule_32 rfl (lv_at hl 0 rfl) ?_
      exact g_iret X hr G (congrArg (fun z => wB E a z w) (by clear G hl X hr hK hts; simp_all [setRuleC])) rfl dX1_setRule_33
    · skip
      refine lv_aload_n hx hb dX1_setRule_23 rfl (lv_at hl 1 rfl) ?_
      refine g_callVv (As := []) (rest := []) X kX1_41 (c_X1_endAll l E a (sU st 0 what v) w) G 0 rfl rfl ⟨Nat.le_of_ble_eq_true rfl, Nat.le_of_ble_eq_true rfl⟩ ⟨Nat.le_refl _, Nat.le_refl _⟩ rfl hl.1 rfl (Nat.le_of_ble_eq_true rfl) dX1_setRule_24 (fun H locs G => ?_)
      refine lv_aload_n hx hb dX1_setRule_27 rfl (lv_at hl 1 rfl) ?_
      refine g_callV (As := []) (rest := []) X kX1_44 (c_X1_endLapsed l E a (endAllC (sU st 0 what v)) w) G 0 rfl rfl ⟨Nat.le_of_ble_eq_true rfl, Nat.le_of_ble_eq_true rfl⟩ ⟨Nat.le_refl _, Nat.le_refl _⟩ rfl hl.1 rfl (Nat.le_of_ble_eq_true rfl) dX1_setRule_28 (fun H locs G => ?_)
      refine lv_pop hx hb dX1_setRule_31 rfl ?_
      refine lv_iload_n hx hb dX1_setRule_32 rfl (lv_at hl 0 rfl) ?_
      exact g_iret X hr G (congrArg (fun z => wB E a z w) (by clear G hl X hr hK hts; simp_all [setRuleC])) rfl dX1_setRule_33
set_option maxHeartbeats 4000000 in
set_option maxRecDepth 100000 in
theorem c_X1_isFit (l : Launch) (E : EE) (a : Nat → Nat) (st : St) (w : va_W) (o : Nat) (ho : o < 16) (port : Nat) (hport : port < 32) : Ct l yX1_isFit cX1_isFit 3 (some .boolean) 1 E [.ref (a 0), .int (nI o), .int (nI port)] (wB E a st w) (bI (fitC st o port)) (wB E a st w) := by
  refine Ct_mk RX1 rfl (by decide +kernel) (Nat.le_of_ble_eq_true rfl) ?_
  intro p e s m below meth c A ls X hr G hl
  have hl : lv_has ls 3 [(0, .ref (a 0)), (1, .int (nI o)), (2, .int (nI port))] := hl
  obtain ⟨hx, hb, hml, hown, hts, hK, hA, hlocks⟩ := id X
  refine lv_aload_n hx hb dX1_isFit_0 rfl (lv_at hl 0 rfl) ?_
  refine g_get X G fX1_26 0 rfl rfl dX1_isFit_1 ?_
  refine lv_iload_n hx hb dX1_isFit_4 rfl (lv_at hl 1 rfl) ?_
  refine g_callV (As := [.int (nI o)]) (rest := []) X kX1_80 (c_X0_isLent l E a st w o (by omega)) G 2 rfl rfl ⟨Nat.le_of_ble_eq_true rfl, Nat.le_of_ble_eq_true rfl⟩ ⟨Nat.le_refl _, Nat.le_refl _⟩ rfl hl.1 rfl (Nat.le_of_ble_eq_true rfl) dX1_isFit_5 (fun H locs G => ?_)
  refine b_ifne (tgt := 33) hx hb dX1_isFit_8 (by decide) (fun c1 => ?_) (fun c1 => ?_)
  · skip
    refine lv_iconst (v := 0) hx hb dX1_isFit_33 (by decide) ?_
    exact g_ret X hr rfl G rfl (by simp [fitC, bI, c1]) dX1_isFit_34
  · skip
    refine lv_aload_n hx hb dX1_isFit_11 rfl (lv_at hl 0 rfl) ?_
    refine g_get X G fX1_18 0 rfl rfl dX1_isFit_12 ?_
    refine lv_iconst (v := 2) hx hb dX1_isFit_15 (by decide) ?_
    refine g_iald (j := 2) X G 1 rfl rfl (by omega) (by decide) dX1_isFit_16 ?_
    refine lv_if_eq (tgt := 29) hx hb dX1_isFit_17 (by decide) (fun c2 => ?_) (fun c2 => ?_)
    · skip
      refine lv_iconst (v := 1) hx hb dX1_isFit_29 (by decide) ?_
      refine lv_goto (tgt := 34) hx hb dX1_isFit_30 (by decide) ?_
      exact g_ret X hr rfl G rfl (by simp [fitC, bI, c1, c2]) dX1_isFit_34
    · skip
      refine lv_iload_n hx hb dX1_isFit_20 rfl (lv_at hl 1 rfl) ?_
      refine lv_iconst (v := 2) hx hb dX1_isFit_21 (by decide) ?_
      refine n_irem o 2 rfl rfl (by omega) (by decide) (by decide) hx hb dX1_isFit_22 ?_
      refine lv_iload_n hx hb dX1_isFit_23 rfl (lv_at hl 2 rfl) ?_
      refine lv_iconst (v := 2) hx hb dX1_isFit_24 (by decide) ?_
      refine n_irem port 2 rfl rfl (by omega) (by decide) (by decide) hx hb dX1_isFit_25 ?_
      refine n_cmp_ne (tgt := 33) (o % 2) (port % 2) rfl rfl (by omega) (by omega) hx hb dX1_isFit_26 (by decide) (fun c3 => ?_) (fun c3 => ?_)
      · skip
        refine lv_iconst (v := 0) hx hb dX1_isFit_33 (by decide) ?_
        exact g_ret X hr rfl G rfl (by simp [fitC, bI, c1, c2, c3]) dX1_isFit_34
      · skip
        refine lv_iconst (v := 1) hx hb dX1_isFit_29 (by decide) ?_
        refine lv_goto (tgt := 34) hx hb dX1_isFit_30 (by decide) ?_
        exact g_ret X hr rfl G rfl (by simp [fitC, bI, c1, c2, c3]) dX1_isFit_34
set_option maxHeartbeats 4000000 in
set_option maxRecDepth 100000 in
theorem c_X1_leastFitOfHolder (l : Launch) (E : EE) (a : Nat → Nat) (st : St) (w : va_W) (h : Int32) (port : Nat) (hport : port < 32) : Ct l yX1_leastFitOfHolder cX1_leastFitOfHolder 4 (some .int) 3 E [.ref (a 0), .int h, .int (nI port)] (wB E a st w) (oI (lfhF st h port)) (wB E a st w) := by
  refine Ct_mk RX1 rfl (by decide +kernel) (Nat.le_of_ble_eq_true rfl) ?_
  intro p e s m below meth c A ls X hr G hl
  have hl : lv_has ls 4 [(0, .ref (a 0)), (1, .int h), (2, .int (nI port))] := hl
  obtain ⟨hx, hb, hml, hown, hts, hK, hA, hlocks⟩ := id X
  refine lv_iconst (v := 0) hx hb dX1_leastFitOfHolder_0 (by decide) ?_
  refine lv_istore_n (lv' := [(3, .int 0), (0, .ref (a 0)), (1, .int h), (2, .int (nI port))]) hx hb dX1_leastFitOfHolder_1 rfl hl (by decide) rfl (fun ls hl => ?_)
  have LP2 : ∀ (n i : Nat)  (H : Heap) (locs : List Loc) (ls : Array Slot), (i + n = 16) → (oI (fF (lfhP st h port) n i) = oI (lfhF st h port)) → Gw E A s (wB E a st w) H locs → lv_has ls 4 [(0, .ref (a 0)), (1, .int h), (2, .int (nI port)), (3, .int (nI i))] → W p l e (rmD 3) s m ([.ref (a 0), .int h, .int (nI port)] : List Value).toArray below meth c H locs 0 0 (MQ below (CtQ E A (oI (lfhF st h port)) (wB E a st w)) ([.ref (a 0), .int h, .int (nI port)] : List Value).toArray s 0 0 A) (F0 m 2 ls []) := by
    intro n
    induction n with
    | zero =>
      intro i  H locs ls hi hR G hl
      refine lv_iload_n hx hb dX1_leastFitOfHolder_2 rfl (lv_at hl 3 rfl) ?_
      refine lv_bipush (v := 16) hx hb dX1_leastFitOfHolder_3 (by decide) ?_
      refine n_cmp_ge (tgt := 39) i 16 rfl rfl (by omega) (by omega) hx hb dX1_leastFitOfHolder_5 (by decide) (fun c1 => ?_) (fun c1 => ?_)
      · skip
        refine lv_bipush (v := (-6)) hx hb dX1_leastFitOfHolder_39 (by decide) ?_
        exact g_iret X hr G rfl (by rw [← hR]; simp [fF, lfhP, oI, c1]) dX1_leastFitOfHolder_41
      · skip
        exact absurd c1 (by omega)
    | succ n ih2 =>
      intro i  H locs ls hi hR G hl
      refine lv_iload_n hx hb dX1_leastFitOfHolder_2 rfl (lv_at hl 3 rfl) ?_
      refine lv_bipush (v := 16) hx hb dX1_leastFitOfHolder_3 (by decide) ?_
      refine n_cmp_ge (tgt := 39) i 16 rfl rfl (by omega) (by omega) hx hb dX1_leastFitOfHolder_5 (by decide) (fun c2 => ?_) (fun c2 => ?_)
      · skip
        exact absurd c2 (by omega)
      · skip
        refine lv_aload_n hx hb dX1_leastFitOfHolder_8 rfl (lv_at hl 0 rfl) ?_
        refine g_get X G fX1_26 0 rfl rfl dX1_leastFitOfHolder_9 ?_
        refine lv_iload_n hx hb dX1_leastFitOfHolder_12 rfl (lv_at hl 3 rfl) ?_
        refine lv_iconst (v := 4) hx hb dX1_leastFitOfHolder_13 (by decide) ?_
        refine n_idiv i 4 rfl rfl (by omega) (by decide) (by decide) hx hb dX1_leastFitOfHolder_14 ?_
        refine g_callV (As := [.int (nI (i / 4))]) (rest := []) X kX1_118 (c_X0_holderOf l E a st w (i / 4) (by omega)) G 2 rfl rfl ⟨Nat.le_of_ble_eq_true rfl, Nat.le_of_ble_eq_true rfl⟩ ⟨Nat.le_refl _, Nat.le_refl _⟩ rfl hl.1 rfl (Nat.le_of_ble_eq_true rfl) dX1_leastFitOfHolder_15 (fun H locs G => ?_)
        refine lv_iload_n hx hb dX1_leastFitOfHolder_18 rfl (lv_at hl 1 rfl) ?_
        refine lv_icmp_ne (tgt := 33) hx hb dX1_leastFitOfHolder_19 (by decide) (fun c3 => ?_) (fun c3 => ?_)
        · skip
          refine lv_iinc (v := nI (i + 1)) (lv' := [(3, .int (nI (i + 1))), (0, .ref (a 0)), (1, .int h), (2, .int (nI port))]) hx hb dX1_leastFitOfHolder_33 hl (k := 3) rfl (nI_inc _) (by decide) rfl (fun ls hl => ?_)
          refine lv_goto (tgt := 2) hx hb dX1_leastFitOfHolder_36 (by decide) ?_
          exact ih2 (i + 1)  _ _ ls (by omega) (by rw [← hR]; simp [fF, lfhP, c2, c3]) G (lv_sub hl [1, 2, 3, 0] rfl)
        · skip
          refine lv_aload_n hx hb dX1_leastFitOfHolder_22 rfl (lv_at hl 0 rfl) ?_
          refine lv_iload_n hx hb dX1_leastFitOfHolder_23 rfl (lv_at hl 3 rfl) ?_
          refine lv_iload_n hx hb dX1_leastFitOfHolder_24 rfl (lv_at hl 2 rfl) ?_
          refine g_callV (As := [.int (nI i), .int (nI port)]) (rest := []) X kX1_115 (c_X1_isFit l E a st w i (by omega) port (by omega)) G 0 rfl rfl ⟨Nat.le_of_ble_eq_true rfl, Nat.le_of_ble_eq_true rfl⟩ ⟨Nat.le_refl _, Nat.le_refl _⟩ rfl hl.1 rfl (Nat.le_of_ble_eq_true rfl) dX1_leastFitOfHolder_25 (fun H locs G => ?_)
          refine b_ifeq (tgt := 33) hx hb dX1_leastFitOfHolder_28 (by decide) (fun c4 => ?_) (fun c4 => ?_)
          · skip
            refine lv_iinc (v := nI (i + 1)) (lv' := [(3, .int (nI (i + 1))), (0, .ref (a 0)), (1, .int h), (2, .int (nI port))]) hx hb dX1_leastFitOfHolder_33 hl (k := 3) rfl (nI_inc _) (by decide) rfl (fun ls hl => ?_)
            refine lv_goto (tgt := 2) hx hb dX1_leastFitOfHolder_36 (by decide) ?_
            exact ih2 (i + 1)  _ _ ls (by omega) (by rw [← hR]; simp [fF, lfhP, c2, c3, c4]) G (lv_sub hl [1, 2, 3, 0] rfl)
          · skip
            refine lv_iload_n hx hb dX1_leastFitOfHolder_31 rfl (lv_at hl 3 rfl) ?_
            exact g_iret X hr G rfl (by rw [← hR]; simp [fF, lfhP, oI, c2, c3, c4]) dX1_leastFitOfHolder_32
  exact LP2 16 0  _ _ ls (by omega) rfl G (lv_sub hl [1, 2, 3, 0] rfl)
set_option maxHeartbeats 4000000 in
set_option maxRecDepth 100000 in
theorem c_X1_choose (l : Launch) (E : EE) (a : Nat → Nat) (st : St) (w : va_W) (h : Int32) (port : Nat) (hport : port < 32) : Ct l yX1_choose cX1_choose 6 (some .int) 4 E [.ref (a 0), .int h, .int (nI port)] (wB E a st w) (oI (chooseC st h port)) (wB E a st w) := by
  refine Ct_mk RX1 rfl (by decide +kernel) (Nat.le_of_ble_eq_true rfl) ?_
  intro p e s m below meth c A ls X hr G hl
  have hl : lv_has ls 6 [(0, .ref (a 0)), (1, .int h), (2, .int (nI port))] := hl
  obtain ⟨hx, hb, hml, hown, hts, hK, hA, hlocks⟩ := id X
  refine lv_iload_n hx hb dX1_choose_0 rfl (lv_at hl 2 rfl) ?_
  refine lv_bipush (v := 16) hx hb dX1_choose_1 (by decide) ?_
  refine n_irem port 16 rfl rfl (by omega) (by decide) (by decide) hx hb dX1_choose_3 ?_
  refine lv_istore_n (lv' := [(3, .int (nI (port % 16))), (0, .ref (a 0)), (1, .int h), (2, .int (nI port))]) hx hb dX1_choose_4 rfl hl (by decide) rfl (fun ls hl => ?_)
  refine lv_iload_n hx hb dX1_choose_5 rfl (lv_at hl 0 rfl) ?_
  refine lv_iconst (v := 4) hx hb dX1_choose_6 (by decide) ?_
  refine n_idiv (port % 16) 4 rfl rfl (by omega) (by decide) (by decide) hx hb dX1_choose_7 ?_
  refine lv_istore (lv' := [(4, .int (nI ((port % 16) / 4))), (3, .int (nI (port % 16))), (0, .ref (a 0)), (1, .int h), (2, .int (nI port))]) hx hb dX1_choose_8 hl (by decide) rfl (fun ls hl => ?_)
  refine lv_aload_n hx hb dX1_choose_10 rfl (lv_at hl 2 rfl) ?_
  refine lv_iload_n hx hb dX1_choose_11 rfl (lv_at hl 1 rfl) ?_
  refine lv_iload_n hx hb dX1_choose_12 rfl (lv_at hl 4 rfl) ?_
  refine g_callV (As := [.int (nI (port % 16)), .int (nI port)]) (rest := []) X kX1_115 (c_X1_isFit l E a st w (port % 16) (by omega) port (by omega)) G 0 rfl rfl ⟨Nat.le_of_ble_eq_true rfl, Nat.le_of_ble_eq_true rfl⟩ ⟨Nat.le_refl _, Nat.le_refl _⟩ rfl hl.1 rfl (Nat.le_of_ble_eq_true rfl) dX1_choose_13 (fun H locs G => ?_)
  refine b_ifeq (tgt := 34) hx hb dX1_choose_16 (by decide) (fun c1 => ?_) (fun c1 => ?_)
  · skip
    refine lv_aload_n hx hb dX1_choose_34 rfl (lv_at hl 2 rfl) ?_
    refine lv_iload_n hx hb dX1_choose_35 rfl (lv_at hl 3 rfl) ?_
    refine lv_iload_n hx hb dX1_choose_36 rfl (lv_at hl 4 rfl) ?_
    refine g_callV (As := [.int h, .int (nI port)]) (rest := []) X kX1_121 (c_X1_leastFitOfHolder l E a st w h port (by omega)) G 0 rfl rfl ⟨Nat.le_of_ble_eq_true rfl, Nat.le_of_ble_eq_true rfl⟩ ⟨Nat.le_refl _, Nat.le_refl _⟩ rfl hl.1 rfl (Nat.le_of_ble_eq_true rfl) dX1_choose_37 (fun H locs G => ?_)
    refine o_split (fun c3 => ?_) (fun j2 c4 => ?_)
    · skip
      refine lv_istore (lv' := [(5, .int (-6)), (4, .int (nI ((port % 16) / 4))), (3, .int (nI (port % 16))), (0, .ref (a 0)), (1, .int h), (2, .int (nI port))]) hx hb dX1_choose_40 hl (by decide) rfl (fun ls hl => ?_)
      refine lv_iload hx hb dX1_choose_42 (lv_at hl 0 rfl) ?_
      refine lv_bipush (v := (-6)) hx hb dX1_choose_44 (by decide) ?_
      refine lv_icmp_eq (tgt := 52) hx hb dX1_choose_46 (by decide) (fun c5 => ?_) (fun c5 => ?_)
      · skip
        refine lv_aload_n hx hb dX1_choose_52 rfl (lv_at hl 3 rfl) ?_
        refine g_get X G fX1_26 0 rfl rfl dX1_choose_53 ?_
        refine lv_iload hx hb dX1_choose_56 (lv_at hl 1 rfl) ?_
        refine g_callV (As := [.int (nI ((port % 16) / 4))]) (rest := []) X kX1_118 (c_X0_holderOf l E a st w ((port % 16) / 4) (by omega)) G 2 rfl rfl ⟨Nat.le_of_ble_eq_true rfl, Nat.le_of_ble_eq_true rfl⟩ ⟨Nat.le_refl _, Nat.le_refl _⟩ rfl hl.1 rfl (Nat.le_of_ble_eq_true rfl) dX1_choose_58 (fun H locs G => ?_)
        refine lv_bipush (v := (-6)) hx hb dX1_choose_61 (by decide) ?_
        refine lv_icmp_ne (tgt := 68) hx hb dX1_choose_63 (by decide) (fun c6 => ?_) (fun c6 => ?_)
        · skip
          refine lv_aload_n hx hb dX1_choose_68 rfl (lv_at hl 3 rfl) ?_
          refine lv_bipush (v := (-6)) hx hb dX1_choose_69 (by decide) ?_
          refine lv_iload_n hx hb dX1_choose_71 rfl (lv_at hl 5 rfl) ?_
          refine g_callV (As := [.int (-6), .int (nI port)]) (rest := []) X kX1_121 (c_X1_leastFitOfHolder l E a st w (-6) port (by omega)) G 0 rfl rfl ⟨Nat.le_of_ble_eq_true rfl, Nat.le_of_ble_eq_true rfl⟩ ⟨Nat.le_refl _, Nat.le_refl _⟩ rfl hl.1 rfl (Nat.le_of_ble_eq_true rfl) dX1_choose_72 (fun H locs G => ?_)
          refine o_split (fun c8 => ?_) (fun j7 c9 => ?_)
          · skip
            exact g_iret X hr G rfl (by simp [chooseC, oI, c1, c3, c6, c8]) dX1_choose_75
          · skip
            have bj7 : j7 < 16 := lfhF_lt c9
            exact g_iret X hr G rfl (by simp [chooseC, oI, c1, c3, c6, c9]) dX1_choose_75
        · skip
          refine lv_iload_n hx hb dX1_choose_66 rfl (lv_at hl 2 rfl) ?_
          exact g_iret X hr G rfl (by simp [chooseC, oI, c1, c3, c6]) dX1_choose_67
      · skip
        exact absurd c5 (by decide)
    · skip
      have bj2 : j2 < 16 := lfhF_lt c4
      refine lv_istore (lv' := [(5, .int (nI j2)), (4, .int (nI ((port % 16) / 4))), (3, .int (nI (port % 16))), (0, .ref (a 0)), (1, .int h), (2, .int (nI port))]) hx hb dX1_choose_40 hl (by decide) rfl (fun ls hl => ?_)
      refine lv_iload hx hb dX1_choose_42 (lv_at hl 0 rfl) ?_
      refine lv_bipush (v := (-6)) hx hb dX1_choose_44 (by decide) ?_
      refine lv_icmp_eq (tgt := 52) hx hb dX1_choose_46 (by decide) (fun c10 => ?_) (fun c10 => ?_)
      · skip
        exact absurd c10 (nI_m6 (by omega))
      · skip
        refine lv_iload hx hb dX1_choose_49 (lv_at hl 0 rfl) ?_
        exact g_iret X hr G rfl (by simp [chooseC, oI, c1, c4]) dX1_choose_51
  · skip
    refine lv_aload_n hx hb dX1_choose_19 rfl (lv_at hl 2 rfl) ?_
    refine g_get X G fX1_26 0 rfl rfl dX1_choose_20 ?_
    refine lv_iload hx hb dX1_choose_23 (lv_at hl 0 rfl) ?_
    refine g_callV (As := [.int (nI ((port % 16) / 4))]) (rest := []) X kX1_118 (c_X0_holderOf l E a st w ((port % 16) / 4) (by omega)) G 2 rfl rfl ⟨Nat.le_of_ble_eq_true rfl, Nat.le_of_ble_eq_true rfl⟩ ⟨Nat.le_refl _, Nat.le_refl _⟩ rfl hl.1 rfl (Nat.le_of_ble_eq_true rfl) dX1_choose_25 (fun H locs G => ?_)
    refine lv_iload_n hx hb dX1_choose_28 rfl (lv_at hl 3 rfl) ?_
    refine lv_icmp_ne (tgt := 34) hx hb dX1_choose_29 (by decide) (fun c11 => ?_) (fun c11 => ?_)
    · skip
      refine lv_aload_n hx hb dX1_choose_34 rfl (lv_at hl 2 rfl) ?_
      refine lv_iload_n hx hb dX1_choose_35 rfl (lv_at hl 3 rfl) ?_
      refine lv_iload_n hx hb dX1_choose_36 rfl (lv_at hl 4 rfl) ?_
      refine g_callV (As := [.int h, .int (nI port)]) (rest := []) X kX1_121 (c_X1_leastFitOfHolder l E a st w h port (by omega)) G 0 rfl rfl ⟨Nat.le_of_ble_eq_true rfl, Nat.le_of_ble_eq_true rfl⟩ ⟨Nat.le_refl _, Nat.le_refl _⟩ rfl hl.1 rfl (Nat.le_of_ble_eq_true rfl) dX1_choose_37 (fun H locs G => ?_)
      refine o_split (fun c13 => ?_) (fun j12 c14 => ?_)
      · skip
        refine lv_istore (lv' := [(5, .int (-6)), (4, .int (nI ((port % 16) / 4))), (3, .int (nI (port % 16))), (0, .ref (a 0)), (1, .int h), (2, .int (nI port))]) hx hb dX1_choose_40 hl (by decide) rfl (fun ls hl => ?_)
        refine lv_iload hx hb dX1_choose_42 (lv_at hl 0 rfl) ?_
        refine lv_bipush (v := (-6)) hx hb dX1_choose_44 (by decide) ?_
        refine lv_icmp_eq (tgt := 52) hx hb dX1_choose_46 (by decide) (fun c15 => ?_) (fun c15 => ?_)
        · skip
          refine lv_aload_n hx hb dX1_choose_52 rfl (lv_at hl 3 rfl) ?_
          refine g_get X G fX1_26 0 rfl rfl dX1_choose_53 ?_
          refine lv_iload hx hb dX1_choose_56 (lv_at hl 1 rfl) ?_
          refine g_callV (As := [.int (nI ((port % 16) / 4))]) (rest := []) X kX1_118 (c_X0_holderOf l E a st w ((port % 16) / 4) (by omega)) G 2 rfl rfl ⟨Nat.le_of_ble_eq_true rfl, Nat.le_of_ble_eq_true rfl⟩ ⟨Nat.le_refl _, Nat.le_refl _⟩ rfl hl.1 rfl (Nat.le_of_ble_eq_true rfl) dX1_choose_58 (fun H locs G => ?_)
          refine lv_bipush (v := (-6)) hx hb dX1_choose_61 (by decide) ?_
          refine lv_icmp_ne (tgt := 68) hx hb dX1_choose_63 (by decide) (fun c16 => ?_) (fun c16 => ?_)
          · skip
            refine lv_aload_n hx hb dX1_choose_68 rfl (lv_at hl 3 rfl) ?_
            refine lv_bipush (v := (-6)) hx hb dX1_choose_69 (by decide) ?_
            refine lv_iload_n hx hb dX1_choose_71 rfl (lv_at hl 5 rfl) ?_
            refine g_callV (As := [.int (-6), .int (nI port)]) (rest := []) X kX1_121 (c_X1_leastFitOfHolder l E a st w (-6) port (by omega)) G 0 rfl rfl ⟨Nat.le_of_ble_eq_true rfl, Nat.le_of_ble_eq_true rfl⟩ ⟨Nat.le_refl _, Nat.le_refl _⟩ rfl hl.1 rfl (Nat.le_of_ble_eq_true rfl) dX1_choose_72 (fun H locs G => ?_)
            refine o_split (fun c18 => ?_) (fun j17 c19 => ?_)
            · skip
              exact g_iret X hr G rfl (by simp [chooseC, oI, c1, c11, c13, c16, c18]) dX1_choose_75
            · skip
              have bj17 : j17 < 16 := lfhF_lt c19
              exact g_iret X hr G rfl (by simp [chooseC, oI, c1, c11, c13, c16, c19]) dX1_choose_75
          · skip
            refine lv_iload_n hx hb dX1_choose_66 rfl (lv_at hl 2 rfl) ?_
            exact g_iret X hr G rfl (by simp [chooseC, oI, c1, c11, c13, c16]) dX1_choose_67
        · skip
          exact absurd c15 (by decide)
      · skip
        have bj12 : j12 < 16 := lfhF_lt c14
        refine lv_istore (lv' := [(5, .int (nI j12)), (4, .int (nI ((port % 16) / 4))), (3, .int (nI (port % 16))), (0, .ref (a 0)), (1, .int h), (2, .int (nI port))]) hx hb dX1_choose_40 hl (by decide) rfl (fun ls hl => ?_)
        refine lv_iload hx hb dX1_choose_42 (lv_at hl 0 rfl) ?_
        refine lv_bipush (v := (-6)) hx hb dX1_choose_44 (by decide) ?_
        refine lv_icmp_eq (tgt := 52) hx hb dX1_choose_46 (by decide) (fun c20 => ?_) (fun c20 => ?_)
        · skip
          exact absurd c20 (nI_m6 (by omega))
        · skip
          refine lv_iload hx hb dX1_choose_49 (lv_at hl 0 rfl) ?_
          exact g_iret X hr G rfl (by simp [chooseC, oI, c1, c11, c14]) dX1_choose_51
    · skip
      refine lv_iload_n hx hb dX1_choose_32 rfl (lv_at hl 1 rfl) ?_
      exact g_iret X hr G rfl (by simp [chooseC, oI, c1, c11]) dX1_choose_33
set_option maxHeartbeats 4000000 in
set_option maxRecDepth 100000 in
theorem c_X1_makeBinding (l : Launch) (E : EE) (a : Nat → Nat) (st : St) (w : va_W) (host : Nat) (hhost : host < 4) (port : Nat) (hport : port < 32) (r : Nat) (hr : r < 5) (rp : Nat) (hrp : rp < 32) : Ct l yX1_makeBinding cX1_makeBinding 8 (some .int) 5 E [.ref (a 0), .int (nI host), .int (nI port), .int (nI r), .int (nI rp)] (wB E a st w) (oI (chooseC st (nI host) port)) (wB E a (makeC st host port r rp) w) := by
  refine Ct_mk RX1 rfl (by decide +kernel) (Nat.le_of_ble_eq_true rfl) ?_
  intro p e s m below meth c A ls X hr G hl
  have hl : lv_has ls 8 [(0, .ref (a 0)), (1, .int (nI host)), (2, .int (nI port)), (3, .int (nI r)), (4, .int (nI rp))] := hl
  obtain ⟨hx, hb, hml, hown, hts, hK, hA, hlocks⟩ := id X
  refine lv_aload_n hx hb dX1_makeBinding_0 rfl (lv_at hl 0 rfl) ?_
  refine lv_iload_n hx hb dX1_makeBinding_1 rfl (lv_at hl 1 rfl) ?_
  refine lv_iload_n hx hb dX1_makeBinding_2 rfl (lv_at hl 2 rfl) ?_
  refine g_callV (As := [.int (nI host), .int (nI port)]) (rest := []) X kX1_66 (c_X1_choose l E a st w (nI host) port (by omega)) G 0 rfl rfl ⟨Nat.le_of_ble_eq_true rfl, Nat.le_of_ble_eq_true rfl⟩ ⟨Nat.le_refl _, Nat.le_refl _⟩ rfl hl.1 rfl (Nat.le_of_ble_eq_true rfl) dX1_makeBinding_3 (fun H locs G => ?_)
  refine o_split (fun c2 => ?_) (fun j1 c3 => ?_)
  · skip
    refine lv_istore (lv' := [(5, .int (-6)), (0, .ref (a 0)), (1, .int (nI host)), (2, .int (nI port)), (3, .int (nI r)), (4, .int (nI rp))]) hx hb dX1_makeBinding_6 hl (by decide) rfl (fun ls hl => ?_)
    refine lv_iload hx hb dX1_makeBinding_8 (lv_at hl 0 rfl) ?_
    refine lv_bipush (v := (-6)) hx hb dX1_makeBinding_10 (by decide) ?_
    refine lv_icmp_ne (tgt := 18) hx hb dX1_makeBinding_12 (by decide) (fun c4 => ?_) (fun c4 => ?_)
    · skip
      exact absurd c4 (by decide)
    · skip
      refine lv_bipush (v := (-6)) hx hb dX1_makeBinding_15 (by decide) ?_
      exact g_iret X hr G (congrArg (fun z => wB E a z w) (by simp [makeC, oI, c2])) (by simp [makeC, oI, c2]) dX1_makeBinding_17
  · skip
    have bj1 : j1 < 16 := chooseC_lt c3
    refine lv_istore (lv' := [(5, .int (nI j1)), (0, .ref (a 0)), (1, .int (nI host)), (2, .int (nI port)), (3, .int (nI r)), (4, .int (nI rp))]) hx hb dX1_makeBinding_6 hl (by decide) rfl (fun ls hl => ?_)
    refine lv_iload hx hb dX1_makeBinding_8 (lv_at hl 0 rfl) ?_
    refine lv_bipush (v := (-6)) hx hb dX1_makeBinding_10 (by decide) ?_
    refine lv_icmp_ne (tgt := 18) hx hb dX1_makeBinding_12 (by decide) (fun c5 => ?_) (fun c5 => ?_)
    · skip
      refine lv_aload_n hx hb dX1_makeBinding_18 rfl (lv_at hl 1 rfl) ?_
      refine g_get X G fX1_18 0 rfl rfl dX1_makeBinding_19 ?_
      refine lv_iconst (v := 0) hx hb dX1_makeBinding_22 (by decide) ?_
      refine g_iald (j := 0) X G 1 rfl rfl (by omega) (by decide) dX1_makeBinding_23 ?_
      refine lv_iconst (v := 1) hx hb dX1_makeBinding_24 (by decide) ?_
      refine lv_icmp_lt (tgt := 32) hx hb dX1_makeBinding_25 (by decide) (fun c6 => ?_) (fun c6 => ?_)
      · skip
        refine lv_bipush (v := (-6)) hx hb dX1_makeBinding_32 (by decide) ?_
        refine lv_istore (lv' := [(6, .int (-6)), (5, .int (nI j1)), (0, .ref (a 0)), (1, .int (nI host)), (2, .int (nI port)), (3, .int (nI r)), (4, .int (nI rp))]) hx hb dX1_makeBinding_34 hl (by decide) rfl (fun ls hl => ?_)
        refine lv_aload_n hx hb dX1_makeBinding_36 rfl (lv_at hl 2 rfl) ?_
        refine g_get X G fX1_18 0 rfl rfl dX1_makeBinding_37 ?_
        refine lv_iconst (v := 0) hx hb dX1_makeBinding_40 (by decide) ?_
        refine g_iald (j := 0) X G 1 rfl rfl (by omega) (by decide) dX1_makeBinding_41 ?_
        refine lv_iconst (v := 2) hx hb dX1_makeBinding_42 (by decide) ?_
        refine lv_icmp_lt (tgt := 51) hx hb dX1_makeBinding_43 (by decide) (fun c7 => ?_) (fun c7 => ?_)
        · skip
          refine lv_bipush (v := (-6)) hx hb dX1_makeBinding_51 (by decide) ?_
          refine lv_istore (lv' := [(7, .int (-6)), (6, .int (-6)), (5, .int (nI j1)), (0, .ref (a 0)), (1, .int (nI host)), (2, .int (nI port)), (3, .int (nI r)), (4, .int (nI rp))]) hx hb dX1_makeBinding_53 hl (by decide) rfl (fun ls hl => ?_)
          refine lv_aload_n hx hb dX1_makeBinding_55 rfl (lv_at hl 3 rfl) ?_
          refine g_get X G fX1_26 0 rfl rfl dX1_makeBinding_56 ?_
          refine lv_iload hx hb dX1_makeBinding_59 (lv_at hl 2 rfl) ?_
          refine lv_iload_n hx hb dX1_makeBinding_61 rfl (lv_at hl 4 rfl) ?_
          refine lv_bipush (v := 32) hx hb dX1_makeBinding_62 (by decide) ?_
          refine n_imul host 32 rfl rfl hx hb dX1_makeBinding_64 ?_
          refine lv_iload_n hx hb dX1_makeBinding_65 rfl (lv_at hl 5 rfl) ?_
          refine n_iadd (host * 32) port rfl rfl hx hb dX1_makeBinding_66 ?_
          refine lv_iload hx hb dX1_makeBinding_67 (lv_at hl 1 rfl) ?_
          refine lv_iload hx hb dX1_makeBinding_69 (lv_at hl 0 rfl) ?_
          refine g_callVv (As := [.int (nI j1), .int (nI ((host * 32) + port)), .int (-6), .int (-6)]) (rest := []) X kX1_70 (c_X0_lend l E a st w j1 (by omega) (nI ((host * 32) + port)) (-6) (-6)) G 2 rfl rfl ⟨Nat.le_of_ble_eq_true rfl, Nat.le_of_ble_eq_true rfl⟩ ⟨Nat.le_refl _, Nat.le_refl _⟩ rfl hl.1 rfl (Nat.le_of_ble_eq_true rfl) dX1_makeBinding_71 (fun H locs G => ?_)
          refine lv_iload hx hb dX1_makeBinding_74 (lv_at hl 2 rfl) ?_
          exact g_iret X hr G (congrArg (fun z => wB E a z w) (by simp [makeC, oI, c3, c6, c7])) (by simp [makeC, oI, c3, c6, c7]) dX1_makeBinding_76
        · skip
          refine lv_iload hx hb dX1_makeBinding_46 (lv_at hl 6 rfl) ?_
          refine lv_goto (tgt := 53) hx hb dX1_makeBinding_48 (by decide) ?_
          refine lv_istore (lv' := [(7, .int (nI rp)), (6, .int (-6)), (5, .int (nI j1)), (0, .ref (a 0)), (1, .int (nI host)), (2, .int (nI port)), (3, .int (nI r)), (4, .int (nI rp))]) hx hb dX1_makeBinding_53 hl (by decide) rfl (fun ls hl => ?_)
          refine lv_aload_n hx hb dX1_makeBinding_55 rfl (lv_at hl 3 rfl) ?_
          refine g_get X G fX1_26 0 rfl rfl dX1_makeBinding_56 ?_
          refine lv_iload hx hb dX1_makeBinding_59 (lv_at hl 2 rfl) ?_
          refine lv_iload_n hx hb dX1_makeBinding_61 rfl (lv_at hl 4 rfl) ?_
          refine lv_bipush (v := 32) hx hb dX1_makeBinding_62 (by decide) ?_
          refine n_imul host 32 rfl rfl hx hb dX1_makeBinding_64 ?_
          refine lv_iload_n hx hb dX1_makeBinding_65 rfl (lv_at hl 5 rfl) ?_
          refine n_iadd (host * 32) port rfl rfl hx hb dX1_makeBinding_66 ?_
          refine lv_iload hx hb dX1_makeBinding_67 (lv_at hl 1 rfl) ?_
          refine lv_iload hx hb dX1_makeBinding_69 (lv_at hl 0 rfl) ?_
          refine g_callVv (As := [.int (nI j1), .int (nI ((host * 32) + port)), .int (-6), .int (nI rp)]) (rest := []) X kX1_70 (c_X0_lend l E a st w j1 (by omega) (nI ((host * 32) + port)) (-6) (nI rp)) G 2 rfl rfl ⟨Nat.le_of_ble_eq_true rfl, Nat.le_of_ble_eq_true rfl⟩ ⟨Nat.le_refl _, Nat.le_refl _⟩ rfl hl.1 rfl (Nat.le_of_ble_eq_true rfl) dX1_makeBinding_71 (fun H locs G => ?_)
          refine lv_iload hx hb dX1_makeBinding_74 (lv_at hl 2 rfl) ?_
          exact g_iret X hr G (congrArg (fun z => wB E a z w) (by simp [makeC, oI, c3, c6, c7])) (by simp [makeC, oI, c3, c6, c7]) dX1_makeBinding_76
      · skip
        refine lv_iload_n hx hb dX1_makeBinding_28 rfl (lv_at hl 4 rfl) ?_
        refine lv_goto (tgt := 34) hx hb dX1_makeBinding_29 (by decide) ?_
        refine lv_istore (lv' := [(6, .int (nI r)), (5, .int (nI j1)), (0, .ref (a 0)), (1, .int (nI host)), (2, .int (nI port)), (3, .int (nI r)), (4, .int (nI rp))]) hx hb dX1_makeBinding_34 hl (by decide) rfl (fun ls hl => ?_)
        refine lv_aload_n hx hb dX1_makeBinding_36 rfl (lv_at hl 2 rfl) ?_
        refine g_get X G fX1_18 0 rfl rfl dX1_makeBinding_37 ?_
        refine lv_iconst (v := 0) hx hb dX1_makeBinding_40 (by decide) ?_
        refine g_iald (j := 0) X G 1 rfl rfl (by omega) (by decide) dX1_makeBinding_41 ?_
        refine lv_iconst (v := 2) hx hb dX1_makeBinding_42 (by decide) ?_
        refine lv_icmp_lt (tgt := 51) hx hb dX1_makeBinding_43 (by decide) (fun c8 => ?_) (fun c8 => ?_)
        · skip
          refine lv_bipush (v := (-6)) hx hb dX1_makeBinding_51 (by decide) ?_
          refine lv_istore (lv' := [(7, .int (-6)), (6, .int (nI r)), (5, .int (nI j1)), (0, .ref (a 0)), (1, .int (nI host)), (2, .int (nI port)), (3, .int (nI r)), (4, .int (nI rp))]) hx hb dX1_makeBinding_53 hl (by decide) rfl (fun ls hl => ?_)
          refine lv_aload_n hx hb dX1_makeBinding_55 rfl (lv_at hl 3 rfl) ?_
          refine g_get X G fX1_26 0 rfl rfl dX1_makeBinding_56 ?_
          refine lv_iload hx hb dX1_makeBinding_59 (lv_at hl 2 rfl) ?_
          refine lv_iload_n hx hb dX1_makeBinding_61 rfl (lv_at hl 4 rfl) ?_
          refine lv_bipush (v := 32) hx hb dX1_makeBinding_62 (by decide) ?_
          refine n_imul host 32 rfl rfl hx hb dX1_makeBinding_64 ?_
          refine lv_iload_n hx hb dX1_makeBinding_65 rfl (lv_at hl 5 rfl) ?_
          refine n_iadd (host * 32) port rfl rfl hx hb dX1_makeBinding_66 ?_
          refine lv_iload hx hb dX1_makeBinding_67 (lv_at hl 1 rfl) ?_
          refine lv_iload hx hb dX1_makeBinding_69 (lv_at hl 0 rfl) ?_
          refine g_callVv (As := [.int (nI j1), .int (nI ((host * 32) + port)), .int (nI r), .int (-6)]) (rest := []) X kX1_70 (c_X0_lend l E a st w j1 (by omega) (nI ((host * 32) + port)) (nI r) (-6)) G 2 rfl rfl ⟨Nat.le_of_ble_eq_true rfl, Nat.le_of_ble_eq_true rfl⟩ ⟨Nat.le_refl _, Nat.le_refl _⟩ rfl hl.1 rfl (Nat.le_of_ble_eq_true rfl) dX1_makeBinding_71 (fun H locs G => ?_)
          refine lv_iload hx hb dX1_makeBinding_74 (lv_at hl 2 rfl) ?_
          exact g_iret X hr G (congrArg (fun z => wB E a z w) (by simp [makeC, oI, c3, c6, c8])) (by simp [makeC, oI, c3, c6, c8]) dX1_makeBinding_76
        · skip
          refine lv_iload hx hb dX1_makeBinding_46 (lv_at hl 6 rfl) ?_
          refine lv_goto (tgt := 53) hx hb dX1_makeBinding_48 (by decide) ?_
          refine lv_istore (lv' := [(7, .int (nI rp)), (6, .int (nI r)), (5, .int (nI j1)), (0, .ref (a 0)), (1, .int (nI host)), (2, .int (nI port)), (3, .int (nI r)), (4, .int (nI rp))]) hx hb dX1_makeBinding_53 hl (by decide) rfl (fun ls hl => ?_)
          refine lv_aload_n hx hb dX1_makeBinding_55 rfl (lv_at hl 3 rfl) ?_
          refine g_get X G fX1_26 0 rfl rfl dX1_makeBinding_56 ?_
          refine lv_iload hx hb dX1_makeBinding_59 (lv_at hl 2 rfl) ?_
          refine lv_iload_n hx hb dX1_makeBinding_61 rfl (lv_at hl 4 rfl) ?_
          refine lv_bipush (v := 32) hx hb dX1_makeBinding_62 (by decide) ?_
          refine n_imul host 32 rfl rfl hx hb dX1_makeBinding_64 ?_
          refine lv_iload_n hx hb dX1_makeBinding_65 rfl (lv_at hl 5 rfl) ?_
          refine n_iadd (host * 32) port rfl rfl hx hb dX1_makeBinding_66 ?_
          refine lv_iload hx hb dX1_makeBinding_67 (lv_at hl 1 rfl) ?_
          refine lv_iload hx hb dX1_makeBinding_69 (lv_at hl 0 rfl) ?_
          refine g_callVv (As := [.int (nI j1), .int (nI ((host * 32) + port)), .int (nI r), .int (nI rp)]) (rest := []) X kX1_70 (c_X0_lend l E a st w j1 (by omega) (nI ((host * 32) + port)) (nI r) (nI rp)) G 2 rfl rfl ⟨Nat.le_of_ble_eq_true rfl, Nat.le_of_ble_eq_true rfl⟩ ⟨Nat.le_refl _, Nat.le_refl _⟩ rfl hl.1 rfl (Nat.le_of_ble_eq_true rfl) dX1_makeBinding_71 (fun H locs G => ?_)
          refine lv_iload hx hb dX1_makeBinding_74 (lv_at hl 2 rfl) ?_
          exact g_iret X hr G (congrArg (fun z => wB E a z w) (by simp [makeC, oI, c3, c6, c8])) (by simp [makeC, oI, c3, c6, c8]) dX1_makeBinding_76
    · skip
      exact absurd c5 (nI_m6 (by omega))
set_option maxHeartbeats 4000000 in
set_option maxRecDepth 100000 in
theorem c_X1_goOut (l : Launch) (E : EE) (a : Nat → Nat) (st : St) (w : va_W) (host : Nat) (hhost : host < 4) (port : Nat) (hport : port < 32) (r : Nat) (hr : r < 5) (rp : Nat) (hrp : rp < 32) (f : Nat) (hf : f < 3) : Ct l yX1_goOut cX1_goOut 7 (some .int) 6 E [.ref (a 0), .int (nI host), .int (nI port), .int (nI r), .int (nI rp), .int (nI f)] (wB E a st w) (oN (goOutO st host port r rp)) (wB E a (goOutC st host port r rp f) w) := by
  refine Ct_mk RX1 rfl (by decide +kernel) (Nat.le_of_ble_eq_true rfl) ?_
  intro p e s m below meth c A ls X hr G hl
  have hl : lv_has ls 7 [(0, .ref (a 0)), (1, .int (nI host)), (2, .int (nI port)), (3, .int (nI r)), (4, .int (nI rp)), (5, .int (nI f))] := hl
  obtain ⟨hx, hb, hml, hown, hts, hK, hA, hlocks⟩ := id X
  refine lv_aload_n hx hb dX1_goOut_0 rfl (lv_at hl 0 rfl) ?_
  refine g_get X G fX1_26 0 rfl rfl dX1_goOut_1 ?_
  refine lv_iload_n hx hb dX1_goOut_4 rfl (lv_at hl 1 rfl) ?_
  refine lv_bipush (v := 32) hx hb dX1_goOut_5 (by decide) ?_
  refine n_imul host 32 rfl rfl hx hb dX1_goOut_7 ?_
  refine lv_iload_n hx hb dX1_goOut_8 rfl (lv_at hl 2 rfl) ?_
  refine n_iadd (host * 32) port rfl rfl hx hb dX1_goOut_9 ?_
  refine lv_iload_n hx hb dX1_goOut_10 rfl (lv_at hl 3 rfl) ?_
  refine lv_iload hx hb dX1_goOut_11 (lv_at hl 4 rfl) ?_
  refine g_callV (As := [.int (nI ((host * 32) + port)), .int (nI r), .int (nI rp)]) (rest := []) X kX1_48 (c_X0_seek l E a st w (nI ((host * 32) + port)) (nI r) (nI rp)) G 2 rfl rfl ⟨Nat.le_of_ble_eq_true rfl, Nat.le_of_ble_eq_true rfl⟩ ⟨Nat.le_refl _, Nat.le_refl _⟩ rfl hl.1 rfl (Nat.le_of_ble_eq_true rfl) dX1_goOut_13 (fun H locs G => ?_)
  refine o_split (fun c2 => ?_) (fun j1 c3 => ?_)
  · skip
    refine lv_istore (lv' := [(6, .int (-6)), (0, .ref (a 0)), (1, .int (nI host)), (2, .int (nI port)), (3, .int (nI r)), (4, .int (nI rp)), (5, .int (nI f))]) hx hb dX1_goOut_16 hl (by decide) rfl (fun ls hl => ?_)
    refine lv_iload hx hb dX1_goOut_18 (lv_at hl 0 rfl) ?_
    refine lv_bipush (v := (-6)) hx hb dX1_goOut_20 (by decide) ?_
    refine lv_icmp_ne (tgt := 36) hx hb dX1_goOut_22 (by decide) (fun c4 => ?_) (fun c4 => ?_)
    · skip
      exact absurd c4 (by decide)
    · skip
      refine lv_aload_n hx hb dX1_goOut_25 rfl (lv_at hl 1 rfl) ?_
      refine lv_iload_n hx hb dX1_goOut_26 rfl (lv_at hl 2 rfl) ?_
      refine lv_iload_n hx hb dX1_goOut_27 rfl (lv_at hl 3 rfl) ?_
      refine lv_iload_n hx hb dX1_goOut_28 rfl (lv_at hl 4 rfl) ?_
      refine lv_iload hx hb dX1_goOut_29 (lv_at hl 5 rfl) ?_
      refine g_callV (As := [.int (nI host), .int (nI port), .int (nI r), .int (nI rp)]) (rest := []) X kX1_52 (c_X1_makeBinding l E a st w host (by omega) port (by omega) r (by omega) rp (by omega)) G 0 rfl rfl ⟨Nat.le_of_ble_eq_true rfl, Nat.le_of_ble_eq_true rfl⟩ ⟨Nat.le_refl _, Nat.le_refl _⟩ rfl hl.1 rfl (Nat.le_of_ble_eq_true rfl) dX1_goOut_31 (fun H locs G => ?_)
      refine o_split (fun c6 => ?_) (fun j5 c7 => ?_)
      · skip
        refine lv_istore (lv' := [(6, .int (-6)), (0, .ref (a 0)), (1, .int (nI host)), (2, .int (nI port)), (3, .int (nI r)), (4, .int (nI rp)), (5, .int (nI f))]) hx hb dX1_goOut_34 hl (by decide) rfl (fun ls hl => ?_)
        refine lv_iload hx hb dX1_goOut_36 (lv_at hl 0 rfl) ?_
        refine lv_bipush (v := (-6)) hx hb dX1_goOut_38 (by decide) ?_
        refine lv_icmp_ne (tgt := 46) hx hb dX1_goOut_40 (by decide) (fun c8 => ?_) (fun c8 => ?_)
        · skip
          exact absurd c8 (by decide)
        · skip
          refine lv_bipush (v := (-5)) hx hb dX1_goOut_43 (by decide) ?_
          exact g_iret X hr G (congrArg (fun z => wB E a z w) (by simp [goOutO, goOutC, goFin, flagO, oN, c2, c6])) (by simp [goOutO, goOutC, goFin, flagO, oN, c2, c6]) dX1_goOut_45
      · skip
        have bj5 : j5 < 16 := chooseC_lt c7
        refine lv_istore (lv' := [(6, .int (nI j5)), (0, .ref (a 0)), (1, .int (nI host)), (2, .int (nI port)), (3, .int (nI r)), (4, .int (nI rp)), (5, .int (nI f))]) hx hb dX1_goOut_34 hl (by decide) rfl (fun ls hl => ?_)
        refine lv_iload hx hb dX1_goOut_36 (lv_at hl 0 rfl) ?_
        refine lv_bipush (v := (-6)) hx hb dX1_goOut_38 (by decide) ?_
        refine lv_icmp_ne (tgt := 46) hx hb dX1_goOut_40 (by decide) (fun c9 => ?_) (fun c9 => ?_)
        · skip
          refine lv_aload_n hx hb dX1_goOut_46 rfl (lv_at hl 1 rfl) ?_
          refine g_get X G fX1_26 0 rfl rfl dX1_goOut_47 ?_
          refine lv_iload hx hb dX1_goOut_50 (lv_at hl 0 rfl) ?_
          refine lv_iload_n hx hb dX1_goOut_52 rfl (lv_at hl 4 rfl) ?_
          refine lv_iload hx hb dX1_goOut_53 (lv_at hl 5 rfl) ?_
          refine g_callVv (As := [.int (nI j5), .int (nI r), .int (nI rp)]) (rest := []) X kX1_56 (c_X0_markSent l E a (makeC st host port r rp) w j5 (by omega) r (by omega) rp) G 2 rfl rfl ⟨Nat.le_of_ble_eq_true rfl, Nat.le_of_ble_eq_true rfl⟩ ⟨Nat.le_refl _, Nat.le_refl _⟩ rfl hl.1 rfl (Nat.le_of_ble_eq_true rfl) dX1_goOut_55 (fun H locs G => ?_)
          refine lv_aload_n hx hb dX1_goOut_58 rfl (lv_at hl 1 rfl) ?_
          refine g_get X G fX1_26 0 rfl rfl dX1_goOut_59 ?_
          refine g_get X G fX1_60 2 rfl rfl dX1_goOut_62 ?_
          refine lv_iload hx hb dX1_goOut_65 (lv_at hl 0 rfl) ?_
          refine lv_aload_n hx hb dX1_goOut_67 rfl (lv_at hl 1 rfl) ?_
          refine g_get X G fX1_37 0 rfl rfl dX1_goOut_68 ?_
          refine g_iast (j := j5) X G 6 rfl rfl (by omega) (by decide) dX1_goOut_71 (fun H locs G => ?_)
          have G : Gw E A s (wB E a (sU (markC (makeC st host port r rp) j5 r rp) 3 j5 ((markC (makeC st host port r rp) j5 r rp) 11 0)) w) H locs := G
          refine lv_iload hx hb dX1_goOut_72 (lv_at hl 6 rfl) ?_
          refine lv_iconst (v := 2) hx hb dX1_goOut_74 (by decide) ?_
          refine n_cmp_ne (tgt := 92) f 2 rfl rfl (by omega) (by omega) hx hb dX1_goOut_75 (by decide) (fun c10 => ?_) (fun c10 => ?_)
          · skip
            refine lv_iload hx hb dX1_goOut_92 (lv_at hl 6 rfl) ?_
            refine lv_iconst (v := 1) hx hb dX1_goOut_94 (by decide) ?_
            refine n_cmp_ne (tgt := 123) f 1 rfl rfl (by omega) (by omega) hx hb dX1_goOut_95 (by decide) (fun c11 => ?_) (fun c11 => ?_)
            · skip
              refine lv_iload hx hb dX1_goOut_123 (lv_at hl 0 rfl) ?_
              exact g_iret X hr G (congrArg (fun z => wB E a z w) (by simp [goOutO, goOutC, goFin, flagO, oN, c2, c7, c10, c11])) (by simp [goOutO, goOutC, goFin, flagO, oN, c2, c7, c10, c11]) dX1_goOut_125
            · skip
              refine lv_aload_n hx hb dX1_goOut_98 rfl (lv_at hl 1 rfl) ?_
              refine g_get X G fX1_26 0 rfl rfl dX1_goOut_99 ?_
              refine g_get X G fX1_63 2 rfl rfl dX1_goOut_102 ?_
              refine lv_iload hx hb dX1_goOut_105 (lv_at hl 0 rfl) ?_
              refine g_iald (j := j5) X G 5 rfl rfl (by omega) (by decide) dX1_goOut_107 ?_
              refine lv_iconst (v := 2) hx hb dX1_goOut_108 (by decide) ?_
              refine lv_icmp_ne (tgt := 123) hx hb dX1_goOut_109 (by decide) (fun c12 => ?_) (fun c12 => ?_)
              · skip
                refine lv_iload hx hb dX1_goOut_123 (lv_at hl 0 rfl) ?_
                exact g_iret X hr G (congrArg (fun z => wB E a z w) (by simp [goOutO, goOutC, goFin, flagO, oN, c2, c7, c10, c11, c12])) (by simp [goOutO, goOutC, goFin, flagO, oN, c2, c7, c10, c11, c12]) dX1_goOut_125
              · skip
                refine lv_aload_n hx hb dX1_goOut_112 rfl (lv_at hl 1 rfl) ?_
                refine g_get X G fX1_26 0 rfl rfl dX1_goOut_113 ?_
                refine g_get X G fX1_63 2 rfl rfl dX1_goOut_116 ?_
                refine lv_iload hx hb dX1_goOut_119 (lv_at hl 0 rfl) ?_
                refine lv_iconst (v := 0) hx hb dX1_goOut_121 (by decide) ?_
                refine g_iast (j := j5) X G 5 rfl rfl (by omega) (by decide) dX1_goOut_122 (fun H locs G => ?_)
                have G : Gw E A s (wB E a (sU (sU (markC (makeC st host port r rp) j5 r rp) 3 j5 ((markC (makeC st host port r rp) j5 r rp) 11 0)) 2 j5 0) w) H locs := G
                refine lv_iload hx hb dX1_goOut_123 (lv_at hl 0 rfl) ?_
                exact g_iret X hr G (congrArg (fun z => wB E a z w) (by simp [goOutO, goOutC, goFin, flagO, oN, c2, c7, c10, c11, c12])) (by simp [goOutO, goOutC, goFin, flagO, oN, c2, c7, c10, c11, c12]) dX1_goOut_125
          · skip
            refine lv_aload_n hx hb dX1_goOut_78 rfl (lv_at hl 1 rfl) ?_
            refine g_get X G fX1_26 0 rfl rfl dX1_goOut_79 ?_
            refine g_get X G fX1_63 2 rfl rfl dX1_goOut_82 ?_
            refine lv_iload hx hb dX1_goOut_85 (lv_at hl 0 rfl) ?_
            refine lv_iconst (v := 2) hx hb dX1_goOut_87 (by decide) ?_
            refine g_iast (j := j5) X G 5 rfl rfl (by omega) (by decide) dX1_goOut_88 (fun H locs G => ?_)
            have G : Gw E A s (wB E a (sU (sU (markC (makeC st host port r rp) j5 r rp) 3 j5 ((markC (makeC st host port r rp) j5 r rp) 11 0)) 2 j5 2) w) H locs := G
            refine lv_goto (tgt := 123) hx hb dX1_goOut_89 (by decide) ?_
            refine lv_iload hx hb dX1_goOut_123 (lv_at hl 0 rfl) ?_
            exact g_iret X hr G (congrArg (fun z => wB E a z w) (by simp [goOutO, goOutC, goFin, flagO, oN, c2, c7, c10])) (by simp [goOutO, goOutC, goFin, flagO, oN, c2, c7, c10]) dX1_goOut_125
        · skip
          exact absurd c9 (nI_m6 (by omega))
  · skip
    have bj1 : j1 < 16 := seekO_lt c3
    refine lv_istore (lv' := [(6, .int (nI j1)), (0, .ref (a 0)), (1, .int (nI host)), (2, .int (nI port)), (3, .int (nI r)), (4, .int (nI rp)), (5, .int (nI f))]) hx hb dX1_goOut_16 hl (by decide) rfl (fun ls hl => ?_)
    refine lv_iload hx hb dX1_goOut_18 (lv_at hl 0 rfl) ?_
    refine lv_bipush (v := (-6)) hx hb dX1_goOut_20 (by decide) ?_
    refine lv_icmp_ne (tgt := 36) hx hb dX1_goOut_22 (by decide) (fun c13 => ?_) (fun c13 => ?_)
    · skip
      refine lv_iload hx hb dX1_goOut_36 (lv_at hl 0 rfl) ?_
      refine lv_bipush (v := (-6)) hx hb dX1_goOut_38 (by decide) ?_
      refine lv_icmp_ne (tgt := 46) hx hb dX1_goOut_40 (by decide) (fun c14 => ?_) (fun c14 => ?_)
      · skip
        refine lv_aload_n hx hb dX1_goOut_46 rfl (lv_at hl 1 rfl) ?_
        refine g_get X G fX1_26 0 rfl rfl dX1_goOut_47 ?_
        refine lv_iload hx hb dX1_goOut_50 (lv_at hl 0 rfl) ?_
        refine lv_iload_n hx hb dX1_goOut_52 rfl (lv_at hl 4 rfl) ?_
        refine lv_iload hx hb dX1_goOut_53 (lv_at hl 5 rfl) ?_
        refine g_callVv (As := [.int (nI j1), .int (nI r), .int (nI rp)]) (rest := []) X kX1_56 (c_X0_markSent l E a st w j1 (by omega) r (by omega) rp) G 2 rfl rfl ⟨Nat.le_of_ble_eq_true rfl, Nat.le_of_ble_eq_true rfl⟩ ⟨Nat.le_refl _, Nat.le_refl _⟩ rfl hl.1 rfl (Nat.le_of_ble_eq_true rfl) dX1_goOut_55 (fun H locs G => ?_)
        refine lv_aload_n hx hb dX1_goOut_58 rfl (lv_at hl 1 rfl) ?_
        refine g_get X G fX1_26 0 rfl rfl dX1_goOut_59 ?_
        refine g_get X G fX1_60 2 rfl rfl dX1_goOut_62 ?_
        refine lv_iload hx hb dX1_goOut_65 (lv_at hl 0 rfl) ?_
        refine lv_aload_n hx hb dX1_goOut_67 rfl (lv_at hl 1 rfl) ?_
        refine g_get X G fX1_37 0 rfl rfl dX1_goOut_68 ?_
        refine g_iast (j := j1) X G 6 rfl rfl (by omega) (by decide) dX1_goOut_71 (fun H locs G => ?_)
        have G : Gw E A s (wB E a (sU (markC st j1 r rp) 3 j1 ((markC st j1 r rp) 11 0)) w) H locs := G
        refine lv_iload hx hb dX1_goOut_72 (lv_at hl 6 rfl) ?_
        refine lv_iconst (v := 2) hx hb dX1_goOut_74 (by decide) ?_
        refine n_cmp_ne (tgt := 92) f 2 rfl rfl (by omega) (by omega) hx hb dX1_goOut_75 (by decide) (fun c15 => ?_) (fun c15 => ?_)
        · skip
          refine lv_iload hx hb dX1_goOut_92 (lv_at hl 6 rfl) ?_
          refine lv_iconst (v := 1) hx hb dX1_goOut_94 (by decide) ?_
          refine n_cmp_ne (tgt := 123) f 1 rfl rfl (by omega) (by omega) hx hb dX1_goOut_95 (by decide) (fun c16 => ?_) (fun c16 => ?_)
          · skip
            refine lv_iload hx hb dX1_goOut_123 (lv_at hl 0 rfl) ?_
            exact g_iret X hr G (congrArg (fun z => wB E a z w) (by simp [goOutO, goOutC, goFin, flagO, oN, c3, c15, c16])) (by simp [goOutO, goOutC, goFin, flagO, oN, c3, c15, c16]) dX1_goOut_125
          · skip
            refine lv_aload_n hx hb dX1_goOut_98 rfl (lv_at hl 1 rfl) ?_
            refine g_get X G fX1_26 0 rfl rfl dX1_goOut_99 ?_
            refine g_get X G fX1_63 2 rfl rfl dX1_goOut_102 ?_
            refine lv_iload hx hb dX1_goOut_105 (lv_at hl 0 rfl) ?_
            refine g_iald (j := j1) X G 5 rfl rfl (by omega) (by decide) dX1_goOut_107 ?_
            refine lv_iconst (v := 2) hx hb dX1_goOut_108 (by decide) ?_
            refine lv_icmp_ne (tgt := 123) hx hb dX1_goOut_109 (by decide) (fun c17 => ?_) (fun c17 => ?_)
            · skip
              refine lv_iload hx hb dX1_goOut_123 (lv_at hl 0 rfl) ?_
              exact g_iret X hr G (congrArg (fun z => wB E a z w) (by simp [goOutO, goOutC, goFin, flagO, oN, c3, c15, c16, c17])) (by simp [goOutO, goOutC, goFin, flagO, oN, c3, c15, c16, c17]) dX1_goOut_125
            · skip
              refine lv_aload_n hx hb dX1_goOut_112 rfl (lv_at hl 1 rfl) ?_
              refine g_get X G fX1_26 0 rfl rfl dX1_goOut_113 ?_
              refine g_get X G fX1_63 2 rfl rfl dX1_goOut_116 ?_
              refine lv_iload hx hb dX1_goOut_119 (lv_at hl 0 rfl) ?_
              refine lv_iconst (v := 0) hx hb dX1_goOut_121 (by decide) ?_
              refine g_iast (j := j1) X G 5 rfl rfl (by omega) (by decide) dX1_goOut_122 (fun H locs G => ?_)
              have G : Gw E A s (wB E a (sU (sU (markC st j1 r rp) 3 j1 ((markC st j1 r rp) 11 0)) 2 j1 0) w) H locs := G
              refine lv_iload hx hb dX1_goOut_123 (lv_at hl 0 rfl) ?_
              exact g_iret X hr G (congrArg (fun z => wB E a z w) (by simp [goOutO, goOutC, goFin, flagO, oN, c3, c15, c16, c17])) (by simp [goOutO, goOutC, goFin, flagO, oN, c3, c15, c16, c17]) dX1_goOut_125
        · skip
          refine lv_aload_n hx hb dX1_goOut_78 rfl (lv_at hl 1 rfl) ?_
          refine g_get X G fX1_26 0 rfl rfl dX1_goOut_79 ?_
          refine g_get X G fX1_63 2 rfl rfl dX1_goOut_82 ?_
          refine lv_iload hx hb dX1_goOut_85 (lv_at hl 0 rfl) ?_
          refine lv_iconst (v := 2) hx hb dX1_goOut_87 (by decide) ?_
          refine g_iast (j := j1) X G 5 rfl rfl (by omega) (by decide) dX1_goOut_88 (fun H locs G => ?_)
          have G : Gw E A s (wB E a (sU (sU (markC st j1 r rp) 3 j1 ((markC st j1 r rp) 11 0)) 2 j1 2) w) H locs := G
          refine lv_goto (tgt := 123) hx hb dX1_goOut_89 (by decide) ?_
          refine lv_iload hx hb dX1_goOut_123 (lv_at hl 0 rfl) ?_
          exact g_iret X hr G (congrArg (fun z => wB E a z w) (by simp [goOutO, goOutC, goFin, flagO, oN, c3, c15])) (by simp [goOutO, goOutC, goFin, flagO, oN, c3, c15]) dX1_goOut_125
      · skip
        exact absurd c14 (nI_m6 (by omega))
    · skip
      exact absurd c13 (nI_m6 (by omega))
set_option maxHeartbeats 4000000 in
set_option maxRecDepth 100000 in
theorem c_X1_reasonAgainst (l : Launch) (E : EE) (a : Nat → Nat) (st : St) (w : va_W) (r : Nat) (hr : r < 5) (rp : Nat) (hrp : rp < 32) (o : Nat) (ho : o < 16) : Ct l yX1_reasonAgainst cX1_reasonAgainst 4 (some .int) 1 E [.ref (a 0), .int (nI r), .int (nI rp), .int (nI o)] (wB E a st w) (nI (reasonC st r rp o)) (wB E a st w) := by
  refine Ct_mk RX1 rfl (by decide +kernel) (Nat.le_of_ble_eq_true rfl) ?_
  intro p e s m below meth c A ls X hr G hl
  have hl : lv_has ls 4 [(0, .ref (a 0)), (1, .int (nI r)), (2, .int (nI rp)), (3, .int (nI o))] := hl
  obtain ⟨hx, hb, hml, hown, hts, hK, hA, hlocks⟩ := id X
  refine lv_aload_n hx hb dX1_reasonAgainst_0 rfl (lv_at hl 0 rfl) ?_
  refine g_get X G fX1_26 0 rfl rfl dX1_reasonAgainst_1 ?_
  refine lv_iload_n hx hb dX1_reasonAgainst_4 rfl (lv_at hl 3 rfl) ?_
  refine g_callV (As := [.int (nI o)]) (rest := []) X kX1_80 (c_X0_isLent l E a st w o (by omega)) G 2 rfl rfl ⟨Nat.le_of_ble_eq_true rfl, Nat.le_of_ble_eq_true rfl⟩ ⟨Nat.le_refl _, Nat.le_refl _⟩ rfl hl.1 rfl (Nat.le_of_ble_eq_true rfl) dX1_reasonAgainst_5 (fun H locs G => ?_)
  refine b_ifne (tgt := 13) hx hb dX1_reasonAgainst_8 (by decide) (fun c1 => ?_) (fun c1 => ?_)
  · skip
    refine lv_aload_n hx hb dX1_reasonAgainst_13 rfl (lv_at hl 0 rfl) ?_
    refine g_get X G fX1_18 0 rfl rfl dX1_reasonAgainst_14 ?_
    refine lv_iconst (v := 1) hx hb dX1_reasonAgainst_17 (by decide) ?_
    refine g_iald (j := 1) X G 1 rfl rfl (by omega) (by decide) dX1_reasonAgainst_18 ?_
    refine lv_iconst (v := 1) hx hb dX1_reasonAgainst_19 (by decide) ?_
    refine lv_icmp_ne (tgt := 37) hx hb dX1_reasonAgainst_20 (by decide) (fun c2 => ?_) (fun c2 => ?_)
    · skip
      refine lv_aload_n hx hb dX1_reasonAgainst_37 rfl (lv_at hl 0 rfl) ?_
      refine g_get X G fX1_18 0 rfl rfl dX1_reasonAgainst_38 ?_
      refine lv_iconst (v := 1) hx hb dX1_reasonAgainst_41 (by decide) ?_
      refine g_iald (j := 1) X G 1 rfl rfl (by omega) (by decide) dX1_reasonAgainst_42 ?_
      refine lv_iconst (v := 2) hx hb dX1_reasonAgainst_43 (by decide) ?_
      refine lv_icmp_ne (tgt := 62) hx hb dX1_reasonAgainst_44 (by decide) (fun c3 => ?_) (fun c3 => ?_)
      · skip
        refine lv_iconst (v := 0) hx hb dX1_reasonAgainst_62 (by decide) ?_
        exact g_iret X hr G rfl (by first | (simp [reasonC, nI, c1, c2, c3]; done) | (clear G hl X hr hK hts; simp_all; done)) dX1_reasonAgainst_63
      · skip
        refine lv_aload_n hx hb dX1_reasonAgainst_47 rfl (lv_at hl 0 rfl) ?_
        refine g_get X G fX1_26 0 rfl rfl dX1_reasonAgainst_48 ?_
        refine lv_iload_n hx hb dX1_reasonAgainst_51 rfl (lv_at hl 3 rfl) ?_
        refine lv_iload_n hx hb dX1_reasonAgainst_52 rfl (lv_at hl 1 rfl) ?_
        refine lv_iload_n hx hb dX1_reasonAgainst_53 rfl (lv_at hl 2 rfl) ?_
        refine g_callV (As := [.int (nI o), .int (nI r), .int (nI rp)]) (rest := []) X kX1_88 (c_X0_isSent l E a st w o (by omega) r (by omega) rp) G 2 rfl rfl ⟨Nat.le_of_ble_eq_true rfl, Nat.le_of_ble_eq_true rfl⟩ ⟨Nat.le_refl _, Nat.le_refl _⟩ rfl hl.1 rfl (Nat.le_of_ble_eq_true rfl) dX1_reasonAgainst_54 (fun H locs G => ?_)
        refine b_ifne (tgt := 62) hx hb dX1_reasonAgainst_57 (by decide) (fun c4 => ?_) (fun c4 => ?_)
        · skip
          refine lv_iconst (v := 0) hx hb dX1_reasonAgainst_62 (by decide) ?_
          exact g_iret X hr G rfl (by first | (simp [reasonC, nI, c1, c2, c3, c4]; done) | (clear G hl X hr hK hts; simp_all; done)) dX1_reasonAgainst_63
        · skip
          refine lv_iconst (v := 2) hx hb dX1_reasonAgainst_60 (by decide) ?_
          exact g_iret X hr G rfl (by first | (simp [reasonC, nI, c1, c2, c3, c4]; done) | (clear G hl X hr hK hts; simp_all; done)) dX1_reasonAgainst_61
    · skip
      refine lv_aload_n hx hb dX1_reasonAgainst_23 rfl (lv_at hl 0 rfl) ?_
      refine g_get X G fX1_26 0 rfl rfl dX1_reasonAgainst_24 ?_
      refine lv_iload_n hx hb dX1_reasonAgainst_27 rfl (lv_at hl 3 rfl) ?_
      refine lv_iload_n hx hb dX1_reasonAgainst_28 rfl (lv_at hl 1 rfl) ?_
      refine g_callV (As := [.int (nI o), .int (nI r)]) (rest := []) X kX1_84 (c_X0_isAnySent l E a st w o (by omega) r (by omega)) G 2 rfl rfl ⟨Nat.le_of_ble_eq_true rfl, Nat.le_of_ble_eq_true rfl⟩ ⟨Nat.le_refl _, Nat.le_refl _⟩ rfl hl.1 rfl (Nat.le_of_ble_eq_true rfl) dX1_reasonAgainst_29 (fun H locs G => ?_)
      refine b_ifne (tgt := 37) hx hb dX1_reasonAgainst_32 (by decide) (fun c5 => ?_) (fun c5 => ?_)
      · skip
        refine lv_aload_n hx hb dX1_reasonAgainst_37 rfl (lv_at hl 0 rfl) ?_
        refine g_get X G fX1_18 0 rfl rfl dX1_reasonAgainst_38 ?_
        refine lv_iconst (v := 1) hx hb dX1_reasonAgainst_41 (by decide) ?_
        refine g_iald (j := 1) X G 1 rfl rfl (by omega) (by decide) dX1_reasonAgainst_42 ?_
        refine lv_iconst (v := 2) hx hb dX1_reasonAgainst_43 (by decide) ?_
        refine lv_icmp_ne (tgt := 62) hx hb dX1_reasonAgainst_44 (by decide) (fun c6 => ?_) (fun c6 => ?_)
        · skip
          refine lv_iconst (v := 0) hx hb dX1_reasonAgainst_62 (by decide) ?_
          exact g_iret X hr G rfl (by first | (simp [reasonC, nI, c1, c2, c5, c6]; done) | (clear G hl X hr hK hts; simp_all; done)) dX1_reasonAgainst_63
        · skip
          refine lv_aload_n hx hb dX1_reasonAgainst_47 rfl (lv_at hl 0 rfl) ?_
          refine g_get X G fX1_26 0 rfl rfl dX1_reasonAgainst_48 ?_
          refine lv_iload_n hx hb dX1_reasonAgainst_51 rfl (lv_at hl 3 rfl) ?_
          refine lv_iload_n hx hb dX1_reasonAgainst_52 rfl (lv_at hl 1 rfl) ?_
          refine lv_iload_n hx hb dX1_reasonAgainst_53 rfl (lv_at hl 2 rfl) ?_
          refine g_callV (As := [.int (nI o), .int (nI r), .int (nI rp)]) (rest := []) X kX1_88 (c_X0_isSent l E a st w o (by omega) r (by omega) rp) G 2 rfl rfl ⟨Nat.le_of_ble_eq_true rfl, Nat.le_of_ble_eq_true rfl⟩ ⟨Nat.le_refl _, Nat.le_refl _⟩ rfl hl.1 rfl (Nat.le_of_ble_eq_true rfl) dX1_reasonAgainst_54 (fun H locs G => ?_)
          refine b_ifne (tgt := 62) hx hb dX1_reasonAgainst_57 (by decide) (fun c7 => ?_) (fun c7 => ?_)
          · skip
            refine lv_iconst (v := 0) hx hb dX1_reasonAgainst_62 (by decide) ?_
            exact g_iret X hr G rfl (by first | (simp [reasonC, nI, c1, c2, c5, c6, c7]; done) | (clear G hl X hr hK hts; simp_all; done)) dX1_reasonAgainst_63
          · skip
            refine lv_iconst (v := 2) hx hb dX1_reasonAgainst_60 (by decide) ?_
            exact g_iret X hr G rfl (by first | (simp [reasonC, nI, c1, c2, c5, c6, c7]; done) | (clear G hl X hr hK hts; simp_all; done)) dX1_reasonAgainst_61
      · skip
        refine lv_iconst (v := 2) hx hb dX1_reasonAgainst_35 (by decide) ?_
        exact g_iret X hr G rfl (by first | (simp [reasonC, nI, c1, c2, c5]; done) | (clear G hl X hr hK hts; simp_all; done)) dX1_reasonAgainst_36
  · skip
    refine lv_iconst (v := 1) hx hb dX1_reasonAgainst_11 (by decide) ?_
    exact g_iret X hr G rfl (by first | (simp [reasonC, nI, c1]; done) | (clear G hl X hr hK hts; simp_all; done)) dX1_reasonAgainst_12
set_option maxHeartbeats 4000000 in
set_option maxRecDepth 100000 in
theorem c_X1_comeIn (l : Launch) (E : EE) (a : Nat → Nat) (st : St) (w : va_W) (r : Nat) (hr : r < 5) (rp : Nat) (hrp : rp < 32) (o : Nat) (ho : o < 16) (f : Nat) (hf : f < 3) : Ct l yX1_comeIn cX1_comeIn 5 (some .int) 2 E [.ref (a 0), .int (nI r), .int (nI rp), .int (nI o), .int (nI f)] (wB E a st w) (comeInR st r rp o f) (wB E a (comeInC st r rp o f) w) := by
  refine Ct_mk RX1 rfl (by decide +kernel) (Nat.le_of_ble_eq_true rfl) ?_
  intro p e s m below meth c A ls X hr G hl
  have hl : lv_has ls 5 [(0, .ref (a 0)), (1, .int (nI r)), (2, .int (nI rp)), (3, .int (nI o)), (4, .int (nI f))] := hl
  obtain ⟨hx, hb, hml, hown, hts, hK, hA, hlocks⟩ := id X
  refine lv_aload_n hx hb dX1_comeIn_0 rfl (lv_at hl 0 rfl) ?_
  refine lv_iload_n hx hb dX1_comeIn_1 rfl (lv_at hl 1 rfl) ?_
  refine lv_iload_n hx hb dX1_comeIn_2 rfl (lv_at hl 2 rfl) ?_
  refine lv_iload_n hx hb dX1_comeIn_3 rfl (lv_at hl 3 rfl) ?_
  refine g_callV (As := [.int (nI r), .int (nI rp), .int (nI o)]) (rest := []) X kX1_74 (c_X1_reasonAgainst l E a st w r (by omega) rp (by omega) o (by omega)) G 0 rfl rfl ⟨Nat.le_of_ble_eq_true rfl, Nat.le_of_ble_eq_true rfl⟩ ⟨Nat.le_refl _, Nat.le_refl _⟩ rfl hl.1 rfl (Nat.le_of_ble_eq_true rfl) dX1_comeIn_4 (fun H locs G => ?_)
  have b1 : (reasonC st r rp o) ≤ 2 := reasonC_le _ _ _ _
  refine n_if_eq (tgt := 13) (reasonC st r rp o) rfl (by omega) hx hb dX1_comeIn_7 (by decide) (fun c2 => ?_) (fun c2 => ?_)
  · skip
    refine lv_aload_n hx hb dX1_comeIn_13 rfl (lv_at hl 0 rfl) ?_
    refine g_get X G fX1_26 0 rfl rfl dX1_comeIn_14 ?_
    refine g_get X G fX1_60 2 rfl rfl dX1_comeIn_17 ?_
    refine lv_iload_n hx hb dX1_comeIn_20 rfl (lv_at hl 3 rfl) ?_
    refine lv_aload_n hx hb dX1_comeIn_21 rfl (lv_at hl 0 rfl) ?_
    refine g_get X G fX1_37 0 rfl rfl dX1_comeIn_22 ?_
    refine g_iast (j := o) X G 6 rfl rfl (by omega) (by decide) dX1_comeIn_25 (fun H locs G => ?_)
    have G : Gw E A s (wB E a (sU st 3 o (st 11 0)) w) H locs := G
    refine lv_iload hx hb dX1_comeIn_26 (lv_at hl 4 rfl) ?_
    refine lv_iconst (v := 2) hx hb dX1_comeIn_28 (by decide) ?_
    refine n_cmp_ne (tgt := 45) f 2 rfl rfl (by omega) (by omega) hx hb dX1_comeIn_29 (by decide) (fun c3 => ?_) (fun c3 => ?_)
    · skip
      refine lv_aload_n hx hb dX1_comeIn_45 rfl (lv_at hl 0 rfl) ?_
      refine g_get X G fX1_26 0 rfl rfl dX1_comeIn_46 ?_
      refine g_get X G fX1_63 2 rfl rfl dX1_comeIn_49 ?_
      refine lv_iload_n hx hb dX1_comeIn_52 rfl (lv_at hl 3 rfl) ?_
      refine g_iald (j := o) X G 5 rfl rfl (by omega) (by decide) dX1_comeIn_53 ?_
      refine lv_if_ne (tgt := 67) hx hb dX1_comeIn_54 (by decide) (fun c4 => ?_) (fun c4 => ?_)
      · skip
        refine lv_aload_n hx hb dX1_comeIn_67 rfl (lv_at hl 0 rfl) ?_
        refine g_get X G fX1_26 0 rfl rfl dX1_comeIn_68 ?_
        refine g_get X G fX1_77 2 rfl rfl dX1_comeIn_71 ?_
        refine lv_iload_n hx hb dX1_comeIn_74 rfl (lv_at hl 3 rfl) ?_
        refine g_iald (j := o) X G 4 rfl rfl (by omega) (by decide) dX1_comeIn_75 ?_
        exact g_iret X hr G (congrArg (fun z => wB E a z w) (by simp [comeInR, comeInC, flagI, c2, c3, c4])) (by simp [comeInR, comeInC, flagI, c2, c3, c4]) dX1_comeIn_76
      · skip
        refine lv_aload_n hx hb dX1_comeIn_57 rfl (lv_at hl 0 rfl) ?_
        refine g_get X G fX1_26 0 rfl rfl dX1_comeIn_58 ?_
        refine g_get X G fX1_63 2 rfl rfl dX1_comeIn_61 ?_
        refine lv_iload_n hx hb dX1_comeIn_64 rfl (lv_at hl 3 rfl) ?_
        refine lv_iconst (v := 1) hx hb dX1_comeIn_65 (by decide) ?_
        refine g_iast (j := o) X G 5 rfl rfl (by omega) (by decide) dX1_comeIn_66 (fun H locs G => ?_)
        have G : Gw E A s (wB E a (sU (sU st 3 o (st 11 0)) 2 o 1) w) H locs := G
        refine lv_aload_n hx hb dX1_comeIn_67 rfl (lv_at hl 0 rfl) ?_
        refine g_get X G fX1_26 0 rfl rfl dX1_comeIn_68 ?_
        refine g_get X G fX1_77 2 rfl rfl dX1_comeIn_71 ?_
        refine lv_iload_n hx hb dX1_comeIn_74 rfl (lv_at hl 3 rfl) ?_
        refine g_iald (j := o) X G 4 rfl rfl (by omega) (by decide) dX1_comeIn_75 ?_
        exact g_iret X hr G (congrArg (fun z => wB E a z w) (by simp [comeInR, comeInC, flagI, c2, c3, c4])) (by simp [comeInR, comeInC, flagI, c2, c3, c4]) dX1_comeIn_76
    · skip
      refine lv_aload_n hx hb dX1_comeIn_32 rfl (lv_at hl 0 rfl) ?_
      refine g_get X G fX1_26 0 rfl rfl dX1_comeIn_33 ?_
      refine g_get X G fX1_63 2 rfl rfl dX1_comeIn_36 ?_
      refine lv_iload_n hx hb dX1_comeIn_39 rfl (lv_at hl 3 rfl) ?_
      refine lv_iconst (v := 2) hx hb dX1_comeIn_40 (by decide) ?_
      refine g_iast (j := o) X G 5 rfl rfl (by omega) (by decide) dX1_comeIn_41 (fun H locs G => ?_)
      have G : Gw E A s (wB E a (sU (sU st 3 o (st 11 0)) 2 o 2) w) H locs := G
      refine lv_goto (tgt := 67) hx hb dX1_comeIn_42 (by decide) ?_
      refine lv_aload_n hx hb dX1_comeIn_67 rfl (lv_at hl 0 rfl) ?_
      refine g_get X G fX1_26 0 rfl rfl dX1_comeIn_68 ?_
      refine g_get X G fX1_77 2 rfl rfl dX1_comeIn_71 ?_
      refine lv_iload_n hx hb dX1_comeIn_74 rfl (lv_at hl 3 rfl) ?_
      refine g_iald (j := o) X G 4 rfl rfl (by omega) (by decide) dX1_comeIn_75 ?_
      exact g_iret X hr G (congrArg (fun z => wB E a z w) (by simp [comeInR, comeInC, flagI, c2, c3])) (by simp [comeInR, comeInC, flagI, c2, c3]) dX1_comeIn_76
  · skip
    refine lv_bipush (v := (-6)) hx hb dX1_comeIn_10 (by decide) ?_
    exact g_iret X hr G (congrArg (fun z => wB E a z w) (by simp [comeInR, comeInC, flagI, c2])) (by simp [comeInR, comeInC, flagI, c2]) dX1_comeIn_12
set_option maxHeartbeats 4000000 in
set_option maxRecDepth 100000 in
theorem c_X1_takeFirstPart (l : Launch) (E : EE) (a : Nat → Nat) (st : St) (w : va_W) (k : Nat) (hk : k < 32) (r : Nat) (hr : r < 5) (rp : Nat) (hrp : rp < 32) (o : Nat) (ho : o < 16) : Ct l yX1_takeFirstPart cX1_takeFirstPart 7 (some .int) 3 E [.ref (a 0), .int (nI k), .int (nI r), .int (nI rp), .int (nI o)] (wB E a st w) ((tfpC st k r rp o).1) (wB E a ((tfpC st k r rp o).2) w) := by
  refine Ct_mk RX1 rfl (by decide +kernel) (Nat.le_of_ble_eq_true rfl) ?_
  intro p e s m below meth c A ls X hr G hl
  have hl : lv_has ls 7 [(0, .ref (a 0)), (1, .int (nI k)), (2, .int (nI r)), (3, .int (nI rp)), (4, .int (nI o))] := hl
  obtain ⟨hx, hb, hml, hown, hts, hK, hA, hlocks⟩ := id X
  refine lv_aload_n hx hb dX1_takeFirstPart_0 rfl (lv_at hl 0 rfl) ?_
  refine lv_iload_n hx hb dX1_takeFirstPart_1 rfl (lv_at hl 2 rfl) ?_
  refine lv_iload_n hx hb dX1_takeFirstPart_2 rfl (lv_at hl 3 rfl) ?_
  refine lv_iload hx hb dX1_takeFirstPart_3 (lv_at hl 4 rfl) ?_
  refine lv_iconst (v := 0) hx hb dX1_takeFirstPart_5 (by decide) ?_
  refine g_callV (As := [.int (nI r), .int (nI rp), .int (nI o), .int 0]) (rest := []) X kX1_92 (c_X1_comeIn l E a st w r (by omega) rp (by omega) o (by omega) 0 (by omega)) G 0 rfl rfl ⟨Nat.le_of_ble_eq_true rfl, Nat.le_of_ble_eq_true rfl⟩ ⟨Nat.le_refl _, Nat.le_refl _⟩ rfl hl.1 rfl (Nat.le_of_ble_eq_true rfl) dX1_takeFirstPart_6 (fun H locs G => ?_)
  refine lv_bipush (v := (-6)) hx hb dX1_takeFirstPart_9 (by decide) ?_
  refine lv_icmp_eq (tgt := 18) hx hb dX1_takeFirstPart_11 (by decide) (fun c1 => ?_) (fun c1 => ?_)
  · skip
    refine lv_iconst (v := 0) hx hb dX1_takeFirstPart_18 (by decide) ?_
    refine lv_istore (lv' := [(5, .int 0), (0, .ref (a 0)), (1, .int (nI k)), (2, .int (nI r)), (3, .int (nI rp)), (4, .int (nI o))]) hx hb dX1_takeFirstPart_19 hl (by decide) rfl (fun ls hl => ?_)
    refine lv_aload_n hx hb dX1_takeFirstPart_21 rfl (lv_at hl 1 rfl) ?_
    refine g_get X G fX1_33 0 rfl rfl dX1_takeFirstPart_22 ?_
    refine lv_iload_n hx hb dX1_takeFirstPart_25 rfl (lv_at hl 2 rfl) ?_
    refine g_callV (As := [.int (nI k)]) (rest := []) X kX1_95 (c_X2_releaseHeld l E a (comeInC st r rp o 0) w (nI k)) G 3 rfl rfl ⟨Nat.le_of_ble_eq_true rfl, Nat.le_of_ble_eq_true rfl⟩ ⟨Nat.le_refl _, Nat.le_refl _⟩ rfl hl.1 rfl (Nat.le_of_ble_eq_true rfl) dX1_takeFirstPart_26 (fun H locs G => ?_)
    refine lv_istore (lv' := [(6, .int (nI ((iF (relS (nI k)) 6 0 ((comeInC st r rp o 0), 0)).2))), (5, .int 0), (0, .ref (a 0)), (1, .int (nI k)), (2, .int (nI r)), (3, .int (nI rp)), (4, .int (nI o))]) hx hb dX1_takeFirstPart_29 hl (by decide) rfl (fun ls hl => ?_)
    refine lv_iload hx hb dX1_takeFirstPart_31 (lv_at hl 1 rfl) ?_
    refine lv_if_ne (tgt := 47) hx hb dX1_takeFirstPart_33 (by decide) (fun c2 => ?_) (fun c2 => ?_)
    · skip
      exact absurd c2 (by decide)
    · skip
      refine lv_aload_n hx hb dX1_takeFirstPart_36 rfl (lv_at hl 2 rfl) ?_
      refine g_get X G fX1_33 0 rfl rfl dX1_takeFirstPart_37 ?_
      refine lv_iload_n hx hb dX1_takeFirstPart_40 rfl (lv_at hl 3 rfl) ?_
      refine g_callVv (As := [.int (nI k)]) (rest := []) X kX1_99 (c_X2_forget l E a ((iF (relS (nI k)) 6 0 ((comeInC st r rp o 0), 0)).1) w k (by omega)) G 3 rfl rfl ⟨Nat.le_of_ble_eq_true rfl, Nat.le_of_ble_eq_true rfl⟩ ⟨Nat.le_refl _, Nat.le_refl _⟩ rfl hl.1 rfl (Nat.le_of_ble_eq_true rfl) dX1_takeFirstPart_41 (fun H locs G => ?_)
      refine lv_bipush (v := (-6)) hx hb dX1_takeFirstPart_44 (by decide) ?_
      exact g_iret X hr G (congrArg (fun z => wB E a z w) (by simp [tfpC, c1])) (by simp [tfpC, c1]) dX1_takeFirstPart_46
  · skip
    refine lv_iconst (v := 1) hx hb dX1_takeFirstPart_14 (by decide) ?_
    refine lv_goto (tgt := 19) hx hb dX1_takeFirstPart_15 (by decide) ?_
    refine lv_istore (lv' := [(5, .int 1), (0, .ref (a 0)), (1, .int (nI k)), (2, .int (nI r)), (3, .int (nI rp)), (4, .int (nI o))]) hx hb dX1_takeFirstPart_19 hl (by decide) rfl (fun ls hl => ?_)
    refine lv_aload_n hx hb dX1_takeFirstPart_21 rfl (lv_at hl 1 rfl) ?_
    refine g_get X G fX1_33 0 rfl rfl dX1_takeFirstPart_22 ?_
    refine lv_iload_n hx hb dX1_takeFirstPart_25 rfl (lv_at hl 2 rfl) ?_
    refine g_callV (As := [.int (nI k)]) (rest := []) X kX1_95 (c_X2_releaseHeld l E a (comeInC st r rp o 0) w (nI k)) G 3 rfl rfl ⟨Nat.le_of_ble_eq_true rfl, Nat.le_of_ble_eq_true rfl⟩ ⟨Nat.le_refl _, Nat.le_refl _⟩ rfl hl.1 rfl (Nat.le_of_ble_eq_true rfl) dX1_takeFirstPart_26 (fun H locs G => ?_)
    refine lv_istore (lv' := [(6, .int (nI ((iF (relS (nI k)) 6 0 ((comeInC st r rp o 0), 0)).2))), (5, .int 1), (0, .ref (a 0)), (1, .int (nI k)), (2, .int (nI r)), (3, .int (nI rp)), (4, .int (nI o))]) hx hb dX1_takeFirstPart_29 hl (by decide) rfl (fun ls hl => ?_)
    refine lv_iload hx hb dX1_takeFirstPart_31 (lv_at hl 1 rfl) ?_
    refine lv_if_ne (tgt := 47) hx hb dX1_takeFirstPart_33 (by decide) (fun c3 => ?_) (fun c3 => ?_)
    · skip
      refine lv_aload_n hx hb dX1_takeFirstPart_47 rfl (lv_at hl 2 rfl) ?_
      refine g_get X G fX1_33 0 rfl rfl dX1_takeFirstPart_48 ?_
      refine lv_iload_n hx hb dX1_takeFirstPart_51 rfl (lv_at hl 3 rfl) ?_
      refine lv_iload hx hb dX1_takeFirstPart_52 (lv_at hl 6 rfl) ?_
      refine lv_aload_n hx hb dX1_takeFirstPart_54 rfl (lv_at hl 2 rfl) ?_
      refine g_get X G fX1_37 0 rfl rfl dX1_takeFirstPart_55 ?_
      refine g_callVv (As := [.int (nI k), .int (nI o), .int (((iF (relS (nI k)) 6 0 ((comeInC st r rp o 0), 0)).1) 11 0)]) (rest := []) X kX1_103 (c_X2_know l E a ((iF (relS (nI k)) 6 0 ((comeInC st r rp o 0), 0)).1) w k (by omega) (nI o) (((iF (relS (nI k)) 6 0 ((comeInC st r rp o 0), 0)).1) 11 0)) G 3 rfl rfl ⟨Nat.le_of_ble_eq_true rfl, Nat.le_of_ble_eq_true rfl⟩ ⟨Nat.le_refl _, Nat.le_refl _⟩ rfl hl.1 rfl (Nat.le_of_ble_eq_true rfl) dX1_takeFirstPart_58 (fun H locs G => ?_)
      refine lv_iconst (v := 1) hx hb dX1_takeFirstPart_61 (by decide) ?_
      refine lv_iload hx hb dX1_takeFirstPart_62 (lv_at hl 0 rfl) ?_
      refine n_iadd 1 ((iF (relS (nI k)) 6 0 ((comeInC st r rp o 0), 0)).2) rfl rfl hx hb dX1_takeFirstPart_64 ?_
      exact g_iret X hr G (congrArg (fun z => wB E a z w) (by simp [tfpC, c1])) (by simp [tfpC, c1]) dX1_takeFirstPart_65
    · skip
      exact absurd c3 (by decide)
set_option maxHeartbeats 4000000 in
set_option maxRecDepth 100000 in
theorem c_X1_takeOtherPart (l : Launch) (E : EE) (a : Nat → Nat) (st : St) (w : va_W) (k : Nat) (hk : k < 32) (pt : Nat) (hpt : pt < 8) : Ct l yX1_takeOtherPart cX1_takeOtherPart 3 (some .int) 2 E [.ref (a 0), .int (nI k), .int (nI pt)] (wB E a st w) ((topC st k pt).1) (wB E a ((topC st k pt).2) w) := by
  refine Ct_mk RX1 rfl (by decide +kernel) (Nat.le_of_ble_eq_true rfl) ?_
  intro p e s m below meth c A ls X hr G hl
  have hl : lv_has ls 3 [(0, .ref (a 0)), (1, .int (nI k)), (2, .int (nI pt))] := hl
  obtain ⟨hx, hb, hml, hown, hts, hK, hA, hlocks⟩ := id X
  refine lv_aload_n hx hb dX1_takeOtherPart_0 rfl (lv_at hl 0 rfl) ?_
  refine g_get X G fX1_33 0 rfl rfl dX1_takeOtherPart_1 ?_
  refine lv_iload_n hx hb dX1_takeOtherPart_4 rfl (lv_at hl 1 rfl) ?_
  refine g_callV (As := [.int (nI k)]) (rest := []) X kX1_106 (c_X2_isKnown l E a st w k (by omega)) G 3 rfl rfl ⟨Nat.le_of_ble_eq_true rfl, Nat.le_of_ble_eq_true rfl⟩ ⟨Nat.le_refl _, Nat.le_refl _⟩ rfl hl.1 rfl (Nat.le_of_ble_eq_true rfl) dX1_takeOtherPart_5 (fun H locs G => ?_)
  refine b_ifeq (tgt := 15) hx hb dX1_takeOtherPart_8 (by decide) (fun c1 => ?_) (fun c1 => ?_)
  · skip
    refine lv_aload_n hx hb dX1_takeOtherPart_15 rfl (lv_at hl 0 rfl) ?_
    refine g_get X G fX1_33 0 rfl rfl dX1_takeOtherPart_16 ?_
    refine lv_iload_n hx hb dX1_takeOtherPart_19 rfl (lv_at hl 1 rfl) ?_
    refine lv_iload_n hx hb dX1_takeOtherPart_20 rfl (lv_at hl 2 rfl) ?_
    refine lv_aload_n hx hb dX1_takeOtherPart_21 rfl (lv_at hl 0 rfl) ?_
    refine g_get X G fX1_37 0 rfl rfl dX1_takeOtherPart_22 ?_
    refine g_callV (As := [.int (nI k), .int (nI pt), .int (st 11 0)]) (rest := []) X kX1_109 (c_X2_hold l E a st w k (by omega) pt (by omega) (st 11 0)) G 3 rfl rfl ⟨Nat.le_of_ble_eq_true rfl, Nat.le_of_ble_eq_true rfl⟩ ⟨Nat.le_refl _, Nat.le_refl _⟩ rfl hl.1 rfl (Nat.le_of_ble_eq_true rfl) dX1_takeOtherPart_25 (fun H locs G => ?_)
    exact g_iret X hr G (congrArg (fun z => wB E a z w) (by simp [topC, c1])) (by simp [topC, c1]) dX1_takeOtherPart_28
  · skip
    refine lv_iconst (v := 1) hx hb dX1_takeOtherPart_11 (by decide) ?_
    refine lv_goto (tgt := 28) hx hb dX1_takeOtherPart_12 (by decide) ?_
    exact g_iret X hr G (congrArg (fun z => wB E a z w) (by simp [topC, c1])) (by simp [topC, c1]) dX1_takeOtherPart_28
set_option maxHeartbeats 4000000 in
set_option maxRecDepth 100000 in
theorem c_X1_passTicks (l : Launch) (E : EE) (a : Nat → Nat) (st : St) (w : va_W) (n : Int32) : Ct l yX1_passTicks cX1_passTicks 2 (some .int) 4 E [.ref (a 0), .int n] (wB E a st w) (nI ((passC st n).2)) (wB E a ((passC st n).1) w) := by
  refine Ct_mk RX1 rfl (by decide +kernel) (Nat.le_of_ble_eq_true rfl) ?_
  intro p e s m below meth c A ls X hr G hl
  have hl : lv_has ls 2 [(0, .ref (a 0)), (1, .int n)] := hl
  obtain ⟨hx, hb, hml, hown, hts, hK, hA, hlocks⟩ := id X
  refine lv_aload_n hx hb dX1_passTicks_0 rfl (lv_at hl 0 rfl) ?_
  refine lv_dup hx hb dX1_passTicks_1 rfl ?_
  refine g_get X G fX1_37 0 rfl rfl dX1_passTicks_2 ?_
  refine lv_iload_n hx hb dX1_passTicks_5 rfl (lv_at hl 1 rfl) ?_
  refine lv_iadd hx hb dX1_passTicks_6 ?_
  refine g_put X G fX1_37 tyX1 tyX1_ok nmX1 0 rfl rfl rfl (by simp) dX1_passTicks_7 (fun H locs G => ?_)
  have G : Gw E A s (wB E a (sU st 11 0 ((st 11 0) + n)) w) H locs := G
  refine lv_aload_n hx hb dX1_passTicks_10 rfl (lv_at hl 0 rfl) ?_
  refine g_get X G fX1_33 0 rfl rfl dX1_passTicks_11 ?_
  refine lv_aload_n hx hb dX1_passTicks_14 rfl (lv_at hl 0 rfl) ?_
  refine g_get X G fX1_37 0 rfl rfl dX1_passTicks_15 ?_
  refine g_callVv (As := [.int ((sU st 11 0 ((st 11 0) + n)) 11 0)]) (rest := []) X kX1_112 (c_X2_endOld l E a (sU st 11 0 ((st 11 0) + n)) w ((sU st 11 0 ((st 11 0) + n)) 11 0)) G 3 rfl rfl ⟨Nat.le_of_ble_eq_true rfl, Nat.le_of_ble_eq_true rfl⟩ ⟨Nat.le_refl _, Nat.le_refl _⟩ rfl hl.1 rfl (Nat.le_of_ble_eq_true rfl) dX1_passTicks_18 (fun H locs G => ?_)
  refine lv_aload_n hx hb dX1_passTicks_21 rfl (lv_at hl 0 rfl) ?_
  refine g_callV (As := []) (rest := []) X kX1_44 (c_X1_endLapsed l E a (endOldC (sU st 11 0 ((st 11 0) + n)) ((sU st 11 0 ((st 11 0) + n)) 11 0)) w) G 0 rfl rfl ⟨Nat.le_of_ble_eq_true rfl, Nat.le_of_ble_eq_true rfl⟩ ⟨Nat.le_refl _, Nat.le_refl _⟩ rfl hl.1 rfl (Nat.le_of_ble_eq_true rfl) dX1_passTicks_22 (fun H locs G => ?_)
  exact g_iret X hr G (congrArg (fun z => wB E a z w) (by rfl)) (by rfl) dX1_passTicks_25
set_option maxHeartbeats 4000000 in
set_option maxRecDepth 100000 in
theorem c_X1_tellOfBinding (l : Launch) (E : EE) (a : Nat → Nat) (st : St) (w : va_W) (o : Nat) (ho : o < 16) (what : Int32) : Ct l yX1_tellOfBinding cX1_tellOfBinding 3 (some .int) 2 E [.ref (a 0), .int (nI o), .int what] (wB E a st w) (tellB st o what) (wB E a st w) := by
  refine Ct_mk RX1 rfl (by decide +kernel) (Nat.le_of_ble_eq_true rfl) ?_
  intro p e s m below meth c A ls X hr G hl
  have hl : lv_has ls 3 [(0, .ref (a 0)), (1, .int (nI o)), (2, .int what)] := hl
  obtain ⟨hx, hb, hml, hown, hts, hK, hA, hlocks⟩ := id X
  refine lv_iload_n hx hb dX1_tellOfBinding_0 rfl (lv_at hl 2 rfl) ?_
  by_cases c1 : what = 0
  · skip
    refine lv_tableIn (off := 35) (tgt := 36) hx hb dX1_tellOfBinding_1 (by rw [c1]; decide) (by rw [c1]; decide) (by rw [c1]; rfl) (by decide) ?_
    refine lv_aload_n hx hb dX1_tellOfBinding_36 rfl (lv_at hl 0 rfl) ?_
    refine g_get X G fX1_26 0 rfl rfl dX1_tellOfBinding_37 ?_
    refine g_get X G fX1_77 2 rfl rfl dX1_tellOfBinding_40 ?_
    refine lv_iload_n hx hb dX1_tellOfBinding_43 rfl (lv_at hl 1 rfl) ?_
    refine g_iald (j := o) X G 4 rfl rfl (by omega) (by decide) dX1_tellOfBinding_44 ?_
    exact g_iret X hr G rfl (by simp [tellB, c1]) dX1_tellOfBinding_45
  by_cases c2 : what = 1
  · skip
    refine lv_tableIn (off := 45) (tgt := 46) hx hb dX1_tellOfBinding_1 (by rw [c2]; decide) (by rw [c2]; decide) (by rw [c2]; rfl) (by decide) ?_
    refine lv_aload_n hx hb dX1_tellOfBinding_46 rfl (lv_at hl 0 rfl) ?_
    refine g_get X G fX1_26 0 rfl rfl dX1_tellOfBinding_47 ?_
    refine g_get X G fX1_63 2 rfl rfl dX1_tellOfBinding_50 ?_
    refine lv_iload_n hx hb dX1_tellOfBinding_53 rfl (lv_at hl 1 rfl) ?_
    refine g_iald (j := o) X G 5 rfl rfl (by omega) (by decide) dX1_tellOfBinding_54 ?_
    exact g_iret X hr G rfl (by simp [tellB, c1, c2]) dX1_tellOfBinding_55
  by_cases c3 : what = 2
  · skip
    refine lv_tableIn (off := 55) (tgt := 56) hx hb dX1_tellOfBinding_1 (by rw [c3]; decide) (by rw [c3]; decide) (by rw [c3]; rfl) (by decide) ?_
    refine lv_aload_n hx hb dX1_tellOfBinding_56 rfl (lv_at hl 0 rfl) ?_
    refine lv_iload_n hx hb dX1_tellOfBinding_57 rfl (lv_at hl 1 rfl) ?_
    refine g_callV (As := [.int (nI o)]) (rest := []) X kX1_124 (c_X1_ticksLeft l E a st w o (by omega)) G 0 rfl rfl ⟨Nat.le_of_ble_eq_true rfl, Nat.le_of_ble_eq_true rfl⟩ ⟨Nat.le_refl _, Nat.le_refl _⟩ rfl hl.1 rfl (Nat.le_of_ble_eq_true rfl) dX1_tellOfBinding_58 (fun H locs G => ?_)
    exact g_iret X hr G rfl (by simp [tellB, c1, c2, c3]) dX1_tellOfBinding_61
  by_cases c4 : what = 3
  · skip
    refine lv_tableIn (off := 61) (tgt := 62) hx hb dX1_tellOfBinding_1 (by rw [c4]; decide) (by rw [c4]; decide) (by rw [c4]; rfl) (by decide) ?_
    refine lv_aload_n hx hb dX1_tellOfBinding_62 rfl (lv_at hl 0 rfl) ?_
    refine g_get X G fX1_26 0 rfl rfl dX1_tellOfBinding_63 ?_
    refine lv_iload_n hx hb dX1_tellOfBinding_66 rfl (lv_at hl 1 rfl) ?_
    refine g_callV (As := [.int (nI o)]) (rest := []) X kX1_127 (c_X0_countSent l E a st w o (by omega)) G 2 rfl rfl ⟨Nat.le_of_ble_eq_true rfl, Nat.le_of_ble_eq_true rfl⟩ ⟨Nat.le_refl _, Nat.le_refl _⟩ rfl hl.1 rfl (Nat.le_of_ble_eq_true rfl) dX1_tellOfBinding_67 (fun H locs G => ?_)
    exact g_iret X hr G rfl (by simp [tellB, c1, c2, c3, c4]) dX1_tellOfBinding_70
  by_cases c5 : what = 4
  · skip
    refine lv_tableIn (off := 70) (tgt := 71) hx hb dX1_tellOfBinding_1 (by rw [c5]; decide) (by rw [c5]; decide) (by rw [c5]; rfl) (by decide) ?_
    refine lv_aload_n hx hb dX1_tellOfBinding_71 rfl (lv_at hl 0 rfl) ?_
    refine g_get X G fX1_26 0 rfl rfl dX1_tellOfBinding_72 ?_
    refine g_get X G fX1_130 2 rfl rfl dX1_tellOfBinding_75 ?_
    refine lv_iload_n hx hb dX1_tellOfBinding_78 rfl (lv_at hl 1 rfl) ?_
    refine g_iald (j := o) X G 7 rfl rfl (by omega) (by decide) dX1_tellOfBinding_79 ?_
    exact g_iret X hr G rfl (by simp [tellB, c1, c2, c3, c4, c5]) dX1_tellOfBinding_80
  have c6 : what.toInt < 0 ∨ 4 < what.toInt := tb_out4 c1 c2 c3 c4 c5
  refine lv_tableOut (tgt := 81) hx hb dX1_tellOfBinding_1 c6 (by decide) ?_
  refine lv_aload_n hx hb dX1_tellOfBinding_81 rfl (lv_at hl 0 rfl) ?_
  refine g_get X G fX1_26 0 rfl rfl dX1_tellOfBinding_82 ?_
  refine g_get X G fX1_133 2 rfl rfl dX1_tellOfBinding_85 ?_
  refine lv_iload_n hx hb dX1_tellOfBinding_88 rfl (lv_at hl 1 rfl) ?_
  refine g_iald (j := o) X G 8 rfl rfl (by omega) (by decide) dX1_tellOfBinding_89 ?_
  exact g_iret X hr G rfl (by simp [tellB, c1, c2, c3, c4, c5]) dX1_tellOfBinding_90
set_option maxHeartbeats 4000000 in
set_option maxRecDepth 100000 in
theorem c_X1_countFitFor (l : Launch) (E : EE) (a : Nat → Nat) (st : St) (w : va_W) (h : Int32) (port : Nat) (hport : port < 32) : Ct l yX1_countFitFor cX1_countFitFor 6 (some .int) 3 E [.ref (a 0), .int h, .int (nI port)] (wB E a st w) (nI (countFitC st h port)) (wB E a st w) := by
  refine Ct_mk RX1 rfl (by decide +kernel) (Nat.le_of_ble_eq_true rfl) ?_
  intro p e s m below meth c A ls X hr G hl
  have hl : lv_has ls 6 [(0, .ref (a 0)), (1, .int h), (2, .int (nI port))] := hl
  obtain ⟨hx, hb, hml, hown, hts, hK, hA, hlocks⟩ := id X
  refine lv_iconst (v := 0) hx hb dX1_countFitFor_0 (by decide) ?_
  refine lv_istore_n (lv' := [(3, .int 0), (0, .ref (a 0)), (1, .int h), (2, .int (nI port))]) hx hb dX1_countFitFor_1 rfl hl (by decide) rfl (fun ls hl => ?_)
  refine lv_iconst (v := 0) hx hb dX1_countFitFor_2 (by decide) ?_
  refine lv_istore (lv' := [(4, .int 0), (3, .int 0), (0, .ref (a 0)), (1, .int h), (2, .int (nI port))]) hx hb dX1_countFitFor_3 hl (by decide) rfl (fun ls hl => ?_)
  have LP5 : ∀ (n i : Nat) (k : Nat) (H : Heap) (locs : List Loc) (ls : Array Slot), (i + n = 16) → (k + cF (fun o => (decide (holderC st (o / 4) = h) || decide (holderC st (o / 4) = -6)) && fitC st o port) n i = countFitC st h port) → Gw E A s (wB E a st w) H locs → lv_has ls 6 [(0, .ref (a 0)), (1, .int h), (2, .int (nI port)), (3, .int (nI k)), (4, .int (nI i))] → W p l e (rmD 3) s m ([.ref (a 0), .int h, .int (nI port)] : List Value).toArray below meth c H locs 0 0 (MQ below (CtQ E A (nI (countFitC st h port)) (wB E a st w)) ([.ref (a 0), .int h, .int (nI port)] : List Value).toArray s 0 0 A) (F0 m 5 ls []) := by
    intro n
    induction n with
    | zero =>
      intro i k H locs ls hi hR G hl
      refine lv_iload hx hb dX1_countFitFor_5 (lv_at hl 4 rfl) ?_
      refine lv_bipush (v := 16) hx hb dX1_countFitFor_7 (by decide) ?_
      refine n_cmp_ge (tgt := 57) i 16 rfl rfl (by omega) (by omega) hx hb dX1_countFitFor_9 (by decide) (fun c1 => ?_) (fun c1 => ?_)
      · skip
        refine lv_iload_n hx hb dX1_countFitFor_57 rfl (lv_at hl 3 rfl) ?_
        exact g_iret X hr G rfl (by rw [← hR]; simp [cF]) dX1_countFitFor_58
      · skip
        exact absurd c1 (by omega)
    | succ n ih5 =>
      intro i k H locs ls hi hR G hl
      refine lv_iload hx hb dX1_countFitFor_5 (lv_at hl 4 rfl) ?_
      refine lv_bipush (v := 16) hx hb dX1_countFitFor_7 (by decide) ?_
      refine n_cmp_ge (tgt := 57) i 16 rfl rfl (by omega) (by omega) hx hb dX1_countFitFor_9 (by decide) (fun c2 => ?_) (fun c2 => ?_)
      · skip
        exact absurd c2 (by omega)
      · skip
        refine lv_aload_n hx hb dX1_countFitFor_12 rfl (lv_at hl 0 rfl) ?_
        refine g_get X G fX1_26 0 rfl rfl dX1_countFitFor_13 ?_
        refine lv_iload hx hb dX1_countFitFor_16 (lv_at hl 4 rfl) ?_
        refine lv_iconst (v := 4) hx hb dX1_countFitFor_18 (by decide) ?_
        refine n_idiv i 4 rfl rfl (by omega) (by decide) (by decide) hx hb dX1_countFitFor_19 ?_
        refine g_callV (As := [.int (nI (i / 4))]) (rest := []) X kX1_118 (c_X0_holderOf l E a st w (i / 4) (by omega)) G 2 rfl rfl ⟨Nat.le_of_ble_eq_true rfl, Nat.le_of_ble_eq_true rfl⟩ ⟨Nat.le_refl _, Nat.le_refl _⟩ rfl hl.1 rfl (Nat.le_of_ble_eq_true rfl) dX1_countFitFor_20 (fun H locs G => ?_)
        refine lv_istore (lv' := [(5, .int (holderC st (i / 4))), (0, .ref (a 0)), (1, .int h), (2, .int (nI port)), (3, .int (nI k)), (4, .int (nI i))]) hx hb dX1_countFitFor_23 hl (by decide) rfl (fun ls hl => ?_)
        refine lv_iload hx hb dX1_countFitFor_25 (lv_at hl 0 rfl) ?_
        refine lv_iload_n hx hb dX1_countFitFor_27 rfl (lv_at hl 2 rfl) ?_
        refine lv_icmp_eq (tgt := 38) hx hb dX1_countFitFor_28 (by decide) (fun c3 => ?_) (fun c3 => ?_)
        · skip
          refine lv_aload_n hx hb dX1_countFitFor_38 rfl (lv_at hl 1 rfl) ?_
          refine lv_iload hx hb dX1_countFitFor_39 (lv_at hl 5 rfl) ?_
          refine lv_iload_n hx hb dX1_countFitFor_41 rfl (lv_at hl 3 rfl) ?_
          refine g_callV (As := [.int (nI i), .int (nI port)]) (rest := []) X kX1_115 (c_X1_isFit l E a st w i (by omega) port (by omega)) G 0 rfl rfl ⟨Nat.le_of_ble_eq_true rfl, Nat.le_of_ble_eq_true rfl⟩ ⟨Nat.le_refl _, Nat.le_refl _⟩ rfl hl.1 rfl (Nat.le_of_ble_eq_true rfl) dX1_countFitFor_42 (fun H locs G => ?_)
          refine b_ifeq (tgt := 51) hx hb dX1_countFitFor_45 (by decide) (fun c4 => ?_) (fun c4 => ?_)
          · skip
            refine lv_iinc (v := nI (i + 1)) (lv' := [(4, .int (nI (i + 1))), (5, .int (holderC st (i / 4))), (0, .ref (a 0)), (1, .int h), (2, .int (nI port)), (3, .int (nI k))]) hx hb dX1_countFitFor_51 hl (k := 5) rfl (nI_inc _) (by decide) rfl (fun ls hl => ?_)
            refine lv_goto (tgt := 5) hx hb dX1_countFitFor_54 (by decide) ?_
            exact ih5 (i + 1) k _ _ ls (by omega) (by simp [cF, c2, c3, c4] at hR ⊢; omega) G (lv_sub hl [2, 3, 4, 5, 0] rfl)
          · skip
            refine lv_iinc (v := nI (k + 1)) (lv' := [(3, .int (nI (k + 1))), (5, .int (holderC st (i / 4))), (0, .ref (a 0)), (1, .int h), (2, .int (nI port)), (4, .int (nI i))]) hx hb dX1_countFitFor_48 hl (k := 4) rfl (nI_inc _) (by decide) rfl (fun ls hl => ?_)
            refine lv_iinc (v := nI (i + 1)) (lv' := [(4, .int (nI (i + 1))), (3, .int (nI (k + 1))), (5, .int (holderC st (i / 4))), (0, .ref (a 0)), (1, .int h), (2, .int (nI port))]) hx hb dX1_countFitFor_51 hl (k := 5) rfl (nI_inc _) (by decide) rfl (fun ls hl => ?_)
            refine lv_goto (tgt := 5) hx hb dX1_countFitFor_54 (by decide) ?_
            exact ih5 (i + 1) (k + 1) _ _ ls (by omega) (by simp [cF, c2, c3, c4] at hR ⊢; omega) G (lv_sub hl [3, 4, 5, 1, 0] rfl)
        · skip
          refine lv_iload hx hb dX1_countFitFor_31 (lv_at hl 0 rfl) ?_
          refine lv_bipush (v := (-6)) hx hb dX1_countFitFor_33 (by decide) ?_
          refine lv_icmp_ne (tgt := 51) hx hb dX1_countFitFor_35 (by decide) (fun c5 => ?_) (fun c5 => ?_)
          · skip
            refine lv_iinc (v := nI (i + 1)) (lv' := [(4, .int (nI (i + 1))), (5, .int (holderC st (i / 4))), (0, .ref (a 0)), (1, .int h), (2, .int (nI port)), (3, .int (nI k))]) hx hb dX1_countFitFor_51 hl (k := 5) rfl (nI_inc _) (by decide) rfl (fun ls hl => ?_)
            refine lv_goto (tgt := 5) hx hb dX1_countFitFor_54 (by decide) ?_
            exact ih5 (i + 1) k _ _ ls (by omega) (by simp [cF, c2, c3, c5] at hR ⊢; omega) G (lv_sub hl [2, 3, 4, 5, 0] rfl)
          · skip
            refine lv_aload_n hx hb dX1_countFitFor_38 rfl (lv_at hl 1 rfl) ?_
            refine lv_iload hx hb dX1_countFitFor_39 (lv_at hl 5 rfl) ?_
            refine lv_iload_n hx hb dX1_countFitFor_41 rfl (lv_at hl 3 rfl) ?_
            refine g_callV (As := [.int (nI i), .int (nI port)]) (rest := []) X kX1_115 (c_X1_isFit l E a st w i (by omega) port (by omega)) G 0 rfl rfl ⟨Nat.le_of_ble_eq_true rfl, Nat.le_of_ble_eq_true rfl⟩ ⟨Nat.le_refl _, Nat.le_refl _⟩ rfl hl.1 rfl (Nat.le_of_ble_eq_true rfl) dX1_countFitFor_42 (fun H locs G => ?_)
            refine b_ifeq (tgt := 51) hx hb dX1_countFitFor_45 (by decide) (fun c6 => ?_) (fun c6 => ?_)
            · skip
              refine lv_iinc (v := nI (i + 1)) (lv' := [(4, .int (nI (i + 1))), (5, .int (holderC st (i / 4))), (0, .ref (a 0)), (1, .int h), (2, .int (nI port)), (3, .int (nI k))]) hx hb dX1_countFitFor_51 hl (k := 5) rfl (nI_inc _) (by decide) rfl (fun ls hl => ?_)
              refine lv_goto (tgt := 5) hx hb dX1_countFitFor_54 (by decide) ?_
              exact ih5 (i + 1) k _ _ ls (by omega) (by simp [cF, c2, c3, c5, c6] at hR ⊢; omega) G (lv_sub hl [2, 3, 4, 5, 0] rfl)
            · skip
              refine lv_iinc (v := nI (k + 1)) (lv' := [(3, .int (nI (k + 1))), (5, .int (holderC st (i / 4))), (0, .ref (a 0)), (1, .int h), (2, .int (nI port)), (4, .int (nI i))]) hx hb dX1_countFitFor_48 hl (k := 4) rfl (nI_inc _) (by decide) rfl (fun ls hl => ?_)
              refine lv_iinc (v := nI (i + 1)) (lv' := [(4, .int (nI (i + 1))), (3, .int (nI (k + 1))), (5, .int (holderC st (i / 4))), (0, .ref (a 0)), (1, .int h), (2, .int (nI port))]) hx hb dX1_countFitFor_51 hl (k := 5) rfl (nI_inc _) (by decide) rfl (fun ls hl => ?_)
              refine lv_goto (tgt := 5) hx hb dX1_countFitFor_54 (by decide) ?_
              exact ih5 (i + 1) (k + 1) _ _ ls (by omega) (by simp [cF, c2, c3, c5, c6] at hR ⊢; omega) G (lv_sub hl [3, 4, 5, 1, 0] rfl)
  exact LP5 16 0 0 _ _ ls (by omega) (by simp [countFitC]) G (lv_sub hl [2, 3, 4, 1, 0] rfl)
set_option maxHeartbeats 4000000 in
set_option maxRecDepth 100000 in
theorem c_X1_tellOfHost (l : Launch) (E : EE) (a : Nat → Nat) (st : St) (w : va_W) (h : Int32) (what : Int32) : Ct l yX1_tellOfHost cX1_tellOfHost 3 (some .int) 4 E [.ref (a 0), .int h, .int what] (wB E a st w) (tellH st h what) (wB E a st w) := by
  refine Ct_mk RX1 rfl (by decide +kernel) (Nat.le_of_ble_eq_true rfl) ?_
  intro p e s m below meth c A ls X hr G hl
  have hl : lv_has ls 3 [(0, .ref (a 0)), (1, .int h), (2, .int what)] := hl
  obtain ⟨hx, hb, hml, hown, hts, hK, hA, hlocks⟩ := id X
  refine lv_iload_n hx hb dX1_tellOfHost_0 rfl (lv_at hl 2 rfl) ?_
  by_cases c1 : what = 0
  · skip
    refine lv_tableIn (off := 27) (tgt := 28) hx hb dX1_tellOfHost_1 (by rw [c1]; decide) (by rw [c1]; decide) (by rw [c1]; rfl) (by decide) ?_
    refine lv_aload_n hx hb dX1_tellOfHost_28 rfl (lv_at hl 0 rfl) ?_
    refine g_get X G fX1_26 0 rfl rfl dX1_tellOfHost_29 ?_
    refine lv_iload_n hx hb dX1_tellOfHost_32 rfl (lv_at hl 1 rfl) ?_
    refine g_callV (As := [.int h]) (rest := []) X kX1_136 (c_X0_countOfHost l E a st w h) G 2 rfl rfl ⟨Nat.le_of_ble_eq_true rfl, Nat.le_of_ble_eq_true rfl⟩ ⟨Nat.le_refl _, Nat.le_refl _⟩ rfl hl.1 rfl (Nat.le_of_ble_eq_true rfl) dX1_tellOfHost_33 (fun H locs G => ?_)
    exact g_iret X hr G rfl (by simp [tellH, c1]) dX1_tellOfHost_36
  by_cases c2 : what = 1
  · skip
    refine lv_tableIn (off := 36) (tgt := 37) hx hb dX1_tellOfHost_1 (by rw [c2]; decide) (by rw [c2]; decide) (by rw [c2]; rfl) (by decide) ?_
    refine lv_aload_n hx hb dX1_tellOfHost_37 rfl (lv_at hl 0 rfl) ?_
    refine g_get X G fX1_26 0 rfl rfl dX1_tellOfHost_38 ?_
    refine lv_iload_n hx hb dX1_tellOfHost_41 rfl (lv_at hl 1 rfl) ?_
    refine g_callV (As := [.int h]) (rest := []) X kX1_139 (c_X0_blocksOf l E a st w h) G 2 rfl rfl ⟨Nat.le_of_ble_eq_true rfl, Nat.le_of_ble_eq_true rfl⟩ ⟨Nat.le_refl _, Nat.le_refl _⟩ rfl hl.1 rfl (Nat.le_of_ble_eq_true rfl) dX1_tellOfHost_42 (fun H locs G => ?_)
    exact g_iret X hr G rfl (by simp [tellH, c1, c2]) dX1_tellOfHost_45
  by_cases c3 : what = 2
  · skip
    refine lv_tableIn (off := 45) (tgt := 46) hx hb dX1_tellOfHost_1 (by rw [c3]; decide) (by rw [c3]; decide) (by rw [c3]; rfl) (by decide) ?_
    refine lv_aload_n hx hb dX1_tellOfHost_46 rfl (lv_at hl 0 rfl) ?_
    refine lv_iload_n hx hb dX1_tellOfHost_47 rfl (lv_at hl 1 rfl) ?_
    refine lv_iconst (v := 0) hx hb dX1_tellOfHost_48 (by decide) ?_
    refine g_callV (As := [.int h, .int 0]) (rest := []) X kX1_142 (c_X1_countFitFor l E a st w h 0 (by omega)) G 0 rfl rfl ⟨Nat.le_of_ble_eq_true rfl, Nat.le_of_ble_eq_true rfl⟩ ⟨Nat.le_refl _, Nat.le_refl _⟩ rfl hl.1 rfl (Nat.le_of_ble_eq_true rfl) dX1_tellOfHost_49 (fun H locs G => ?_)
    exact g_iret X hr G rfl (by simp [tellH, c1, c2, c3]) dX1_tellOfHost_52
  have c4 : what.toInt < 0 ∨ 2 < what.toInt := tb_out2 c1 c2 c3
  refine lv_tableOut (tgt := 53) hx hb dX1_tellOfHost_1 c4 (by decide) ?_
  refine lv_aload_n hx hb dX1_tellOfHost_53 rfl (lv_at hl 0 rfl) ?_
  refine lv_iload_n hx hb dX1_tellOfHost_54 rfl (lv_at hl 1 rfl) ?_
  refine lv_iconst (v := 1) hx hb dX1_tellOfHost_55 (by decide) ?_
  refine g_callV (As := [.int h, .int 1]) (rest := []) X kX1_142 (c_X1_countFitFor l E a st w h 1 (by omega)) G 0 rfl rfl ⟨Nat.le_of_ble_eq_true rfl, Nat.le_of_ble_eq_true rfl⟩ ⟨Nat.le_refl _, Nat.le_refl _⟩ rfl hl.1 rfl (Nat.le_of_ble_eq_true rfl) dX1_tellOfHost_56 (fun H locs G => ?_)
  exact g_iret X hr G rfl (by simp [tellH, c1, c2, c3]) dX1_tellOfHost_59
set_option maxHeartbeats 4000000 in
set_option maxRecDepth 100000 in
theorem c_X1_leastTicksLeft (l : Launch) (E : EE) (a : Nat → Nat) (st : St) (w : va_W) : Ct l yX1_leastTicksLeft cX1_leastTicksLeft 3 (some .int) 2 E [.ref (a 0)] (wB E a st w) (ltF st 16 0 (-6)) (wB E a st w) := by
  refine Ct_mk RX1 rfl (by decide +kernel) (Nat.le_of_ble_eq_true rfl) ?_
  intro p e s m below meth c A ls X hr G hl
  have hl : lv_has ls 3 [(0, .ref (a 0))] := hl
  obtain ⟨hx, hb, hml, hown, hts, hK, hA, hlocks⟩ := id X
  refine lv_bipush (v := (-6)) hx hb dX1_leastTicksLeft_0 (by decide) ?_
  refine lv_istore_n (lv' := [(1, .int (-6)), (0, .ref (a 0))]) hx hb dX1_leastTicksLeft_2 rfl hl (by decide) rfl (fun ls hl => ?_)
  refine lv_iconst (v := 0) hx hb dX1_leastTicksLeft_3 (by decide) ?_
  refine lv_istore_n (lv' := [(2, .int 0), (1, .int (-6)), (0, .ref (a 0))]) hx hb dX1_leastTicksLeft_4 rfl hl (by decide) rfl (fun ls hl => ?_)
  have LP5 : ∀ (n i : Nat) (x : Int32) (H : Heap) (locs : List Loc) (ls : Array Slot), (i + n = 16) → (ltF st n i x = ltF st 16 0 (-6)) → Gw E A s (wB E a st w) H locs → lv_has ls 3 [(0, .ref (a 0)), (1, .int x), (2, .int (nI i))] → W p l e (rmD 2) s m ([.ref (a 0)] : List Value).toArray below meth c H locs 0 0 (MQ below (CtQ E A (ltF st 16 0 (-6)) (wB E a st w)) ([.ref (a 0)] : List Value).toArray s 0 0 A) (F0 m 5 ls []) := by
    intro n
    induction n with
    | zero =>
      intro i x H locs ls hi hR G hl
      refine lv_iload_n hx hb dX1_leastTicksLeft_5 rfl (lv_at hl 2 rfl) ?_
      refine lv_bipush (v := 16) hx hb dX1_leastTicksLeft_6 (by decide) ?_
      refine n_cmp_ge (tgt := 49) i 16 rfl rfl (by omega) (by omega) hx hb dX1_leastTicksLeft_8 (by decide) (fun c1 => ?_) (fun c1 => ?_)
      · skip
        refine lv_iload_n hx hb dX1_leastTicksLeft_49 rfl (lv_at hl 1 rfl) ?_
        exact g_iret X hr G rfl (by rw [← hR]; rfl) dX1_leastTicksLeft_50
      · skip
        exact absurd c1 (by omega)
    | succ n ih5 =>
      intro i x H locs ls hi hR G hl
      refine lv_iload_n hx hb dX1_leastTicksLeft_5 rfl (lv_at hl 2 rfl) ?_
      refine lv_bipush (v := 16) hx hb dX1_leastTicksLeft_6 (by decide) ?_
      refine n_cmp_ge (tgt := 49) i 16 rfl rfl (by omega) (by omega) hx hb dX1_leastTicksLeft_8 (by decide) (fun c2 => ?_) (fun c2 => ?_)
      · skip
        exact absurd c2 (by omega)
      · skip
        refine lv_aload_n hx hb dX1_leastTicksLeft_11 rfl (lv_at hl 0 rfl) ?_
        refine g_get X G fX1_26 0 rfl rfl dX1_leastTicksLeft_12 ?_
        refine lv_iload_n hx hb dX1_leastTicksLeft_15 rfl (lv_at hl 2 rfl) ?_
        refine g_callV (As := [.int (nI i)]) (rest := []) X kX1_80 (c_X0_isLent l E a st w i (by omega)) G 2 rfl rfl ⟨Nat.le_of_ble_eq_true rfl, Nat.le_of_ble_eq_true rfl⟩ ⟨Nat.le_refl _, Nat.le_refl _⟩ rfl hl.1 rfl (Nat.le_of_ble_eq_true rfl) dX1_leastTicksLeft_16 (fun H locs G => ?_)
        refine b_ifeq (tgt := 43) hx hb dX1_leastTicksLeft_19 (by decide) (fun c3 => ?_) (fun c3 => ?_)
        · skip
          refine lv_iinc (v := nI (i + 1)) (lv' := [(2, .int (nI (i + 1))), (0, .ref (a 0)), (1, .int x)]) hx hb dX1_leastTicksLeft_43 hl (k := 2) rfl (nI_inc _) (by decide) rfl (fun ls hl => ?_)
          refine lv_goto (tgt := 5) hx hb dX1_leastTicksLeft_46 (by decide) ?_
          exact ih5 (i + 1) x _ _ ls (by omega) (by rw [← hR]; simp [ltF, c2, c3]) G (lv_sub hl [1, 2, 0] rfl)
        · skip
          refine lv_iload_n hx hb dX1_leastTicksLeft_22 rfl (lv_at hl 1 rfl) ?_
          refine lv_bipush (v := (-6)) hx hb dX1_leastTicksLeft_23 (by decide) ?_
          refine lv_icmp_eq (tgt := 37) hx hb dX1_leastTicksLeft_25 (by decide) (fun c4 => ?_) (fun c4 => ?_)
          · skip
            refine lv_aload_n hx hb dX1_leastTicksLeft_37 rfl (lv_at hl 0 rfl) ?_
            refine lv_iload_n hx hb dX1_leastTicksLeft_38 rfl (lv_at hl 2 rfl) ?_
            refine g_callV (As := [.int (nI i)]) (rest := []) X kX1_124 (c_X1_ticksLeft l E a st w i (by omega)) G 0 rfl rfl ⟨Nat.le_of_ble_eq_true rfl, Nat.le_of_ble_eq_true rfl⟩ ⟨Nat.le_refl _, Nat.le_refl _⟩ rfl hl.1 rfl (Nat.le_of_ble_eq_true rfl) dX1_leastTicksLeft_39 (fun H locs G => ?_)
            refine lv_istore_n (lv' := [(1, .int (leftC st i)), (0, .ref (a 0)), (2, .int (nI i))]) hx hb dX1_leastTicksLeft_42 rfl hl (by decide) rfl (fun ls hl => ?_)
            refine lv_iinc (v := nI (i + 1)) (lv' := [(2, .int (nI (i + 1))), (1, .int (leftC st i)), (0, .ref (a 0))]) hx hb dX1_leastTicksLeft_43 hl (k := 2) rfl (nI_inc _) (by decide) rfl (fun ls hl => ?_)
            refine lv_goto (tgt := 5) hx hb dX1_leastTicksLeft_46 (by decide) ?_
            exact ih5 (i + 1) (leftC st i) _ _ ls (by omega) (by rw [← hR]; simp [ltF, c2, c3, c4]) G (lv_sub hl [2, 1, 0] rfl)
          · skip
            refine lv_aload_n hx hb dX1_leastTicksLeft_28 rfl (lv_at hl 0 rfl) ?_
            refine lv_iload_n hx hb dX1_leastTicksLeft_29 rfl (lv_at hl 2 rfl) ?_
            refine g_callV (As := [.int (nI i)]) (rest := []) X kX1_124 (c_X1_ticksLeft l E a st w i (by omega)) G 0 rfl rfl ⟨Nat.le_of_ble_eq_true rfl, Nat.le_of_ble_eq_true rfl⟩ ⟨Nat.le_refl _, Nat.le_refl _⟩ rfl hl.1 rfl (Nat.le_of_ble_eq_true rfl) dX1_leastTicksLeft_30 (fun H locs G => ?_)
            refine lv_iload_n hx hb dX1_leastTicksLeft_33 rfl (lv_at hl 1 rfl) ?_
            refine lv_icmp_ge (tgt := 43) hx hb dX1_leastTicksLeft_34 (by decide) (fun c5 => ?_) (fun c5 => ?_)
            · skip
              refine lv_iinc (v := nI (i + 1)) (lv' := [(2, .int (nI (i + 1))), (0, .ref (a 0)), (1, .int x)]) hx hb dX1_leastTicksLeft_43 hl (k := 2) rfl (nI_inc _) (by decide) rfl (fun ls hl => ?_)
              refine lv_goto (tgt := 5) hx hb dX1_leastTicksLeft_46 (by decide) ?_
              exact ih5 (i + 1) x _ _ ls (by omega) (by rw [← hR]; simp [ltF, c2, c3, c4, c5]) G (lv_sub hl [1, 2, 0] rfl)
            · skip
              refine lv_aload_n hx hb dX1_leastTicksLeft_37 rfl (lv_at hl 0 rfl) ?_
              refine lv_iload_n hx hb dX1_leastTicksLeft_38 rfl (lv_at hl 2 rfl) ?_
              refine g_callV (As := [.int (nI i)]) (rest := []) X kX1_124 (c_X1_ticksLeft l E a st w i (by omega)) G 0 rfl rfl ⟨Nat.le_of_ble_eq_true rfl, Nat.le_of_ble_eq_true rfl⟩ ⟨Nat.le_refl _, Nat.le_refl _⟩ rfl hl.1 rfl (Nat.le_of_ble_eq_true rfl) dX1_leastTicksLeft_39 (fun H locs G => ?_)
              refine lv_istore_n (lv' := [(1, .int (leftC st i)), (0, .ref (a 0)), (2, .int (nI i))]) hx hb dX1_leastTicksLeft_42 rfl hl (by decide) rfl (fun ls hl => ?_)
              refine lv_iinc (v := nI (i + 1)) (lv' := [(2, .int (nI (i + 1))), (1, .int (leftC st i)), (0, .ref (a 0))]) hx hb dX1_leastTicksLeft_43 hl (k := 2) rfl (nI_inc _) (by decide) rfl (fun ls hl => ?_)
              refine lv_goto (tgt := 5) hx hb dX1_leastTicksLeft_46 (by decide) ?_
              exact ih5 (i + 1) (leftC st i) _ _ ls (by omega) (by rw [← hR]; simp [ltF, c2, c3, c4, c5]) G (lv_sub hl [2, 1, 0] rfl)
  exact LP5 16 0 (-6) _ _ ls (by omega) rfl G (lv_sub hl [2, 1, 0] rfl)
set_option maxHeartbeats 4000000 in
set_option maxRecDepth 100000 in
theorem c_X1_endBindingsOf (l : Launch) (E : EE) (a : Nat → Nat) (st : St) (w : va_W) (h : Int32) : Ct l yX1_endBindingsOf cX1_endBindingsOf 4 (some .int) 3 E [.ref (a 0), .int h] (wB E a st w) (nI ((iF (dropS h) 16 0 (st, 0)).2)) (wB E a ((iF (dropS h) 16 0 (st, 0)).1) w) := by
  refine Ct_mk RX1 rfl (by decide +kernel) (Nat.le_of_ble_eq_true rfl) ?_
  intro p e s m below meth c A ls X hr G hl
  have hl : lv_has ls 4 [(0, .ref (a 0)), (1, .int h)] := hl
  obtain ⟨hx, hb, hml, hown, hts, hK, hA, hlocks⟩ := id X
  refine lv_iconst (v := 0) hx hb dX1_endBindingsOf_0 (by decide) ?_
  refine lv_istore_n (lv' := [(2, .int 0), (0, .ref (a 0)), (1, .int h)]) hx hb dX1_endBindingsOf_1 rfl hl (by decide) rfl (fun ls hl => ?_)
  refine lv_iconst (v := 0) hx hb dX1_endBindingsOf_2 (by decide) ?_
  refine lv_istore_n (lv' := [(3, .int 0), (2, .int 0), (0, .ref (a 0)), (1, .int h)]) hx hb dX1_endBindingsOf_3 rfl hl (by decide) rfl (fun ls hl => ?_)
  have LP4 : ∀ (n i : Nat) (sx : St) (z : Nat) (H : Heap) (locs : List Loc) (ls : Array Slot), (i + n = 16) → (iF (dropS h) n i (sx, z) = iF (dropS h) 16 0 (st, 0)) → Gw E A s (wB E a sx w) H locs → lv_has ls 4 [(0, .ref (a 0)), (1, .int h), (2, .int (nI z)), (3, .int (nI i))] → W p l e (rmD 3) s m ([.ref (a 0), .int h] : List Value).toArray below meth c H locs 0 0 (MQ below (CtQ E A (nI ((iF (dropS h) 16 0 (st, 0)).2)) (wB E a ((iF (dropS h) 16 0 (st, 0)).1) w)) ([.ref (a 0), .int h] : List Value).toArray s 0 0 A) (F0 m 4 ls []) := by
    intro n
    induction n with
    | zero =>
      intro i sx z H locs ls hi hR G hl
      refine lv_iload_n hx hb dX1_endBindingsOf_4 rfl (lv_at hl 3 rfl) ?_
      refine lv_bipush (v := 16) hx hb dX1_endBindingsOf_5 (by decide) ?_
      refine n_cmp_ge (tgt := 36) i 16 rfl rfl (by omega) (by omega) hx hb dX1_endBindingsOf_7 (by decide) (fun c1 => ?_) (fun c1 => ?_)
      · skip
        refine lv_iload_n hx hb dX1_endBindingsOf_36 rfl (lv_at hl 2 rfl) ?_
        exact g_iret X hr G (congrArg (fun z => wB E a z w) (by rw [← hR]; rfl)) (by rw [← hR]; rfl) dX1_endBindingsOf_37
      · skip
        exact absurd c1 (by omega)
    | succ n ih4 =>
      intro i sx z H locs ls hi hR G hl
      refine lv_iload_n hx hb dX1_endBindingsOf_4 rfl (lv_at hl 3 rfl) ?_
      refine lv_bipush (v := 16) hx hb dX1_endBindingsOf_5 (by decide) ?_
      refine n_cmp_ge (tgt := 36) i 16 rfl rfl (by omega) (by omega) hx hb dX1_endBindingsOf_7 (by decide) (fun c2 => ?_) (fun c2 => ?_)
      · skip
        exact absurd c2 (by omega)
      · skip
        refine lv_aload_n hx hb dX1_endBindingsOf_10 rfl (lv_at hl 0 rfl) ?_
        refine g_get X G fX1_26 0 rfl rfl dX1_endBindingsOf_11 ?_
        refine lv_iload_n hx hb dX1_endBindingsOf_14 rfl (lv_at hl 3 rfl) ?_
        refine g_callV (As := [.int (nI i)]) (rest := []) X kX1_151 (c_X0_hostOf l E a sx w i (by omega)) G 2 rfl rfl ⟨Nat.le_of_ble_eq_true rfl, Nat.le_of_ble_eq_true rfl⟩ ⟨Nat.le_refl _, Nat.le_refl _⟩ rfl hl.1 rfl (Nat.le_of_ble_eq_true rfl) dX1_endBindingsOf_15 (fun H locs G => ?_)
        refine lv_iload_n hx hb dX1_endBindingsOf_18 rfl (lv_at hl 1 rfl) ?_
        refine lv_icmp_ne (tgt := 30) hx hb dX1_endBindingsOf_19 (by decide) (fun c3 => ?_) (fun c3 => ?_)
        · skip
          refine lv_iinc (v := nI (i + 1)) (lv' := [(3, .int (nI (i + 1))), (0, .ref (a 0)), (1, .int h), (2, .int (nI z))]) hx hb dX1_endBindingsOf_30 hl (k := 3) rfl (nI_inc _) (by decide) rfl (fun ls hl => ?_)
          refine lv_goto (tgt := 4) hx hb dX1_endBindingsOf_33 (by decide) ?_
          exact ih4 (i + 1) sx z _ _ ls (by omega) (by rw [← hR]; simp [iF, dropS, c2, c3]) G (lv_sub hl [1, 2, 3, 0] rfl)
        · skip
          refine lv_aload_n hx hb dX1_endBindingsOf_22 rfl (lv_at hl 0 rfl) ?_
          refine lv_iload_n hx hb dX1_endBindingsOf_23 rfl (lv_at hl 3 rfl) ?_
          refine g_callVv (As := [.int (nI i)]) (rest := []) X kX1_148 (c_X1_endBinding l E a sx w i (by omega)) G 0 rfl rfl ⟨Nat.le_of_ble_eq_true rfl, Nat.le_of_ble_eq_true rfl⟩ ⟨Nat.le_refl _, Nat.le_refl _⟩ rfl hl.1 rfl (Nat.le_of_ble_eq_true rfl) dX1_endBindingsOf_24 (fun H locs G => ?_)
          refine lv_iinc (v := nI (z + 1)) (lv' := [(2, .int (nI (z + 1))), (0, .ref (a 0)), (1, .int h), (3, .int (nI i))]) hx hb dX1_endBindingsOf_27 hl (k := 2) rfl (nI_inc _) (by decide) rfl (fun ls hl => ?_)
          refine lv_iinc (v := nI (i + 1)) (lv' := [(3, .int (nI (i + 1))), (2, .int (nI (z + 1))), (0, .ref (a 0)), (1, .int h)]) hx hb dX1_endBindingsOf_30 hl (k := 3) rfl (nI_inc _) (by decide) rfl (fun ls hl => ?_)
          refine lv_goto (tgt := 4) hx hb dX1_endBindingsOf_33 (by decide) ?_
          exact ih4 (i + 1) (endB i sx) (z + 1) _ _ ls (by omega) (by rw [← hR]; simp [iF, dropS, c2, c3]) G (lv_sub hl [2, 3, 1, 0] rfl)
  exact LP4 16 0 st 0 _ _ ls (by omega) rfl G (lv_sub hl [2, 3, 1, 0] rfl)
