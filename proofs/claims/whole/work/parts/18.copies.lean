theorem cpX1_160 : CpS RX1 160 := ⟨gT_in 406 (by decide +kernel) (by decide +kernel), gT_in 408 (by decide +kernel) (by decide +kernel), gT_in 407 (by decide +kernel) (by decide +kernel), gT_in 36 (by decide +kernel) (by decide +kernel)⟩
theorem cpX0_59 : CpS RX0 59 := ⟨gT_in 413 (by decide +kernel) (by decide +kernel), gT_in 408 (by decide +kernel) (by decide +kernel), gT_in 407 (by decide +kernel) (by decide +kernel), gT_in 36 (by decide +kernel) (by decide +kernel)⟩
theorem cpX2_42 : CpS RX2 42 := ⟨gT_in 418 (by decide +kernel) (by decide +kernel), gT_in 408 (by decide +kernel) (by decide +kernel), gT_in 407 (by decide +kernel) (by decide +kernel), gT_in 36 (by decide +kernel) (by decide +kernel)⟩
set_option maxHeartbeats 4000000 in
set_option maxRecDepth 100000 in
theorem c_X0_copyBindings (l : Launch) (E : EE) (a b : Nat → Nat) (st st2 : St) (w : va_W) : Cv l yX0_copyBindings cX0_copyBindings 2 1 E [.ref (a 2), .ref (b 2)] (wB E a st (wB E b st2 w)) (wB E a (cpB st st2) (wB E b st2 w)) := by
  refine Cv_mk RX0 rfl (by decide +kernel) (Nat.le_of_ble_eq_true rfl) ?_
  intro p e s m below meth c A ls X hr G hl
  have hl : lv_has ls 2 [(0, .ref (a 2)), (1, .ref (b 2))] := hl
  obtain ⟨hx, hb, hml, hown, hts, hK, hA, hlocks⟩ := id X
  refine lv_aload_n hx hb dX0_copyBindings_0 rfl (lv_at hl 1 rfl) ?_
  refine g_get X G fX0_9 16 rfl rfl dX0_copyBindings_1 ?_
  refine lv_iconst (v := 0) hx hb dX0_copyBindings_4 (by decide) ?_
  refine lv_aload_n hx hb dX0_copyBindings_5 rfl (lv_at hl 0 rfl) ?_
  refine g_get X G fX0_9 2 rfl rfl dX0_copyBindings_6 ?_
  refine lv_iconst (v := 0) hx hb dX0_copyBindings_9 (by decide) ?_
  refine lv_bipush (v := 16) hx hb dX0_copyBindings_10 (by decide) ?_
  refine g_copy X G cpX0_59 hl.1 18 4 rfl rfl rfl (by decide) (Nat.le_of_ble_eq_true rfl) (Nat.le_of_ble_eq_true rfl) dX0_copyBindings_12 (fun H locs G => ?_)
  have G : Gw E A s (wB E a (sC st 1 (st2 1) 16) (wB E b st2 w)) H locs := G
  refine lv_aload_n hx hb dX0_copyBindings_15 rfl (lv_at hl 1 rfl) ?_
  refine g_get X G fX0_15 16 rfl rfl dX0_copyBindings_16 ?_
  refine lv_iconst (v := 0) hx hb dX0_copyBindings_19 (by decide) ?_
  refine lv_aload_n hx hb dX0_copyBindings_20 rfl (lv_at hl 0 rfl) ?_
  refine g_get X G fX0_15 2 rfl rfl dX0_copyBindings_21 ?_
  refine lv_iconst (v := 0) hx hb dX0_copyBindings_24 (by decide) ?_
  refine lv_bipush (v := 16) hx hb dX0_copyBindings_25 (by decide) ?_
  refine g_copy X G cpX0_59 hl.1 19 5 rfl rfl rfl (by decide) (Nat.le_of_ble_eq_true rfl) (Nat.le_of_ble_eq_true rfl) dX0_copyBindings_27 (fun H locs G => ?_)
  have G : Gw E A s (wB E a (sC (sC st 1 (st2 1) 16) 2 (st2 2) 16) (wB E b st2 w)) H locs := G
  refine lv_aload_n hx hb dX0_copyBindings_30 rfl (lv_at hl 1 rfl) ?_
  refine g_get X G fX0_18 16 rfl rfl dX0_copyBindings_31 ?_
  refine lv_iconst (v := 0) hx hb dX0_copyBindings_34 (by decide) ?_
  refine lv_aload_n hx hb dX0_copyBindings_35 rfl (lv_at hl 0 rfl) ?_
  refine g_get X G fX0_18 2 rfl rfl dX0_copyBindings_36 ?_
  refine lv_iconst (v := 0) hx hb dX0_copyBindings_39 (by decide) ?_
  refine lv_bipush (v := 16) hx hb dX0_copyBindings_40 (by decide) ?_
  refine g_copy X G cpX0_59 hl.1 20 6 rfl rfl rfl (by decide) (Nat.le_of_ble_eq_true rfl) (Nat.le_of_ble_eq_true rfl) dX0_copyBindings_42 (fun H locs G => ?_)
  have G : Gw E A s (wB E a (sC (sC (sC st 1 (st2 1) 16) 2 (st2 2) 16) 3 (st2 3) 16) (wB E b st2 w)) H locs := G
  refine lv_aload_n hx hb dX0_copyBindings_45 rfl (lv_at hl 1 rfl) ?_
  refine g_get X G fX0_21 16 rfl rfl dX0_copyBindings_46 ?_
  refine lv_iconst (v := 0) hx hb dX0_copyBindings_49 (by decide) ?_
  refine lv_aload_n hx hb dX0_copyBindings_50 rfl (lv_at hl 0 rfl) ?_
  refine g_get X G fX0_21 2 rfl rfl dX0_copyBindings_51 ?_
  refine lv_iconst (v := 0) hx hb dX0_copyBindings_54 (by decide) ?_
  refine lv_bipush (v := 16) hx hb dX0_copyBindings_55 (by decide) ?_
  refine g_copy X G cpX0_59 hl.1 21 7 rfl rfl rfl (by decide) (Nat.le_of_ble_eq_true rfl) (Nat.le_of_ble_eq_true rfl) dX0_copyBindings_57 (fun H locs G => ?_)
  have G : Gw E A s (wB E a (sC (sC (sC (sC st 1 (st2 1) 16) 2 (st2 2) 16) 3 (st2 3) 16) 4 (st2 4) 16) (wB E b st2 w)) H locs := G
  refine lv_aload_n hx hb dX0_copyBindings_60 rfl (lv_at hl 1 rfl) ?_
  refine g_get X G fX0_24 16 rfl rfl dX0_copyBindings_61 ?_
  refine lv_iconst (v := 0) hx hb dX0_copyBindings_64 (by decide) ?_
  refine lv_aload_n hx hb dX0_copyBindings_65 rfl (lv_at hl 0 rfl) ?_
  refine g_get X G fX0_24 2 rfl rfl dX0_copyBindings_66 ?_
  refine lv_iconst (v := 0) hx hb dX0_copyBindings_69 (by decide) ?_
  refine lv_bipush (v := 16) hx hb dX0_copyBindings_70 (by decide) ?_
  refine g_copy X G cpX0_59 hl.1 22 8 rfl rfl rfl (by decide) (Nat.le_of_ble_eq_true rfl) (Nat.le_of_ble_eq_true rfl) dX0_copyBindings_72 (fun H locs G => ?_)
  have G : Gw E A s (wB E a (sC (sC (sC (sC (sC st 1 (st2 1) 16) 2 (st2 2) 16) 3 (st2 3) 16) 4 (st2 4) 16) 5 (st2 5) 16) (wB E b st2 w)) H locs := G
  refine lv_aload_n hx hb dX0_copyBindings_75 rfl (lv_at hl 1 rfl) ?_
  refine g_get X G fX0_27 16 rfl rfl dX0_copyBindings_76 ?_
  refine lv_iconst (v := 0) hx hb dX0_copyBindings_79 (by decide) ?_
  refine lv_aload_n hx hb dX0_copyBindings_80 rfl (lv_at hl 0 rfl) ?_
  refine g_get X G fX0_27 2 rfl rfl dX0_copyBindings_81 ?_
  refine lv_iconst (v := 0) hx hb dX0_copyBindings_84 (by decide) ?_
  refine lv_bipush (v := 80) hx hb dX0_copyBindings_85 (by decide) ?_
  refine g_copy X G cpX0_59 hl.1 23 9 rfl rfl rfl (by decide) (Nat.le_of_ble_eq_true rfl) (Nat.le_of_ble_eq_true rfl) dX0_copyBindings_87 (fun H locs G => ?_)
  have G : Gw E A s (wB E a (sC (sC (sC (sC (sC (sC st 1 (st2 1) 16) 2 (st2 2) 16) 3 (st2 3) 16) 4 (st2 4) 16) 5 (st2 5) 16) 6 (st2 6) 80) (wB E b st2 w)) H locs := G
  exact g_vret X hr G (congrArg (fun z => wB E a z (wB E b st2 w)) (by rfl)) dX0_copyBindings_90
set_option maxHeartbeats 4000000 in
set_option maxRecDepth 100000 in
theorem c_X2_copyPackets (l : Launch) (E : EE) (a b : Nat → Nat) (st st2 : St) (w : va_W) : Cv l yX2_copyPackets cX2_copyPackets 2 1 E [.ref (a 3), .ref (b 3)] (wB E a st (wB E b st2 w)) (wB E a (cpP st st2) (wB E b st2 w)) := by
  refine Cv_mk RX2 rfl (by decide +kernel) (Nat.le_of_ble_eq_true rfl) ?_
  intro p e s m below meth c A ls X hr G hl
  have hl : lv_has ls 2 [(0, .ref (a 3)), (1, .ref (b 3))] := hl
  obtain ⟨hx, hb, hml, hown, hts, hK, hA, hlocks⟩ := id X
  refine lv_aload_n hx hb dX2_copyPackets_0 rfl (lv_at hl 1 rfl) ?_
  refine g_get X G fX2_9 17 rfl rfl dX2_copyPackets_1 ?_
  refine lv_iconst (v := 0) hx hb dX2_copyPackets_4 (by decide) ?_
  refine lv_aload_n hx hb dX2_copyPackets_5 rfl (lv_at hl 0 rfl) ?_
  refine g_get X G fX2_9 3 rfl rfl dX2_copyPackets_6 ?_
  refine lv_iconst (v := 0) hx hb dX2_copyPackets_9 (by decide) ?_
  refine lv_bipush (v := 32) hx hb dX2_copyPackets_10 (by decide) ?_
  refine g_copy X G cpX2_42 hl.1 24 10 rfl rfl rfl (by decide) (Nat.le_of_ble_eq_true rfl) (Nat.le_of_ble_eq_true rfl) dX2_copyPackets_12 (fun H locs G => ?_)
  have G : Gw E A s (wB E a (sC st 7 (st2 7) 32) (wB E b st2 w)) H locs := G
  refine lv_aload_n hx hb dX2_copyPackets_15 rfl (lv_at hl 1 rfl) ?_
  refine g_get X G fX2_15 17 rfl rfl dX2_copyPackets_16 ?_
  refine lv_iconst (v := 0) hx hb dX2_copyPackets_19 (by decide) ?_
  refine lv_aload_n hx hb dX2_copyPackets_20 rfl (lv_at hl 0 rfl) ?_
  refine g_get X G fX2_15 3 rfl rfl dX2_copyPackets_21 ?_
  refine lv_iconst (v := 0) hx hb dX2_copyPackets_24 (by decide) ?_
  refine lv_bipush (v := 32) hx hb dX2_copyPackets_25 (by decide) ?_
  refine g_copy X G cpX2_42 hl.1 25 11 rfl rfl rfl (by decide) (Nat.le_of_ble_eq_true rfl) (Nat.le_of_ble_eq_true rfl) dX2_copyPackets_27 (fun H locs G => ?_)
  have G : Gw E A s (wB E a (sC (sC st 7 (st2 7) 32) 8 (st2 8) 32) (wB E b st2 w)) H locs := G
  refine lv_aload_n hx hb dX2_copyPackets_30 rfl (lv_at hl 1 rfl) ?_
  refine g_get X G fX2_18 17 rfl rfl dX2_copyPackets_31 ?_
  refine lv_iconst (v := 0) hx hb dX2_copyPackets_34 (by decide) ?_
  refine lv_aload_n hx hb dX2_copyPackets_35 rfl (lv_at hl 0 rfl) ?_
  refine g_get X G fX2_18 3 rfl rfl dX2_copyPackets_36 ?_
  refine lv_iconst (v := 0) hx hb dX2_copyPackets_39 (by decide) ?_
  refine lv_bipush (v := 6) hx hb dX2_copyPackets_40 (by decide) ?_
  refine g_copy X G cpX2_42 hl.1 26 12 rfl rfl rfl (by decide) (Nat.le_of_ble_eq_true rfl) (Nat.le_of_ble_eq_true rfl) dX2_copyPackets_42 (fun H locs G => ?_)
  have G : Gw E A s (wB E a (sC (sC (sC st 7 (st2 7) 32) 8 (st2 8) 32) 9 (st2 9) 6) (wB E b st2 w)) H locs := G
  refine lv_aload_n hx hb dX2_copyPackets_45 rfl (lv_at hl 1 rfl) ?_
  refine g_get X G fX2_21 17 rfl rfl dX2_copyPackets_46 ?_
  refine lv_iconst (v := 0) hx hb dX2_copyPackets_49 (by decide) ?_
  refine lv_aload_n hx hb dX2_copyPackets_50 rfl (lv_at hl 0 rfl) ?_
  refine g_get X G fX2_21 3 rfl rfl dX2_copyPackets_51 ?_
  refine lv_iconst (v := 0) hx hb dX2_copyPackets_54 (by decide) ?_
  refine lv_bipush (v := 6) hx hb dX2_copyPackets_55 (by decide) ?_
  refine g_copy X G cpX2_42 hl.1 27 13 rfl rfl rfl (by decide) (Nat.le_of_ble_eq_true rfl) (Nat.le_of_ble_eq_true rfl) dX2_copyPackets_57 (fun H locs G => ?_)
  have G : Gw E A s (wB E a (sC (sC (sC (sC st 7 (st2 7) 32) 8 (st2 8) 32) 9 (st2 9) 6) 10 (st2 10) 6) (wB E b st2 w)) H locs := G
  exact g_vret X hr G (congrArg (fun z => wB E a z (wB E b st2 w)) (by rfl)) dX2_copyPackets_60
set_option maxHeartbeats 4000000 in
set_option maxRecDepth 100000 in
theorem c_X1_becomeLike (l : Launch) (E : EE) (a b : Nat → Nat) (st st2 : St) (w : va_W) : Cv l yX1_becomeLike cX1_becomeLike 2 2 E [.ref (a 0), .ref (b 0)] (wB E a st (wB E b st2 w)) (wB E a (cpA st st2) (wB E b st2 w)) := by
  refine Cv_mk RX1 rfl (by decide +kernel) (Nat.le_of_ble_eq_true rfl) ?_
  intro p e s m below meth c A ls X hr G hl
  have hl : lv_has ls 2 [(0, .ref (a 0)), (1, .ref (b 0))] := hl
  obtain ⟨hx, hb, hml, hown, hts, hK, hA, hlocks⟩ := id X
  refine lv_aload_n hx hb dX1_becomeLike_0 rfl (lv_at hl 1 rfl) ?_
  refine g_get X G fX1_18 14 rfl rfl dX1_becomeLike_1 ?_
  refine lv_iconst (v := 0) hx hb dX1_becomeLike_4 (by decide) ?_
  refine lv_aload_n hx hb dX1_becomeLike_5 rfl (lv_at hl 0 rfl) ?_
  refine g_get X G fX1_18 0 rfl rfl dX1_becomeLike_6 ?_
  refine lv_iconst (v := 0) hx hb dX1_becomeLike_9 (by decide) ?_
  refine lv_bipush (v := 6) hx hb dX1_becomeLike_10 (by decide) ?_
  refine g_copy X G cpX1_160 hl.1 15 1 rfl rfl rfl (by decide) (Nat.le_of_ble_eq_true rfl) (Nat.le_of_ble_eq_true rfl) dX1_becomeLike_12 (fun H locs G => ?_)
  have G : Gw E A s (wB E a (sC st 0 (st2 0) 6) (wB E b st2 w)) H locs := G
  refine lv_aload_n hx hb dX1_becomeLike_15 rfl (lv_at hl 0 rfl) ?_
  refine g_get X G fX1_26 0 rfl rfl dX1_becomeLike_16 ?_
  refine lv_aload_n hx hb dX1_becomeLike_19 rfl (lv_at hl 1 rfl) ?_
  refine g_get X G fX1_26 14 rfl rfl dX1_becomeLike_20 ?_
  refine g_callVv (As := [.ref (b 2)]) (rest := []) X kX1_166 (c_X0_copyBindings l E a b (sC st 0 (st2 0) 6) st2 w) G 2 rfl rfl ⟨Nat.le_of_ble_eq_true rfl, Nat.le_of_ble_eq_true rfl⟩ ⟨Nat.le_refl _, Nat.le_refl _⟩ rfl hl.1 rfl (Nat.le_of_ble_eq_true rfl) dX1_becomeLike_23 (fun H locs G => ?_)
  refine lv_aload_n hx hb dX1_becomeLike_26 rfl (lv_at hl 0 rfl) ?_
  refine g_get X G fX1_33 0 rfl rfl dX1_becomeLike_27 ?_
  refine lv_aload_n hx hb dX1_becomeLike_30 rfl (lv_at hl 1 rfl) ?_
  refine g_get X G fX1_33 14 rfl rfl dX1_becomeLike_31 ?_
  refine g_callVv (As := [.ref (b 3)]) (rest := []) X kX1_170 (c_X2_copyPackets l E a b (cpB (sC st 0 (st2 0) 6) st2) st2 w) G 3 rfl rfl ⟨Nat.le_of_ble_eq_true rfl, Nat.le_of_ble_eq_true rfl⟩ ⟨Nat.le_refl _, Nat.le_refl _⟩ rfl hl.1 rfl (Nat.le_of_ble_eq_true rfl) dX1_becomeLike_34 (fun H locs G => ?_)
  refine lv_aload_n hx hb dX1_becomeLike_37 rfl (lv_at hl 0 rfl) ?_
  refine lv_aload_n hx hb dX1_becomeLike_38 rfl (lv_at hl 1 rfl) ?_
  refine g_get X G fX1_37 14 rfl rfl dX1_becomeLike_39 ?_
  refine g_put X G fX1_37 tyX1 tyX1_ok nmX1 0 rfl rfl rfl (by simp) dX1_becomeLike_42 (fun H locs G => ?_)
  have G : Gw E A s (wB E a (sU (cpP (cpB (sC st 0 (st2 0) 6) st2) st2) 11 0 (st2 11 0)) (wB E b st2 w)) H locs := G
  exact g_vret X hr G (congrArg (fun z => wB E a z (wB E b st2 w)) (by rfl)) dX1_becomeLike_45
