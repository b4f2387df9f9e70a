set_option maxHeartbeats 1000000 in
set_option maxRecDepth 100000 in
theorem c_X4_receive (l : Launch) (E : EE) (a : Nat → Nat) (st : St) (w : va_W) (r : Nat) (hr : r < 5) (rp : Nat) (hrp : rp < 32) (o : Nat) (ho : o < 16) (f : Nat) (hf : f < 3) : Ct l yX4_receive cX4_receive 5 (some .int) 2 E [.ref (a 0), .int (nI r), .int (nI rp), .int (nI o), .int (nI f)] (wM E a st w) (recvR st r rp o f) (wM E a (recvC st r rp o f) w) := by
  refine Ct_mk RX4 rfl (by decide +kernel) (Nat.le_of_ble_eq_true rfl) ?_
  intro p e s m below meth c A ls X hr G hl
  have hl : lv_has ls 5 [(0, .ref (a 0)), (1, .int (nI r)), (2, .int (nI rp)), (3, .int (nI o)), (4, .int (nI f))] := hl
  obtain ⟨hx, hb, hml, hown, hts, hK, hA, hlocks⟩ := id X
  refine lv_aload_n hx hb dX4_receive_0 rfl (lv_at hl 0 rfl) ?_
  refine lv_iload_n hx hb dX4_receive_1 rfl (lv_at hl 1 rfl) ?_
  refine lv_iload_n hx hb dX4_receive_2 rfl (lv_at hl 2 rfl) ?_
  refine lv_iload_n hx hb dX4_receive_3 rfl (lv_at hl 3 rfl) ?_
  refine g_callV (As := [.int (nI r), .int (nI rp), .int (nI o)]) (rest := []) X kX4_84 (c_X4_whyNot l E a st w r (by omega) rp (by omega) o (by omega)) G 0 rfl rfl ⟨Nat.le_of_ble_eq_true rfl, Nat.le_of_ble_eq_true rfl⟩ ⟨Nat.le_refl _, Nat.le_refl _⟩ rfl hl.1 rfl (Nat.le_of_ble_eq_true rfl) dX4_receive_4 (fun H locs G => ?_)
  have b1 : (whyM st r rp o) ≤ 2 := whyM_le _ _ _ _
  refine n_if_le (tgt := 13) (whyM st r rp o) rfl (by omega) hx hb dX4_receive_7 (by decide) (fun c2 => ?_) (fun c2 => ?_)
  · skip
    refine lv_aload_n hx hb dX4_receive_13 rfl (lv_at hl 0 rfl) ?_
    refine g_get X G fX4_7 0 rfl rfl dX4_receive_14 ?_
    refine lv_bipush (v := 87) hx hb dX4_receive_17 (by decide) ?_
    refine lv_iload_n hx hb dX4_receive_19 rfl (lv_at hl 3 rfl) ?_
    refine n_iadd 87 o rfl rfl hx hb dX4_receive_20 ?_
    refine lv_aload_n hx hb dX4_receive_21 rfl (lv_at hl 0 rfl) ?_
    refine g_get X G fX4_7 0 rfl rfl dX4_receive_22 ?_
    refine lv_bipush (v := 6) hx hb dX4_receive_25 (by decide) ?_
    refine g_iald (j := 6) X G 1 rfl rfl (by omega) (by decide) dX4_receive_27 ?_
    refine g_iast (j := 87 + o) X G 1 rfl rfl (by omega) (by decide) dX4_receive_28 (fun H locs G => ?_)
    have G : Gw E A s (wM E a (sU st 0 (87 + o) (st 0 6)) w) H locs := G
    refine lv_iload hx hb dX4_receive_29 (lv_at hl 4 rfl) ?_
    refine lv_iconst (v := 2) hx hb dX4_receive_31 (by decide) ?_
    refine n_cmp_ne (tgt := 48) f 2 rfl rfl (by omega) (by omega) hx hb dX4_receive_32 (by decide) (fun c3 => ?_) (fun c3 => ?_)
    · skip
      refine lv_aload_n hx hb dX4_receive_48 rfl (lv_at hl 0 rfl) ?_
      refine g_get X G fX4_7 0 rfl rfl dX4_receive_49 ?_
      refine lv_bipush (v := 71) hx hb dX4_receive_52 (by decide) ?_
      refine lv_iload_n hx hb dX4_receive_54 rfl (lv_at hl 3 rfl) ?_
      refine n_iadd 71 o rfl rfl hx hb dX4_receive_55 ?_
      refine g_iald (j := 71 + o) X G 1 rfl rfl (by omega) (by decide) dX4_receive_56 ?_
      refine lv_if_ne (tgt := 70) hx hb dX4_receive_57 (by decide) (fun c4 => ?_) (fun c4 => ?_)
      · skip
        refine lv_aload_n hx hb dX4_receive_70 rfl (lv_at hl 0 rfl) ?_
        refine lv_iload_n hx hb dX4_receive_71 rfl (lv_at hl 3 rfl) ?_
        refine g_callV (As := [.int (nI o)]) (rest := []) X kX4_88 (c_X4_insideOf l E a (sU st 0 (87 + o) (st 0 6)) w o (by omega)) G 0 rfl rfl ⟨Nat.le_of_ble_eq_true rfl, Nat.le_of_ble_eq_true rfl⟩ ⟨Nat.le_refl _, Nat.le_refl _⟩ rfl hl.1 rfl (Nat.le_of_ble_eq_true rfl) dX4_receive_72 (fun H locs G => ?_)
        exact g_iret X hr G (congrArg (fun z => wM E a z w) (by first | (simp [recvR, recvC, flagIM, c2, c3, c4]; done) | (have h0 : whyM st r rp o = 0 := (by omega); simp [recvR, recvC, flagIM, c2, c3, c4, h0]; done) | (have h0 : ¬ whyM st r rp o = 0 := (by omega); simp [recvR, recvC, flagIM, h0]; done))) (by first | (simp [recvR, recvC, flagIM, c2, c3, c4]; done) | (have h0 : whyM st r rp o = 0 := (by omega); simp [recvR, recvC, flagIM, c2, c3, c4, h0]; done) | (have h0 : ¬ whyM st r rp o = 0 := (by omega); simp [recvR, recvC, flagIM, h0]; done)) dX4_receive_75
      · skip
        refine lv_aload_n hx hb dX4_receive_60 rfl (lv_at hl 0 rfl) ?_
        refine g_get X G fX4_7 0 rfl rfl dX4_receive_61 ?_
        refine lv_bipush (v := 71) hx hb dX4_receive_64 (by decide) ?_
        refine lv_iload_n hx hb dX4_receive_66 rfl (lv_at hl 3 rfl) ?_
        refine n_iadd 71 o rfl rfl hx hb dX4_receive_67 ?_
        refine lv_iconst (v := 1) hx hb dX4_receive_68 (by decide) ?_
        refine g_iast (j := 71 + o) X G 1 rfl rfl (by omega) (by decide) dX4_receive_69 (fun H locs G => ?_)
        have G : Gw E A s (wM E a (sU (sU st 0 (87 + o) (st 0 6)) 0 (71 + o) 1) w) H locs := G
        refine lv_aload_n hx hb dX4_receive_70 rfl (lv_at hl 0 rfl) ?_
        refine lv_iload_n hx hb dX4_receive_71 rfl (lv_at hl 3 rfl) ?_
        refine g_callV (As := [.int (nI o)]) (rest := []) X kX4_88 (c_X4_insideOf l E a (sU (sU st 0 (87 + o) (st 0 6)) 0 (71 + o) 1) w o (by omega)) G 0 rfl rfl ⟨Nat.le_of_ble_eq_true rfl, Nat.le_of_ble_eq_true rfl⟩ ⟨Nat.le_refl _, Nat.le_refl _⟩ rfl hl.1 rfl (Nat.le_of_ble_eq_true rfl) dX4_receive_72 (fun H locs G => ?_)
        exact g_iret X hr G (congrArg (fun z => wM E a z w) (by first | (simp [recvR, recvC, flagIM, c2, c3, c4]; done) | (have h0 : whyM st r rp o = 0 := (by omega); simp [recvR, recvC, flagIM, c2, c3, c4, h0]; done) | (have h0 : ¬ whyM st r rp o = 0 := (by omega); simp [recvR, recvC, flagIM, h0]; done))) (by first | (simp [recvR, recvC, flagIM, c2, c3, c4]; done) | (have h0 : whyM st r rp o = 0 := (by omega); simp [recvR, recvC, flagIM, c2, c3, c4, h0]; done) | (have h0 : ¬ whyM st r rp o = 0 := (by omega); simp [recvR, recvC, flagIM, h0]; done)) dX4_receive_75
    · skip
      refine lv_aload_n hx hb dX4_receive_35 rfl (lv_at hl 0 rfl) ?_
      refine g_get X G fX4_7 0 rfl rfl dX4_receive_36 ?_
      refine lv_bipush (v := 71) hx hb dX4_receive_39 (by decide) ?_
      refine lv_iload_n hx hb dX4_receive_41 rfl (lv_at hl 3 rfl) ?_
      refine n_iadd 71 o rfl rfl hx hb dX4_receive_42 ?_
      refine lv_iconst (v := 2) hx hb dX4_receive_43 (by decide) ?_
      refine g_iast (j := 71 + o) X G 1 rfl rfl (by omega) (by decide) dX4_receive_44 (fun H locs G => ?_)
      have G : Gw E A s (wM E a (sU (sU st 0 (87 + o) (st 0 6)) 0 (71 + o) 2) w) H locs := G
      refine lv_goto (tgt := 70) hx hb dX4_receive_45 (by decide) ?_
      refine lv_aload_n hx hb dX4_receive_70 rfl (lv_at hl 0 rfl) ?_
      refine lv_iload_n hx hb dX4_receive_71 rfl (lv_at hl 3 rfl) ?_
      refine g_callV (As := [.int (nI o)]) (rest := []) X kX4_88 (c_X4_insideOf l E a (sU (sU st 0 (87 + o) (st 0 6)) 0 (71 + o) 2) w o (by omega)) G 0 rfl rfl ⟨Nat.le_of_ble_eq_true rfl, Nat.le_of_ble_eq_true rfl⟩ ⟨Nat.le_refl _, Nat.le_refl _⟩ rfl hl.1 rfl (Nat.le_of_ble_eq_true rfl) dX4_receive_72 (fun H locs G => ?_)
      exact g_iret X hr G (congrArg (fun z => wM E a z w) (by first | (simp [recvR, recvC, flagIM, c2, c3]; done) | (have h0 : whyM st r rp o = 0 := (by omega); simp [recvR, recvC, flagIM, c2, c3, h0]; done) | (have h0 : ¬ whyM st r rp o = 0 := (by omega); simp [recvR, recvC, flagIM, h0]; done))) (by first | (simp [recvR, recvC, flagIM, c2, c3]; done) | (have h0 : whyM st r rp o = 0 := (by omega); simp [recvR, recvC, flagIM, c2, c3, h0]; done) | (have h0 : ¬ whyM st r rp o = 0 := (by omega); simp [recvR, recvC, flagIM, h0]; done)) dX4_receive_75
  · skip
    refine lv_bipush (v := (-6)) hx hb dX4_receive_10 (by decide) ?_
    exact g_iret X hr G (congrArg (fun z => wM E a z w) (by first | (simp [recvR, recvC, flagIM, c2]; done) | (have h0 : whyM st r rp o = 0 := (by omega); simp [recvR, recvC, flagIM, c2, h0]; done) | (have h0 : ¬ whyM st r rp o = 0 := (by omega); simp [recvR, recvC, flagIM, h0]; done))) (by first | (simp [recvR, recvC, flagIM, c2]; done) | (have h0 : whyM st r rp o = 0 := (by omega); simp [recvR, recvC, flagIM, c2, h0]; done) | (have h0 : ¬ whyM st r rp o = 0 := (by omega); simp [recvR, recvC, flagIM, h0]; done)) dX4_receive_12
set_option maxHeartbeats 1000000 in
set_option maxRecDepth 100000 in
theorem c_X4_isKnown (l : Launch) (E : EE) (a : Nat → Nat) (st : St) (w : va_W) (k : Nat) (hk : k < 32) : Ct l yX4_isKnown cX4_isKnown 2 (some .boolean) 0 E [.ref (a 0), .int (nI k)] (wM E a st w) (bI (knownM st k)) (wM E a st w) := by
  refine Ct_mk RX4 rfl (by decide +kernel) (Nat.le_of_ble_eq_true rfl) ?_
  intro p e s m below meth c A ls X hr G hl
  have hl : lv_has ls 2 [(0, .ref (a 0)), (1, .int (nI k))] := hl
  obtain ⟨hx, hb, hml, hown, hts, hK, hA, hlocks⟩ := id X
  refine lv_aload_n hx hb dX4_isKnown_0 rfl (lv_at hl 0 rfl) ?_
  refine g_get X G fX4_7 0 rfl rfl dX4_isKnown_1 ?_
  refine lv_sipush (v := 183) hx hb dX4_isKnown_4 (by decide) ?_
  refine lv_iload_n hx hb dX4_isKnown_7 rfl (lv_at hl 1 rfl) ?_
  refine n_iadd 183 k rfl rfl hx hb dX4_isKnown_8 ?_
  refine g_iald (j := 183 + k) X G 1 rfl rfl (by omega) (by decide) dX4_isKnown_9 ?_
  refine lv_aload_n hx hb dX4_isKnown_10 rfl (lv_at hl 0 rfl) ?_
  refine g_get X G fX4_7 0 rfl rfl dX4_isKnown_11 ?_
  refine lv_bipush (v := 6) hx hb dX4_isKnown_14 (by decide) ?_
  refine g_iald (j := 6) X G 1 rfl rfl (by omega) (by decide) dX4_isKnown_16 ?_
  refine lv_icmp_le (tgt := 24) hx hb dX4_isKnown_17 (by decide) (fun c1 => ?_) (fun c1 => ?_)
  · skip
    refine lv_iconst (v := 0) hx hb dX4_isKnown_24 (by decide) ?_
    exact g_ret X hr rfl G rfl (by simp [knownM, bI, c1]) dX4_isKnown_25
  · skip
    refine lv_iconst (v := 1) hx hb dX4_isKnown_20 (by decide) ?_
    refine lv_goto (tgt := 25) hx hb dX4_isKnown_21 (by decide) ?_
    exact g_ret X hr rfl G rfl (by simp [knownM, bI, c1]) dX4_isKnown_25
set_option maxHeartbeats 1000000 in
set_option maxRecDepth 100000 in
theorem c_X4_isHeld (l : Launch) (E : EE) (a : Nat → Nat) (st : St) (w : va_W) (k : Nat) (hk : k < 32) (q : Nat) (hq : q < 8) : Ct l yX4_isHeld cX4_isHeld 3 (some .boolean) 0 E [.ref (a 0), .int (nI k), .int (nI q)] (wM E a st w) (bI (!decide (st 0 (247 + 8 * k + q) ≤ st 0 6))) (wM E a st w) := by
  refine Ct_mk RX4 rfl (by decide +kernel) (Nat.le_of_ble_eq_true rfl) ?_
  intro p e s m below meth c A ls X hr G hl
  have hl : lv_has ls 3 [(0, .ref (a 0)), (1, .int (nI k)), (2, .int (nI q))] := hl
  obtain ⟨hx, hb, hml, hown, hts, hK, hA, hlocks⟩ := id X
  refine lv_aload_n hx hb dX4_isHeld_0 rfl (lv_at hl 0 rfl) ?_
  refine g_get X G fX4_7 0 rfl rfl dX4_isHeld_1 ?_
  refine lv_sipush (v := 247) hx hb dX4_isHeld_4 (by decide) ?_
  refine lv_bipush (v := 8) hx hb dX4_isHeld_7 (by decide) ?_
  refine lv_iload_n hx hb dX4_isHeld_9 rfl (lv_at hl 1 rfl) ?_
  refine n_imul 8 k rfl rfl hx hb dX4_isHeld_10 ?_
  refine n_iadd 247 (8 * k) rfl rfl hx hb dX4_isHeld_11 ?_
  refine lv_iload_n hx hb dX4_isHeld_12 rfl (lv_at hl 2 rfl) ?_
  refine n_iadd (247 + (8 * k)) q rfl rfl hx hb dX4_isHeld_13 ?_
  refine g_iald (j := (247 + (8 * k)) + q) X G 1 rfl rfl (by omega) (by decide) dX4_isHeld_14 ?_
  refine lv_aload_n hx hb dX4_isHeld_15 rfl (lv_at hl 0 rfl) ?_
  refine g_get X G fX4_7 0 rfl rfl dX4_isHeld_16 ?_
  refine lv_bipush (v := 6) hx hb dX4_isHeld_19 (by decide) ?_
  refine g_iald (j := 6) X G 1 rfl rfl (by omega) (by decide) dX4_isHeld_21 ?_
  refine lv_icmp_le (tgt := 29) hx hb dX4_isHeld_22 (by decide) (fun c1 => ?_) (fun c1 => ?_)
  · skip
    refine lv_iconst (v := 0) hx hb dX4_isHeld_29 (by decide) ?_
    exact g_ret X hr rfl G rfl (by simp [bI, c1]) dX4_isHeld_30
  · skip
    refine lv_iconst (v := 1) hx hb dX4_isHeld_25 (by decide) ?_
    refine lv_goto (tgt := 30) hx hb dX4_isHeld_26 (by decide) ?_
    exact g_ret X hr rfl G rfl (by simp [bI, c1]) dX4_isHeld_30
set_option maxHeartbeats 1000000 in
set_option maxRecDepth 100000 in
theorem c_X4_heldMany (l : Launch) (E : EE) (a : Nat → Nat) (st : St) (w : va_W) : Ct l yX4_heldMany cX4_heldMany 3 (some .int) 0 E [.ref (a 0)] (wM E a st w) (nI (heldManyM st)) (wM E a st w) := by
  refine Ct_mk RX4 rfl (by decide +kernel) (Nat.le_of_ble_eq_true rfl) ?_
  intro p e s m below meth c A ls X hr G hl
  have hl : lv_has ls 3 [(0, .ref (a 0))] := hl
  obtain ⟨hx, hb, hml, hown, hts, hK, hA, hlocks⟩ := id X
  refine lv_iconst (v := 0) hx hb dX4_heldMany_0 (by decide) ?_
  refine lv_istore_n (lv' := [(1, .int 0), (0, .ref (a 0))]) hx hb dX4_heldMany_1 rfl hl (by decide) rfl (fun ls hl => ?_)
  refine lv_iconst (v := 0) hx hb dX4_heldMany_2 (by decide) ?_
  refine lv_istore_n (lv' := [(2, .int 0), (1, .int 0), (0, .ref (a 0))]) hx hb dX4_heldMany_3 rfl hl (by decide) rfl (fun ls hl => ?_)
  have LP4 : ∀ (n i : Nat) (z : Nat) (H : Heap) (locs : List Loc) (ls : Array Slot), (i + n = 256) → (z + cF (heldM st) n i = heldManyM st) → Gw E A s (wM E a st w) H locs → lv_has ls 3 [(0, .ref (a 0)), (1, .int (nI z)), (2, .int (nI i))] → W p l e (rmD 0) s m ([.ref (a 0)] : List Value).toArray below meth c H locs 0 0 (MQ below (CtQ E A (nI (heldManyM st)) (wM E a st w)) ([.ref (a 0)] : List Value).toArray s 0 0 A) (F0 m 4 ls []) := by
    intro n
    induction n with
    | zero =>
      intro i z H locs ls hi hR G hl
      refine lv_iload_n hx hb dX4_heldMany_4 rfl (lv_at hl 2 rfl) ?_
      refine lv_sipush (v := 256) hx hb dX4_heldMany_5 (by decide) ?_
      refine n_cmp_ge (tgt := 45) i 256 rfl rfl (by omega) (by omega) hx hb dX4_heldMany_8 (by decide) (fun c1 => ?_) (fun c1 => ?_)
      · skip
        refine lv_iload_n hx hb dX4_heldMany_45 rfl (lv_at hl 1 rfl) ?_
        exact g_iret X hr G rfl (by rw [← hR]; simp [cF]) dX4_heldMany_46
      · skip
        exact absurd c1 (by omega)
    | succ n ih4 =>
      intro i z H locs ls hi hR G hl
      refine lv_iload_n hx hb dX4_heldMany_4 rfl (lv_at hl 2 rfl) ?_
      refine lv_sipush (v := 256) hx hb dX4_heldMany_5 (by decide) ?_
      refine n_cmp_ge (tgt := 45) i 256 rfl rfl (by omega) (by omega) hx hb dX4_heldMany_8 (by decide) (fun c2 => ?_) (fun c2 => ?_)
      · skip
        exact absurd c2 (by omega)
      · skip
        refine lv_iload_n hx hb dX4_heldMany_11 rfl (lv_at hl 1 rfl) ?_
        refine lv_aload_n hx hb dX4_heldMany_12 rfl (lv_at hl 0 rfl) ?_
        refine g_get X G fX4_7 0 rfl rfl dX4_heldMany_13 ?_
        refine lv_sipush (v := 247) hx hb dX4_heldMany_16 (by decide) ?_
        refine lv_iload_n hx hb dX4_heldMany_19 rfl (lv_at hl 2 rfl) ?_
        refine n_iadd 247 i rfl rfl hx hb dX4_heldMany_20 ?_
        refine g_iald (j := 247 + i) X G 1 rfl rfl (by omega) (by decide) dX4_heldMany_21 ?_
        refine lv_aload_n hx hb dX4_heldMany_22 rfl (lv_at hl 0 rfl) ?_
        refine g_get X G fX4_7 0 rfl rfl dX4_heldMany_23 ?_
        refine lv_bipush (v := 6) hx hb dX4_heldMany_26 (by decide) ?_
        refine g_iald (j := 6) X G 1 rfl rfl (by omega) (by decide) dX4_heldMany_28 ?_
        refine lv_icmp_le (tgt := 36) hx hb dX4_heldMany_29 (by decide) (fun c3 => ?_) (fun c3 => ?_)
        · skip
          refine lv_iconst (v := 0) hx hb dX4_heldMany_36 (by decide) ?_
          refine n_iadd z 0 rfl rfl hx hb dX4_heldMany_37 ?_
          refine lv_istore_n (lv' := [(1, .int (nI (z + 0))), (0, .ref (a 0)), (2, .int (nI i))]) hx hb dX4_heldMany_38 rfl hl (by decide) rfl (fun ls hl => ?_)
          refine lv_iinc (v := nI (i + 1)) (lv' := [(2, .int (nI (i + 1))), (1, .int (nI (z + 0))), (0, .ref (a 0))]) hx hb dX4_heldMany_39 hl (k := 2) rfl (nI_inc _) (by decide) rfl (fun ls hl => ?_)
          refine lv_goto (tgt := 4) hx hb dX4_heldMany_42 (by decide) ?_
          exact ih4 (i + 1) (z + 0) _ _ ls (by omega) (by simp [cF, heldM, c2, c3] at hR ⊢; omega) G (lv_sub hl [2, 1, 0] rfl)
        · skip
          refine lv_iconst (v := 1) hx hb dX4_heldMany_32 (by decide) ?_
          refine lv_goto (tgt := 37) hx hb dX4_heldMany_33 (by decide) ?_
          refine n_iadd z 1 rfl rfl hx hb dX4_heldMany_37 ?_
          refine lv_istore_n (lv' := [(1, .int (nI (z + 1))), (0, .ref (a 0)), (2, .int (nI i))]) hx hb dX4_heldMany_38 rfl hl (by decide) rfl (fun ls hl => ?_)
          refine lv_iinc (v := nI (i + 1)) (lv' := [(2, .int (nI (i + 1))), (1, .int (nI (z + 1))), (0, .ref (a 0))]) hx hb dX4_heldMany_39 hl (k := 2) rfl (nI_inc _) (by decide) rfl (fun ls hl => ?_)
          refine lv_goto (tgt := 4) hx hb dX4_heldMany_42 (by decide) ?_
          exact ih4 (i + 1) (z + 1) _ _ ls (by omega) (by simp [cF, heldM, c2, c3] at hR ⊢; omega) G (lv_sub hl [2, 1, 0] rfl)
  exact LP4 256 0 0 _ _ ls (by omega) (by simp [heldManyM]) G (lv_sub hl [2, 1, 0] rfl)
set_option maxHeartbeats 1000000 in
set_option maxRecDepth 100000 in
theorem c_X4_letGo (l : Launch) (E : EE) (a : Nat → Nat) (st : St) (w : va_W) (k : Nat) (hk : k < 32) : Ct l yX4_letGo cX4_letGo 4 (some .int) 1 E [.ref (a 0), .int (nI k)] (wM E a st w) (nI ((letGoC st k).2)) (wM E a ((letGoC st k).1) w) := by
  refine Ct_mk RX4 rfl (by decide +kernel) (Nat.le_of_ble_eq_true rfl) ?_
  intro p e s m below meth c A ls X hr G hl
  have hl : lv_has ls 4 [(0, .ref (a 0)), (1, .int (nI k))] := hl
  obtain ⟨hx, hb, hml, hown, hts, hK, hA, hlocks⟩ := id X
  refine lv_iconst (v := 0) hx hb dX4_letGo_0 (by decide) ?_
  refine lv_istore_n (lv' := [(2, .int 0), (0, .ref (a 0)), (1, .int (nI k))]) hx hb dX4_letGo_1 rfl hl (by decide) rfl (fun ls hl => ?_)
  refine lv_iconst (v := 0) hx hb dX4_letGo_2 (by decide) ?_
  refine lv_istore_n (lv' := [(3, .int 0), (2, .int 0), (0, .ref (a 0)), (1, .int (nI k))]) hx hb dX4_letGo_3 rfl hl (by decide) rfl (fun ls hl => ?_)
  have LP4 : ∀ (n i : Nat) (sx : St) (z : Nat) (H : Heap) (locs : List Loc) (ls : Array Slot), (i + n = 8) → (iF (letS k) n i (sx, z) = letGoC st k) → Gw E A s (wM E a sx w) H locs → lv_has ls 4 [(0, .ref (a 0)), (1, .int (nI k)), (2, .int (nI z)), (3, .int (nI i))] → W p l e (rmD 1) s m ([.ref (a 0), .int (nI k)] : List Value).toArray below meth c H locs 0 0 (MQ below (CtQ E A (nI ((letGoC st k).2)) (wM E a ((letGoC st k).1) w)) ([.ref (a 0), .int (nI k)] : List Value).toArray s 0 0 A) (F0 m 4 ls []) := by
    intro n
    induction n with
    | zero =>
      intro i sx z H locs ls hi hR G hl
      refine lv_iload_n hx hb dX4_letGo_4 rfl (lv_at hl 3 rfl) ?_
      refine lv_bipush (v := 8) hx hb dX4_letGo_5 (by decide) ?_
      refine n_cmp_ge (tgt := 49) i 8 rfl rfl (by omega) (by omega) hx hb dX4_letGo_7 (by decide) (fun c1 => ?_) (fun c1 => ?_)
      · skip
        refine lv_iload_n hx hb dX4_letGo_49 rfl (lv_at hl 2 rfl) ?_
        exact g_iret X hr G (congrArg (fun z => wM E a z w) (by rw [← hR]; rfl)) (by rw [← hR]; rfl) dX4_letGo_50
      · skip
        exact absurd c1 (by omega)
    | succ n ih4 =>
      intro i sx z H locs ls hi hR G hl
      refine lv_iload_n hx hb dX4_letGo_4 rfl (lv_at hl 3 rfl) ?_
      refine lv_bipush (v := 8) hx hb dX4_letGo_5 (by decide) ?_
      refine n_cmp_ge (tgt := 49) i 8 rfl rfl (by omega) (by omega) hx hb dX4_letGo_7 (by decide) (fun c2 => ?_) (fun c2 => ?_)
      · skip
        exact absurd c2 (by omega)
      · skip
        refine lv_iload_n hx hb dX4_letGo_10 rfl (lv_at hl 2 rfl) ?_
        refine lv_aload_n hx hb dX4_letGo_11 rfl (lv_at hl 0 rfl) ?_
        refine lv_iload_n hx hb dX4_letGo_12 rfl (lv_at hl 1 rfl) ?_
        refine lv_iload_n hx hb dX4_letGo_13 rfl (lv_at hl 3 rfl) ?_
        refine g_callV (As := [.int (nI k), .int (nI i)]) (rest := [.int (nI z)]) X kX4_97 (c_X4_isHeld l E a sx w k (by omega) i (by omega)) G 0 rfl rfl ⟨Nat.le_of_ble_eq_true rfl, Nat.le_of_ble_eq_true rfl⟩ ⟨Nat.le_refl _, Nat.le_refl _⟩ rfl hl.1 rfl (Nat.le_of_ble_eq_true rfl) dX4_letGo_14 (fun H locs G => ?_)
        refine b_ifeq (tgt := 24) hx hb dX4_letGo_17 (by decide) (fun c3 => ?_) (fun c3 => ?_)
        · skip
          refine lv_iconst (v := 0) hx hb dX4_letGo_24 (by decide) ?_
          refine n_iadd z 0 rfl rfl hx hb dX4_letGo_25 ?_
          refine lv_istore_n (lv' := [(2, .int (nI (z + 0))), (0, .ref (a 0)), (1, .int (nI k)), (3, .int (nI i))]) hx hb dX4_letGo_26 rfl hl (by decide) rfl (fun ls hl => ?_)
          refine lv_aload_n hx hb dX4_letGo_27 rfl (lv_at hl 1 rfl) ?_
          refine g_get X G fX4_7 0 rfl rfl dX4_letGo_28 ?_
          refine lv_sipush (v := 247) hx hb dX4_letGo_31 (by decide) ?_
          refine lv_bipush (v := 8) hx hb dX4_letGo_34 (by decide) ?_
          refine lv_iload_n hx hb dX4_letGo_36 rfl (lv_at hl 2 rfl) ?_
          refine n_imul 8 k rfl rfl hx hb dX4_letGo_37 ?_
          refine n_iadd 247 (8 * k) rfl rfl hx hb dX4_letGo_38 ?_
          refine lv_iload_n hx hb dX4_letGo_39 rfl (lv_at hl 3 rfl) ?_
          refine n_iadd (247 + (8 * k)) i rfl rfl hx hb dX4_letGo_40 ?_
          refine lv_iconst (v := 0) hx hb dX4_letGo_41 (by decide) ?_
          refine g_iast (j := (247 + (8 * k)) + i) X G 1 rfl rfl (by omega) (by decide) dX4_letGo_42 (fun H locs G => ?_)
          have G : Gw E A s (wM E a (sU sx 0 ((247 + (8 * k)) + i) 0) w) H locs := G
          refine lv_iinc (v := nI (i + 1)) (lv' := [(3, .int (nI (i + 1))), (2, .int (nI (z + 0))), (0, .ref (a 0)), (1, .int (nI k))]) hx hb dX4_letGo_43 hl (k := 3) rfl (nI_inc _) (by decide) rfl (fun ls hl => ?_)
          refine lv_goto (tgt := 4) hx hb dX4_letGo_46 (by decide) ?_
          exact ih4 (i + 1) (sU sx 0 ((247 + (8 * k)) + i) 0) (z + 0) _ _ ls (by omega) (by first | (rw [← hR, iF_s]; simp [letS, c3]; done) | (rw [← hR, iF_s]; simp only [letS]; rw [c3]; rfl)) G (lv_sub hl [2, 3, 1, 0] rfl)
        · skip
          refine lv_iconst (v := 1) hx hb dX4_letGo_20 (by decide) ?_
          refine lv_goto (tgt := 25) hx hb dX4_letGo_21 (by decide) ?_
          refine n_iadd z 1 rfl rfl hx hb dX4_letGo_25 ?_
          refine lv_istore_n (lv' := [(2, .int (nI (z + 1))), (0, .ref (a 0)), (1, .int (nI k)), (3, .int (nI i))]) hx hb dX4_letGo_26 rfl hl (by decide) rfl (fun ls hl => ?_)
          refine lv_aload_n hx hb dX4_letGo_27 rfl (lv_at hl 1 rfl) ?_
          refine g_get X G fX4_7 0 rfl rfl dX4_letGo_28 ?_
          refine lv_sipush (v := 247) hx hb dX4_letGo_31 (by decide) ?_
          refine lv_bipush (v := 8) hx hb dX4_letGo_34 (by decide) ?_
          refine lv_iload_n hx hb dX4_letGo_36 rfl (lv_at hl 2 rfl) ?_
          refine n_imul 8 k rfl rfl hx hb dX4_letGo_37 ?_
          refine n_iadd 247 (8 * k) rfl rfl hx hb dX4_letGo_38 ?_
          refine lv_iload_n hx hb dX4_letGo_39 rfl (lv_at hl 3 rfl) ?_
          refine n_iadd (247 + (8 * k)) i rfl rfl hx hb dX4_letGo_40 ?_
          refine lv_iconst (v := 0) hx hb dX4_letGo_41 (by decide) ?_
          refine g_iast (j := (247 + (8 * k)) + i) X G 1 rfl rfl (by omega) (by decide) dX4_letGo_42 (fun H locs G => ?_)
          have G : Gw E A s (wM E a (sU sx 0 ((247 + (8 * k)) + i) 0) w) H locs := G
          refine lv_iinc (v := nI (i + 1)) (lv' := [(3, .int (nI (i + 1))), (2, .int (nI (z + 1))), (0, .ref (a 0)), (1, .int (nI k))]) hx hb dX4_letGo_43 hl (k := 3) rfl (nI_inc _) (by decide) rfl (fun ls hl => ?_)
          refine lv_goto (tgt := 4) hx hb dX4_letGo_46 (by decide) ?_
          exact ih4 (i + 1) (sU sx 0 ((247 + (8 * k)) + i) 0) (z + 1) _ _ ls (by omega) (by first | (rw [← hR, iF_s]; simp [letS, c3]; done) | (rw [← hR, iF_s]; simp only [letS]; rw [c3]; rfl)) G (lv_sub hl [2, 3, 1, 0] rfl)
  exact LP4 8 0 st 0 _ _ ls (by omega) rfl G (lv_sub hl [2, 3, 1, 0] rfl)
set_option maxHeartbeats 1000000 in
set_option maxRecDepth 100000 in
theorem c_X4_first (l : Launch) (E : EE) (a : Nat → Nat) (st : St) (w : va_W) (r : Nat) (hr : r < 5) (k : Nat) (hk : k < 32) (rp : Nat) (hrp : rp < 32) (o : Nat) (ho : o < 16) : Ct l yX4_first cX4_first 6 (some .int) 3 E [.ref (a 0), .int (nI r), .int (nI k), .int (nI rp), .int (nI o)] (wM E a st w) ((firstM st r k rp o).1) (wM E a ((firstM st r k rp o).2) w) := by
  refine Ct_mk RX4 rfl (by decide +kernel) (Nat.le_of_ble_eq_true rfl) ?_
  intro p e s m below meth c A ls X hr G hl
  have hl : lv_has ls 6 [(0, .ref (a 0)), (1, .int (nI r)), (2, .int (nI k)), (3, .int (nI rp)), (4, .int (nI o))] := hl
  obtain ⟨hx, hb, hml, hown, hts, hK, hA, hlocks⟩ := id X
  refine lv_aload_n hx hb dX4_first_0 rfl (lv_at hl 0 rfl) ?_
  refine lv_iload_n hx hb dX4_first_1 rfl (lv_at hl 2 rfl) ?_
  refine g_callV (As := [.int (nI k)]) (rest := []) X kX4_100 (c_X4_letGo l E a st w k (by omega)) G 0 rfl rfl ⟨Nat.le_of_ble_eq_true rfl, Nat.le_of_ble_eq_true rfl⟩ ⟨Nat.le_refl _, Nat.le_refl _⟩ rfl hl.1 rfl (Nat.le_of_ble_eq_true rfl) dX4_first_2 (fun H locs G => ?_)
  obtain ⟨sv1, esv1⟩ : ∃ z, z = (letGoC st k).1 := ⟨_, rfl⟩
  rw [← esv1] at G
  refine lv_istore (lv' := [(5, .int (nI ((letGoC st k).2))), (0, .ref (a 0)), (1, .int (nI r)), (2, .int (nI k)), (3, .int (nI rp)), (4, .int (nI o))]) hx hb dX4_first_5 hl (by decide) rfl (fun ls hl => ?_)
  refine lv_aload_n hx hb dX4_first_7 rfl (lv_at hl 1 rfl) ?_
  refine lv_iload_n hx hb dX4_first_8 rfl (lv_at hl 2 rfl) ?_
  refine lv_iload_n hx hb dX4_first_9 rfl (lv_at hl 4 rfl) ?_
  refine lv_iload hx hb dX4_first_10 (lv_at hl 5 rfl) ?_
  refine lv_iconst (v := 0) hx hb dX4_first_12 (by decide) ?_
  refine g_callV (As := [.int (nI r), .int (nI rp), .int (nI o), .int 0]) (rest := []) X kX4_94 (c_X4_receive l E a sv1 w r (by omega) rp (by omega) o (by omega) 0 (by omega)) G 0 rfl rfl ⟨Nat.le_of_ble_eq_true rfl, Nat.le_of_ble_eq_true rfl⟩ ⟨Nat.le_refl _, Nat.le_refl _⟩ rfl hl.1 rfl (Nat.le_of_ble_eq_true rfl) dX4_first_13 (fun H locs G => ?_)
  obtain ⟨sv2, esv2⟩ : ∃ z, z = recvC sv1 r rp o 0 := ⟨_, rfl⟩
  rw [← esv2] at G
  refine lv_if_ge (tgt := 33) hx hb dX4_first_16 (by decide) (fun c3 => ?_) (fun c3 => ?_)
  · skip
    refine lv_aload_n hx hb dX4_first_33 rfl (lv_at hl 1 rfl) ?_
    refine g_get X G fX4_7 0 rfl rfl dX4_first_34 ?_
    refine lv_sipush (v := 183) hx hb dX4_first_37 (by decide) ?_
    refine lv_iload_n hx hb dX4_first_40 rfl (lv_at hl 3 rfl) ?_
    refine n_iadd 183 k rfl rfl hx hb dX4_first_41 ?_
    refine lv_aload_n hx hb dX4_first_42 rfl (lv_at hl 1 rfl) ?_
    refine g_get X G fX4_7 0 rfl rfl dX4_first_43 ?_
    refine lv_bipush (v := 6) hx hb dX4_first_46 (by decide) ?_
    refine g_iald (j := 6) X G 1 rfl rfl (by omega) (by decide) dX4_first_48 ?_
    refine lv_iconst (v := 5) hx hb dX4_first_49 (by decide) ?_
    refine lv_iadd hx hb dX4_first_50 ?_
    refine g_iast (j := 183 + k) X G 1 rfl rfl (by omega) (by decide) dX4_first_51 (fun H locs G => ?_)
    have G : Gw E A s (wM E a (sU sv2 0 (183 + k) ((sv2 0 6) + 5)) w) H locs := G
    refine lv_aload_n hx hb dX4_first_52 rfl (lv_at hl 1 rfl) ?_
    refine g_get X G fX4_7 0 rfl rfl dX4_first_53 ?_
    refine lv_sipush (v := 215) hx hb dX4_first_56 (by decide) ?_
    refine lv_iload_n hx hb dX4_first_59 rfl (lv_at hl 3 rfl) ?_
    refine n_iadd 215 k rfl rfl hx hb dX4_first_60 ?_
    refine lv_iload hx hb dX4_first_61 (lv_at hl 5 rfl) ?_
    refine g_iast (j := 215 + k) X G 1 rfl rfl (by omega) (by decide) dX4_first_63 (fun H locs G => ?_)
    have G : Gw E A s (wM E a (sU (sU sv2 0 (183 + k) ((sv2 0 6) + 5)) 0 (215 + k) (nI o)) w) H locs := G
    refine lv_iload hx hb dX4_first_64 (lv_at hl 0 rfl) ?_
    refine lv_iconst (v := 1) hx hb dX4_first_66 (by decide) ?_
    refine n_iadd ((letGoC st k).2) 1 rfl rfl hx hb dX4_first_67 ?_
    exact g_iret X hr G (congrArg (fun z => wM E a z w) (by simp only [firstM]; (try rw [← esv1]); (try rw [← esv2]); simp [c3])) (by simp only [firstM]; (try rw [← esv1]); (try rw [← esv2]); simp [c3]) dX4_first_68
  · skip
    refine lv_aload_n hx hb dX4_first_19 rfl (lv_at hl 1 rfl) ?_
    refine g_get X G fX4_7 0 rfl rfl dX4_first_20 ?_
    refine lv_sipush (v := 183) hx hb dX4_first_23 (by decide) ?_
    refine lv_iload_n hx hb dX4_first_26 rfl (lv_at hl 3 rfl) ?_
    refine n_iadd 183 k rfl rfl hx hb dX4_first_27 ?_
    refine lv_iconst (v := 0) hx hb dX4_first_28 (by decide) ?_
    refine g_iast (j := 183 + k) X G 1 rfl rfl (by omega) (by decide) dX4_first_29 (fun H locs G => ?_)
    have G : Gw E A s (wM E a (sU sv2 0 (183 + k) 0) w) H locs := G
    refine lv_bipush (v := (-6)) hx hb dX4_first_30 (by decide) ?_
    exact g_iret X hr G (congrArg (fun z => wM E a z w) (by simp only [firstM]; (try rw [← esv1]); (try rw [← esv2]); simp [c3])) (by simp only [firstM]; (try rw [← esv1]); (try rw [← esv2]); simp [c3]) dX4_first_32
set_option maxHeartbeats 1000000 in
set_option maxRecDepth 100000 in
theorem c_X4_hold (l : Launch) (E : EE) (a : Nat → Nat) (st : St) (w : va_W) (k : Nat) (hk : k < 32) (q : Nat) (hq : q < 8) : Ct l yX4_hold cX4_hold 3 (some .int) 1 E [.ref (a 0), .int (nI k), .int (nI q)] (wM E a st w) ((holdM st k q).1) (wM E a ((holdM st k q).2) w) := by
  refine Ct_mk RX4 rfl (by decide +kernel) (Nat.le_of_ble_eq_true rfl) ?_
  intro p e s m below meth c A ls X hr G hl
  have hl : lv_has ls 3 [(0, .ref (a 0)), (1, .int (nI k)), (2, .int (nI q))] := hl
  obtain ⟨hx, hb, hml, hown, hts, hK, hA, hlocks⟩ := id X
  refine lv_aload_n hx hb dX4_hold_0 rfl (lv_at hl 0 rfl) ?_
  refine lv_iload_n hx hb dX4_hold_1 rfl (lv_at hl 1 rfl) ?_
  refine lv_iload_n hx hb dX4_hold_2 rfl (lv_at hl 2 rfl) ?_
  refine g_callV (As := [.int (nI k), .int (nI q)]) (rest := []) X kX4_97 (c_X4_isHeld l E a st w k (by omega) q (by omega)) G 0 rfl rfl ⟨Nat.le_of_ble_eq_true rfl, Nat.le_of_ble_eq_true rfl⟩ ⟨Nat.le_refl _, Nat.le_refl _⟩ rfl hl.1 rfl (Nat.le_of_ble_eq_true rfl) dX4_hold_3 (fun H locs G => ?_)
  refine b_ifeq (tgt := 11) hx hb dX4_hold_6 (by decide) (fun c1 => ?_) (fun c1 => ?_)
  · skip
    refine lv_aload_n hx hb dX4_hold_11 rfl (lv_at hl 0 rfl) ?_
    refine g_callV (As := []) (rest := []) X kX4_103 (c_X4_heldMany l E a st w) G 0 rfl rfl ⟨Nat.le_of_ble_eq_true rfl, Nat.le_of_ble_eq_true rfl⟩ ⟨Nat.le_refl _, Nat.le_refl _⟩ rfl hl.1 rfl (Nat.le_of_ble_eq_true rfl) dX4_hold_12 (fun H locs G => ?_)
    have b2 : (heldManyM st) ≤ 256 := cF_le _ _ _
    refine lv_bipush (v := 6) hx hb dX4_hold_15 (by decide) ?_
    refine n_cmp_ne (tgt := 23) (heldManyM st) 6 rfl rfl (by omega) (by omega) hx hb dX4_hold_17 (by decide) (fun c3 => ?_) (fun c3 => ?_)
    · skip
      refine lv_aload_n hx hb dX4_hold_23 rfl (lv_at hl 0 rfl) ?_
      refine g_get X G fX4_7 0 rfl rfl dX4_hold_24 ?_
      refine lv_sipush (v := 247) hx hb dX4_hold_27 (by decide) ?_
      refine lv_bipush (v := 8) hx hb dX4_hold_30 (by decide) ?_
      refine lv_iload_n hx hb dX4_hold_32 rfl (lv_at hl 1 rfl) ?_
      refine n_imul 8 k rfl rfl hx hb dX4_hold_33 ?_
      refine n_iadd 247 (8 * k) rfl rfl hx hb dX4_hold_34 ?_
      refine lv_iload_n hx hb dX4_hold_35 rfl (lv_at hl 2 rfl) ?_
      refine n_iadd (247 + (8 * k)) q rfl rfl hx hb dX4_hold_36 ?_
      refine lv_aload_n hx hb dX4_hold_37 rfl (lv_at hl 0 rfl) ?_
      refine g_get X G fX4_7 0 rfl rfl dX4_hold_38 ?_
      refine lv_bipush (v := 6) hx hb dX4_hold_41 (by decide) ?_
      refine g_iald (j := 6) X G 1 rfl rfl (by omega) (by decide) dX4_hold_43 ?_
      refine lv_iconst (v := 5) hx hb dX4_hold_44 (by decide) ?_
      refine lv_iadd hx hb dX4_hold_45 ?_
      refine g_iast (j := (247 + (8 * k)) + q) X G 1 rfl rfl (by omega) (by decide) dX4_hold_46 (fun H locs G => ?_)
      have G : Gw E A s (wM E a (sU st 0 ((247 + (8 * k)) + q) ((st 0 6) + 5)) w) H locs := G
      refine lv_iconst (v := 0) hx hb dX4_hold_47 (by decide) ?_
      exact g_iret X hr G (congrArg (fun z => wM E a z w) (by simp at c1; simp [holdM, c1, c3])) (by simp at c1; simp [holdM, c1, c3]) dX4_hold_48
    · skip
      refine lv_bipush (v := (-4)) hx hb dX4_hold_20 (by decide) ?_
      exact g_iret X hr G (congrArg (fun z => wM E a z w) (by simp at c1; simp [holdM, c1, c3])) (by simp at c1; simp [holdM, c1, c3]) dX4_hold_22
  · skip
    refine lv_iconst (v := 0) hx hb dX4_hold_9 (by decide) ?_
    exact g_iret X hr G (congrArg (fun z => wM E a z w) (by simp at c1; simp [holdM, c1])) (by simp at c1; simp [holdM, c1]) dX4_hold_10
set_option maxHeartbeats 1000000 in
set_option maxRecDepth 100000 in
theorem c_X4_out (l : Launch) (E : EE) (a : Nat → Nat) (st : St) (w : va_W) (h : Int32) (pt : Int32) (r : Int32) (rp : Int32) (f : Int32) : Ct l yX4_out cX4_out 6 (some .int) 5 E [.ref (a 0), .int h, .int pt, .int r, .int rp, .int f] (wM E a st w) ((mOut st h pt r rp f).1) (wM E a ((mOut st h pt r rp f).2) w) := by
  refine Ct_mk RX4 rfl (by decide +kernel) (Nat.le_of_ble_eq_true rfl) ?_
  intro p e s m below meth c A ls X hr G hl
  have hl : lv_has ls 6 [(0, .ref (a 0)), (1, .int h), (2, .int pt), (3, .int r), (4, .int rp), (5, .int f)] := hl
  obtain ⟨hx, hb, hml, hown, hts, hK, hA, hlocks⟩ := id X
  refine lv_iload_n hx hb dX4_out_0 rfl (lv_at hl 1 rfl) ?_
  refine g_callS (As := [.int h]) (rest := []) X kX4_68 (c_X4_isHost l E _ h) G ⟨Nat.le_of_ble_eq_true rfl, Nat.le_of_ble_eq_true rfl⟩ ⟨Nat.le_refl _, Nat.le_refl _⟩ rfl hl.1 rfl (Nat.le_of_ble_eq_true rfl) dX4_out_1 (fun H locs G => ?_)
  refine b_ifne (tgt := 9) hx hb dX4_out_4 (by decide) (fun c1 => ?_) (fun c1 => ?_)
  · skip
    obtain ⟨hN, hhN, rfl⟩ := rg_nat (by decide) c1
    have ehN : cl (nI hN) = hN := cl_nI (by omega)
    refine lv_iload_n hx hb dX4_out_9 rfl (lv_at hl 2 rfl) ?_
    refine g_callS (As := [.int pt]) (rest := []) X kX4_71 (c_X4_isPort l E _ pt) G ⟨Nat.le_of_ble_eq_true rfl, Nat.le_of_ble_eq_true rfl⟩ ⟨Nat.le_refl _, Nat.le_refl _⟩ rfl hl.1 rfl (Nat.le_of_ble_eq_true rfl) dX4_out_10 (fun H locs G => ?_)
    refine b_ifeq (tgt := 33) hx hb dX4_out_13 (by decide) (fun c2 => ?_) (fun c2 => ?_)
    · skip
      refine lv_bipush (v := (-2)) hx hb dX4_out_33 (by decide) ?_
      exact g_iret X hr G (congrArg (fun z => wM E a z w) (by simp [mOut, oN, c1, ehN, c2])) (by simp [mOut, oN, c1, ehN, c2]) dX4_out_35
    · skip
      obtain ⟨ptN, hptN, rfl⟩ := rg_nat (by decide) c2
      have eptN : cl (nI ptN) = ptN := cl_nI (by omega)
      refine lv_iload_n hx hb dX4_out_16 rfl (lv_at hl 3 rfl) ?_
      refine lv_iload hx hb dX4_out_17 (lv_at hl 4 rfl) ?_
      refine g_callS (As := [.int r, .int rp]) (rest := []) X kX4_74 (c_X4_isRemote l E _ r rp) G ⟨Nat.le_of_ble_eq_true rfl, Nat.le_of_ble_eq_true rfl⟩ ⟨Nat.le_refl _, Nat.le_refl _⟩ rfl hl.1 rfl (Nat.le_of_ble_eq_true rfl) dX4_out_19 (fun H locs G => ?_)
      refine b_ifeq (tgt := 33) hx hb dX4_out_22 (by decide) (fun c3 => ?_) (fun c3 => ?_)
      · skip
        refine lv_bipush (v := (-2)) hx hb dX4_out_33 (by decide) ?_
        exact g_iret X hr G (congrArg (fun z => wM E a z w) (by simp [mOut, oN, c1, ehN, c2, eptN, c3])) (by simp [mOut, oN, c1, ehN, c2, eptN, c3]) dX4_out_35
      · skip
        obtain ⟨rN, rpN, hrN, hrpN, zrpN, rfl, rfl⟩ := rgR_nat c3
        have erN : cl (nI rN) = rN := cl_nI (by omega)
        have erpN : cl (nI rpN) = rpN := cl_nI (by omega)
        refine lv_iload hx hb dX4_out_25 (lv_at hl 5 rfl) ?_
        refine g_callS (As := [.int f]) (rest := []) X kX4_77 (c_X4_isFlag l E _ f) G ⟨Nat.le_of_ble_eq_true rfl, Nat.le_of_ble_eq_true rfl⟩ ⟨Nat.le_refl _, Nat.le_refl _⟩ rfl hl.1 rfl (Nat.le_of_ble_eq_true rfl) dX4_out_27 (fun H locs G => ?_)
        refine b_ifne (tgt := 36) hx hb dX4_out_30 (by decide) (fun c4 => ?_) (fun c4 => ?_)
        · skip
          obtain ⟨fN, hfN, rfl⟩ := rg_nat (by decide) c4
          have efN : cl (nI fN) = fN := cl_nI (by omega)
          refine lv_aload_n hx hb dX4_out_36 rfl (lv_at hl 0 rfl) ?_
          refine lv_iload_n hx hb dX4_out_37 rfl (lv_at hl 1 rfl) ?_
          refine lv_iload_n hx hb dX4_out_38 rfl (lv_at hl 2 rfl) ?_
          refine lv_iload_n hx hb dX4_out_39 rfl (lv_at hl 3 rfl) ?_
          refine lv_iload hx hb dX4_out_40 (lv_at hl 4 rfl) ?_
          refine lv_iload hx hb dX4_out_42 (lv_at hl 5 rfl) ?_
          refine g_callV (As := [.int (nI hN), .int (nI ptN), .int (nI rN), .int (nI rpN), .int (nI fN)]) (rest := []) X kX4_80 (c_X4_send l E a st w hN (by omega) ptN (by omega) rN (by omega) rpN (by omega) fN (by omega)) G 0 rfl rfl ⟨Nat.le_of_ble_eq_true rfl, Nat.le_of_ble_eq_true rfl⟩ ⟨Nat.le_refl _, Nat.le_refl _⟩ rfl hl.1 rfl (Nat.le_of_ble_eq_true rfl) dX4_out_44 (fun H locs G => ?_)
          obtain ⟨sv5, esv5⟩ : ∃ z, z = sendC st hN ptN rN rpN fN := ⟨_, rfl⟩
          rw [← esv5] at G
          refine n_split (fun c7 => ?_) (fun j6 c8 => ?_)
          · skip
            exact g_iret X hr G (congrArg (fun z => wM E a z w) (by (try rw [esv5]); simp [mOut, oN, c1, ehN, c2, eptN, c3, erN, erpN, c4, efN, c7])) (by (try rw [esv5]); simp [mOut, oN, c1, ehN, c2, eptN, c3, erN, erpN, c4, efN, c7]) dX4_out_47
          · skip
            have bj6 : j6 < 16 := sendO_lt c8
            exact g_iret X hr G (congrArg (fun z => wM E a z w) (by (try rw [esv5]); simp [mOut, oN, c1, ehN, c2, eptN, c3, erN, erpN, c4, efN, c8])) (by (try rw [esv5]); simp [mOut, oN, c1, ehN, c2, eptN, c3, erN, erpN, c4, efN, c8]) dX4_out_47
        · skip
          refine lv_bipush (v := (-2)) hx hb dX4_out_33 (by decide) ?_
          exact g_iret X hr G (congrArg (fun z => wM E a z w) (by simp [mOut, oN, c1, ehN, c2, eptN, c3, erN, erpN, c4])) (by simp [mOut, oN, c1, ehN, c2, eptN, c3, erN, erpN, c4]) dX4_out_35
  · skip
    refine lv_iconst (v := (-1)) hx hb dX4_out_7 (by decide) ?_
    exact g_iret X hr G (congrArg (fun z => wM E a z w) (by simp [mOut, oN, c1])) (by simp [mOut, oN, c1]) dX4_out_8
set_option maxHeartbeats 1000000 in
set_option maxRecDepth 100000 in
theorem c_X4_in (l : Launch) (E : EE) (a : Nat → Nat) (st : St) (w : va_W) (r : Int32) (rp : Int32) (o : Int32) (f : Int32) : Ct l yX4_in cX4_in 5 (some .int) 3 E [.ref (a 0), .int r, .int rp, .int o, .int f] (wM E a st w) ((mIn st r rp o f).1) (wM E a ((mIn st r rp o f).2) w) := by
  refine Ct_mk RX4 rfl (by decide +kernel) (Nat.le_of_ble_eq_true rfl) ?_
  intro p e s m below meth c A ls X hr G hl
  have hl : lv_has ls 5 [(0, .ref (a 0)), (1, .int r), (2, .int rp), (3, .int o), (4, .int f)] := hl
  obtain ⟨hx, hb, hml, hown, hts, hK, hA, hlocks⟩ := id X
  refine lv_iload_n hx hb dX4_in_0 rfl (lv_at hl 1 rfl) ?_
  refine lv_iload_n hx hb dX4_in_1 rfl (lv_at hl 2 rfl) ?_
  refine g_callS (As := [.int r, .int rp]) (rest := []) X kX4_74 (c_X4_isRemote l E _ r rp) G ⟨Nat.le_of_ble_eq_true rfl, Nat.le_of_ble_eq_true rfl⟩ ⟨Nat.le_refl _, Nat.le_refl _⟩ rfl hl.1 rfl (Nat.le_of_ble_eq_true rfl) dX4_in_2 (fun H locs G => ?_)
  refine b_ifne (tgt := 11) hx hb dX4_in_5 (by decide) (fun c1 => ?_) (fun c1 => ?_)
  · skip
    obtain ⟨rN, rpN, hrN, hrpN, zrpN, rfl, rfl⟩ := rgR_nat c1
    have erN : cl (nI rN) = rN := cl_nI (by omega)
    have erpN : cl (nI rpN) = rpN := cl_nI (by omega)
    refine lv_iload_n hx hb dX4_in_11 rfl (lv_at hl 3 rfl) ?_
    refine g_callS (As := [.int o]) (rest := []) X kX4_91 (c_X4_isOuter l E _ o) G ⟨Nat.le_of_ble_eq_true rfl, Nat.le_of_ble_eq_true rfl⟩ ⟨Nat.le_refl _, Nat.le_refl _⟩ rfl hl.1 rfl (Nat.le_of_ble_eq_true rfl) dX4_in_12 (fun H locs G => ?_)
    refine b_ifne (tgt := 20) hx hb dX4_in_15 (by decide) (fun c2 => ?_) (fun c2 => ?_)
    · skip
      obtain ⟨oN, hoN, rfl⟩ := rg_nat (by decide) c2
      have eoN : cl (nI oN) = oN := cl_nI (by omega)
      refine lv_iload hx hb dX4_in_20 (lv_at hl 4 rfl) ?_
      refine g_callS (As := [.int f]) (rest := []) X kX4_77 (c_X4_isFlag l E _ f) G ⟨Nat.le_of_ble_eq_true rfl, Nat.le_of_ble_eq_true rfl⟩ ⟨Nat.le_refl _, Nat.le_refl _⟩ rfl hl.1 rfl (Nat.le_of_ble_eq_true rfl) dX4_in_22 (fun H locs G => ?_)
      refine b_ifne (tgt := 31) hx hb dX4_in_25 (by decide) (fun c3 => ?_) (fun c3 => ?_)
      · skip
        obtain ⟨fN, hfN, rfl⟩ := rg_nat (by decide) c3
        have efN : cl (nI fN) = fN := cl_nI (by omega)
        refine lv_aload_n hx hb dX4_in_31 rfl (lv_at hl 0 rfl) ?_
        refine lv_iload_n hx hb dX4_in_32 rfl (lv_at hl 1 rfl) ?_
        refine lv_iload_n hx hb dX4_in_33 rfl (lv_at hl 2 rfl) ?_
        refine lv_iload_n hx hb dX4_in_34 rfl (lv_at hl 3 rfl) ?_
        refine lv_iload hx hb dX4_in_35 (lv_at hl 4 rfl) ?_
        refine g_callV (As := [.int (nI rN), .int (nI rpN), .int (nI oN), .int (nI fN)]) (rest := []) X kX4_94 (c_X4_receive l E a st w rN (by omega) rpN (by omega) oN (by omega) fN (by omega)) G 0 rfl rfl ⟨Nat.le_of_ble_eq_true rfl, Nat.le_of_ble_eq_true rfl⟩ ⟨Nat.le_refl _, Nat.le_refl _⟩ rfl hl.1 rfl (Nat.le_of_ble_eq_true rfl) dX4_in_37 (fun H locs G => ?_)
        obtain ⟨sv4, esv4⟩ : ∃ z, z = recvC st rN rpN oN fN := ⟨_, rfl⟩
        rw [← esv4] at G
        exact g_iret X hr G (congrArg (fun z => wM E a z w) (by (try rw [esv4]); simp [mIn, c1, erN, erpN, c2, eoN, c3, efN])) (by (try rw [esv4]); simp [mIn, c1, erN, erpN, c2, eoN, c3, efN]) dX4_in_40
      · skip
        refine lv_bipush (v := (-2)) hx hb dX4_in_28 (by decide) ?_
        exact g_iret X hr G (congrArg (fun z => wM E a z w) (by simp [mIn, c1, erN, erpN, c2, eoN, c3])) (by simp [mIn, c1, erN, erpN, c2, eoN, c3]) dX4_in_30
    · skip
      refine lv_iconst (v := (-1)) hx hb dX4_in_18 (by decide) ?_
      exact g_iret X hr G (congrArg (fun z => wM E a z w) (by simp [mIn, c1, erN, erpN, c2])) (by simp [mIn, c1, erN, erpN, c2]) dX4_in_19
  · skip
    refine lv_bipush (v := (-2)) hx hb dX4_in_8 (by decide) ?_
    exact g_iret X hr G (congrArg (fun z => wM E a z w) (by simp [mIn, c1])) (by simp [mIn, c1]) dX4_in_10
set_option maxHeartbeats 1000000 in
set_option maxRecDepth 100000 in
theorem c_X4_turn (l : Launch) (E : EE) (a : Nat → Nat) (st : St) (w : va_W) (h : Int32) (pt : Int32) (o : Int32) (f : Int32) : Ct l yX4_turn cX4_turn 6 (some .int) 5 E [.ref (a 0), .int h, .int pt, .int o, .int f] (wM E a st w) ((mTurn st h pt o f).1) (wM E a ((mTurn st h pt o f).2) w) := by
  refine Ct_mk RX4 rfl (by decide +kernel) (Nat.le_of_ble_eq_true rfl) ?_
  intro p e s m below meth c A ls X hr G hl
  have hl : lv_has ls 6 [(0, .ref (a 0)), (1, .int h), (2, .int pt), (3, .int o), (4, .int f)] := hl
  obtain ⟨hx, hb, hml, hown, hts, hK, hA, hlocks⟩ := id X
  refine lv_iload_n hx hb dX4_turn_0 rfl (lv_at hl 1 rfl) ?_
  refine g_callS (As := [.int h]) (rest := []) X kX4_68 (c_X4_isHost l E _ h) G ⟨Nat.le_of_ble_eq_true rfl, Nat.le_of_ble_eq_true rfl⟩ ⟨Nat.le_refl _, Nat.le_refl _⟩ rfl hl.1 rfl (Nat.le_of_ble_eq_true rfl) dX4_turn_1 (fun H locs G => ?_)
  refine b_ifne (tgt := 9) hx hb dX4_turn_4 (by decide) (fun c1 => ?_) (fun c1 => ?_)
  · skip
    obtain ⟨hN, hhN, rfl⟩ := rg_nat (by decide) c1
    have ehN : cl (nI hN) = hN := cl_nI (by omega)
    refine lv_iload_n hx hb dX4_turn_9 rfl (lv_at hl 2 rfl) ?_
    refine g_callS (As := [.int pt]) (rest := []) X kX4_71 (c_X4_isPort l E _ pt) G ⟨Nat.le_of_ble_eq_true rfl, Nat.le_of_ble_eq_true rfl⟩ ⟨Nat.le_refl _, Nat.le_refl _⟩ rfl hl.1 rfl (Nat.le_of_ble_eq_true rfl) dX4_turn_10 (fun H locs G => ?_)
    refine b_ifne (tgt := 19) hx hb dX4_turn_13 (by decide) (fun c2 => ?_) (fun c2 => ?_)
    · skip
      obtain ⟨ptN, hptN, rfl⟩ := rg_nat (by decide) c2
      have eptN : cl (nI ptN) = ptN := cl_nI (by omega)
      refine lv_iload_n hx hb dX4_turn_19 rfl (lv_at hl 3 rfl) ?_
      refine g_callS (As := [.int o]) (rest := []) X kX4_91 (c_X4_isOuter l E _ o) G ⟨Nat.le_of_ble_eq_true rfl, Nat.le_of_ble_eq_true rfl⟩ ⟨Nat.le_refl _, Nat.le_refl _⟩ rfl hl.1 rfl (Nat.le_of_ble_eq_true rfl) dX4_turn_20 (fun H locs G => ?_)
      refine b_ifne (tgt := 28) hx hb dX4_turn_23 (by decide) (fun c3 => ?_) (fun c3 => ?_)
      · skip
        obtain ⟨oN, hoN, rfl⟩ := rg_nat (by decide) c3
        have eoN : cl (nI oN) = oN := cl_nI (by omega)
        refine lv_iload hx hb dX4_turn_28 (lv_at hl 4 rfl) ?_
        refine g_callS (As := [.int f]) (rest := []) X kX4_77 (c_X4_isFlag l E _ f) G ⟨Nat.le_of_ble_eq_true rfl, Nat.le_of_ble_eq_true rfl⟩ ⟨Nat.le_refl _, Nat.le_refl _⟩ rfl hl.1 rfl (Nat.le_of_ble_eq_true rfl) dX4_turn_30 (fun H locs G => ?_)
        refine b_ifne (tgt := 39) hx hb dX4_turn_33 (by decide) (fun c4 => ?_) (fun c4 => ?_)
        · skip
          obtain ⟨fN, hfN, rfl⟩ := rg_nat (by decide) c4
          have efN : cl (nI fN) = fN := cl_nI (by omega)
          refine lv_aload_n hx hb dX4_turn_39 rfl (lv_at hl 0 rfl) ?_
          refine lv_iload_n hx hb dX4_turn_40 rfl (lv_at hl 1 rfl) ?_
          refine lv_iload_n hx hb dX4_turn_41 rfl (lv_at hl 2 rfl) ?_
          refine lv_iconst (v := 4) hx hb dX4_turn_42 (by decide) ?_
          refine lv_iload_n hx hb dX4_turn_43 rfl (lv_at hl 3 rfl) ?_
          refine lv_iload hx hb dX4_turn_44 (lv_at hl 4 rfl) ?_
          refine g_callV (As := [.int (nI hN), .int (nI ptN), .int 4, .int (nI oN), .int (nI fN)]) (rest := []) X kX4_80 (c_X4_send l E a st w hN (by omega) ptN (by omega) 4 (by omega) oN (by omega) fN (by omega)) G 0 rfl rfl ⟨Nat.le_of_ble_eq_true rfl, Nat.le_of_ble_eq_true rfl⟩ ⟨Nat.le_refl _, Nat.le_refl _⟩ rfl hl.1 rfl (Nat.le_of_ble_eq_true rfl) dX4_turn_46 (fun H locs G => ?_)
          obtain ⟨sv5, esv5⟩ : ∃ z, z = sendC st hN ptN 4 oN fN := ⟨_, rfl⟩
          rw [← esv5] at G
          refine n_split (fun c7 => ?_) (fun j6 c8 => ?_)
          · skip
            refine lv_istore (lv' := [(5, .int (-5)), (0, .ref (a 0)), (1, .int (nI hN)), (2, .int (nI ptN)), (3, .int (nI oN)), (4, .int (nI fN))]) hx hb dX4_turn_49 hl (by decide) rfl (fun ls hl => ?_)
            refine lv_iload hx hb dX4_turn_51 (lv_at hl 0 rfl) ?_
            refine lv_if_ge (tgt := 61) hx hb dX4_turn_53 (by decide) (fun c9 => ?_) (fun c9 => ?_)
            · skip
              exact absurd c9 (by decide)
            · skip
              refine lv_iload hx hb dX4_turn_56 (lv_at hl 0 rfl) ?_
              refine lv_goto (tgt := 71) hx hb dX4_turn_58 (by decide) ?_
              exact g_iret X hr G (congrArg (fun z => wM E a z w) (by (try rw [esv5]); simp [mTurn, c1, ehN, c2, eptN, c3, eoN, c4, efN, c7])) (by (try rw [esv5]); simp [mTurn, c1, ehN, c2, eptN, c3, eoN, c4, efN, c7]) dX4_turn_71
          · skip
            have bj6 : j6 < 16 := sendO_lt c8
            refine lv_istore (lv' := [(5, .int (nI j6)), (0, .ref (a 0)), (1, .int (nI hN)), (2, .int (nI ptN)), (3, .int (nI oN)), (4, .int (nI fN))]) hx hb dX4_turn_49 hl (by decide) rfl (fun ls hl => ?_)
            refine lv_iload hx hb dX4_turn_51 (lv_at hl 0 rfl) ?_
            refine lv_if_ge (tgt := 61) hx hb dX4_turn_53 (by decide) (fun c10 => ?_) (fun c10 => ?_)
            · skip
              refine lv_aload_n hx hb dX4_turn_61 rfl (lv_at hl 1 rfl) ?_
              refine lv_iconst (v := 4) hx hb dX4_turn_62 (by decide) ?_
              refine lv_iload hx hb dX4_turn_63 (lv_at hl 0 rfl) ?_
              refine lv_iload_n hx hb dX4_turn_65 rfl (lv_at hl 4 rfl) ?_
              refine lv_iload hx hb dX4_turn_66 (lv_at hl 5 rfl) ?_
              refine g_callV (As := [.int 4, .int (nI j6), .int (nI oN), .int (nI fN)]) (rest := []) X kX4_94 (c_X4_receive l E a sv5 w 4 (by omega) j6 (by omega) oN (by omega) fN (by omega)) G 0 rfl rfl ⟨Nat.le_of_ble_eq_true rfl, Nat.le_of_ble_eq_true rfl⟩ ⟨Nat.le_refl _, Nat.le_refl _⟩ rfl hl.1 rfl (Nat.le_of_ble_eq_true rfl) dX4_turn_68 (fun H locs G => ?_)
              obtain ⟨sv11, esv11⟩ : ∃ z, z = recvC sv5 4 j6 oN fN := ⟨_, rfl⟩
              rw [← esv11] at G
              exact g_iret X hr G (congrArg (fun z => wM E a z w) (by (try rw [esv11]); (try rw [esv5]); simp [mTurn, c1, ehN, c2, eptN, c3, eoN, c4, efN, c8])) (by (try rw [esv11]); (try rw [esv5]); simp [mTurn, c1, ehN, c2, eptN, c3, eoN, c4, efN, c8]) dX4_turn_71
            · skip
              exact absurd c10 (by simp [nI_cz, nI_pos', show j6 < 2 ^ 31 by omega])
        · skip
          refine lv_bipush (v := (-2)) hx hb dX4_turn_36 (by decide) ?_
          exact g_iret X hr G (congrArg (fun z => wM E a z w) (by simp [mTurn, c1, ehN, c2, eptN, c3, eoN, c4])) (by simp [mTurn, c1, ehN, c2, eptN, c3, eoN, c4]) dX4_turn_38
      · skip
        refine lv_iconst (v := (-1)) hx hb dX4_turn_26 (by decide) ?_
        exact g_iret X hr G (congrArg (fun z => wM E a z w) (by simp [mTurn, c1, ehN, c2, eptN, c3])) (by simp [mTurn, c1, ehN, c2, eptN, c3]) dX4_turn_27
    · skip
      refine lv_bipush (v := (-2)) hx hb dX4_turn_16 (by decide) ?_
      exact g_iret X hr G (congrArg (fun z => wM E a z w) (by simp [mTurn, c1, ehN, c2])) (by simp [mTurn, c1, ehN, c2]) dX4_turn_18
  · skip
    refine lv_iconst (v := (-1)) hx hb dX4_turn_7 (by decide) ?_
    exact g_iret X hr G (congrArg (fun z => wM E a z w) (by simp [mTurn, c1])) (by simp [mTurn, c1]) dX4_turn_8
set_option maxHeartbeats 1000000 in
set_option maxRecDepth 100000 in
theorem c_X4_part (l : Launch) (E : EE) (a : Nat → Nat) (st : St) (w : va_W) (r : Int32) (nm : Int32) (pt : Int32) (rp : Int32) (o : Int32) : Ct l yX4_part cX4_part 7 (some .int) 4 E [.ref (a 0), .int r, .int nm, .int pt, .int rp, .int o] (wM E a st w) ((mPart st r nm pt rp o).1) (wM E a ((mPart st r nm pt rp o).2) w) := by
  refine Ct_mk RX4 rfl (by decide +kernel) (Nat.le_of_ble_eq_true rfl) ?_
  intro p e s m below meth c A ls X hr G hl
  have hl : lv_has ls 7 [(0, .ref (a 0)), (1, .int r), (2, .int nm), (3, .int pt), (4, .int rp), (5, .int o)] := hl
  obtain ⟨hx, hb, hml, hown, hts, hK, hA, hlocks⟩ := id X
  refine lv_iload_n hx hb dX4_part_0 rfl (lv_at hl 1 rfl) ?_
  refine lv_iconst (v := 0) hx hb dX4_part_1 (by decide) ?_
  refine lv_iconst (v := 3) hx hb dX4_part_2 (by decide) ?_
  refine g_callS (As := [.int r, .int 0, .int 3]) (rest := []) X kX4_20 (c_X4_isFrom l E _ r 0 3) G ⟨Nat.le_of_ble_eq_true rfl, Nat.le_of_ble_eq_true rfl⟩ ⟨Nat.le_refl _, Nat.le_refl _⟩ rfl hl.1 rfl (Nat.le_of_ble_eq_true rfl) dX4_part_3 (fun H locs G => ?_)
  refine b_ifeq (tgt := 29) hx hb dX4_part_6 (by decide) (fun c1 => ?_) (fun c1 => ?_)
  · skip
    refine lv_bipush (v := (-2)) hx hb dX4_part_29 (by decide) ?_
    exact g_iret X hr G (congrArg (fun z => wM E a z w) (by simp [mPart, c1])) (by simp [mPart, c1]) dX4_part_31
  · skip
    obtain ⟨rN, grN, hrN, rfl⟩ := frB_nat 0 3 (by decide) (by decide) rfl rfl c1
    have erN : cl (nI rN) = rN := cl_nI (by omega)
    refine lv_iload_n hx hb dX4_part_9 rfl (lv_at hl 2 rfl) ?_
    refine lv_iconst (v := 0) hx hb dX4_part_10 (by decide) ?_
    refine lv_bipush (v := 7) hx hb dX4_part_11 (by decide) ?_
    refine g_callS (As := [.int nm, .int 0, .int 7]) (rest := []) X kX4_20 (c_X4_isFrom l E _ nm 0 7) G ⟨Nat.le_of_ble_eq_true rfl, Nat.le_of_ble_eq_true rfl⟩ ⟨Nat.le_refl _, Nat.le_refl _⟩ rfl hl.1 rfl (Nat.le_of_ble_eq_true rfl) dX4_part_13 (fun H locs G => ?_)
    refine b_ifeq (tgt := 29) hx hb dX4_part_16 (by decide) (fun c2 => ?_) (fun c2 => ?_)
    · skip
      refine lv_bipush (v := (-2)) hx hb dX4_part_29 (by decide) ?_
      exact g_iret X hr G (congrArg (fun z => wM E a z w) (by simp [mPart, c1, erN, c2])) (by simp [mPart, c1, erN, c2]) dX4_part_31
    · skip
      obtain ⟨nmN, gnmN, hnmN, rfl⟩ := frB_nat 0 7 (by decide) (by decide) rfl rfl c2
      have enmN : cl (nI nmN) = nmN := cl_nI (by omega)
      refine lv_iload_n hx hb dX4_part_19 rfl (lv_at hl 3 rfl) ?_
      refine lv_iconst (v := 0) hx hb dX4_part_20 (by decide) ?_
      refine lv_bipush (v := 7) hx hb dX4_part_21 (by decide) ?_
      refine g_callS (As := [.int pt, .int 0, .int 7]) (rest := []) X kX4_20 (c_X4_isFrom l E _ pt 0 7) G ⟨Nat.le_of_ble_eq_true rfl, Nat.le_of_ble_eq_true rfl⟩ ⟨Nat.le_refl _, Nat.le_refl _⟩ rfl hl.1 rfl (Nat.le_of_ble_eq_true rfl) dX4_part_23 (fun H locs G => ?_)
      refine b_ifne (tgt := 32) hx hb dX4_part_26 (by decide) (fun c3 => ?_) (fun c3 => ?_)
      · skip
        obtain ⟨ptN, gptN, hptN, rfl⟩ := frB_nat 0 7 (by decide) (by decide) rfl rfl c3
        have eptN : cl (nI ptN) = ptN := cl_nI (by omega)
        refine lv_bipush (v := 8) hx hb dX4_part_32 (by decide) ?_
        refine lv_iload_n hx hb dX4_part_34 rfl (lv_at hl 1 rfl) ?_
        refine n_imul 8 rN rfl rfl hx hb dX4_part_35 ?_
        refine lv_iload_n hx hb dX4_part_36 rfl (lv_at hl 2 rfl) ?_
        refine n_iadd (8 * rN) nmN rfl rfl hx hb dX4_part_37 ?_
        refine lv_istore (lv' := [(6, .int (nI ((8 * rN) + nmN))), (0, .ref (a 0)), (1, .int (nI rN)), (2, .int (nI nmN)), (3, .int (nI ptN)), (4, .int rp), (5, .int o)]) hx hb dX4_part_38 hl (by decide) rfl (fun ls hl => ?_)
        refine lv_iload_n hx hb dX4_part_40 rfl (lv_at hl 4 rfl) ?_
        refine n_if_le (tgt := 65) ptN rfl (by omega) hx hb dX4_part_41 (by decide) (fun c4 => ?_) (fun c4 => ?_)
        · skip
          refine lv_iload hx hb dX4_part_65 (lv_at hl 5 rfl) ?_
          refine g_callS (As := [.int rp]) (rest := []) X kX4_71 (c_X4_isPort l E _ rp) G ⟨Nat.le_of_ble_eq_true rfl, Nat.le_of_ble_eq_true rfl⟩ ⟨Nat.le_refl _, Nat.le_refl _⟩ rfl hl.1 rfl (Nat.le_of_ble_eq_true rfl) dX4_part_67 (fun H locs G => ?_)
          refine b_ifne (tgt := 76) hx hb dX4_part_70 (by decide) (fun c5 => ?_) (fun c5 => ?_)
          · skip
            obtain ⟨rpN, hrpN, rfl⟩ := rg_nat (by decide) c5
            have erpN : cl (nI rpN) = rpN := cl_nI (by omega)
            refine lv_iload hx hb dX4_part_76 (lv_at hl 6 rfl) ?_
            refine g_callS (As := [.int o]) (rest := []) X kX4_91 (c_X4_isOuter l E _ o) G ⟨Nat.le_of_ble_eq_true rfl, Nat.le_of_ble_eq_true rfl⟩ ⟨Nat.le_refl _, Nat.le_refl _⟩ rfl hl.1 rfl (Nat.le_of_ble_eq_true rfl) dX4_part_78 (fun H locs G => ?_)
            refine b_ifeq (tgt := 98) hx hb dX4_part_81 (by decide) (fun c6 => ?_) (fun c6 => ?_)
            · skip
              refine lv_iconst (v := (-1)) hx hb dX4_part_98 (by decide) ?_
              exact g_iret X hr G (congrArg (fun z => wM E a z w) (by simp [mPart, c1, erN, c2, enmN, c3, eptN, c4, c5, erpN, c6])) (by simp [mPart, c1, erN, c2, enmN, c3, eptN, c4, c5, erpN, c6]) dX4_part_99
            · skip
              obtain ⟨oN, hoN, rfl⟩ := rg_nat (by decide) c6
              have eoN : cl (nI oN) = oN := cl_nI (by omega)
              refine lv_aload_n hx hb dX4_part_84 rfl (lv_at hl 1 rfl) ?_
              refine lv_iload_n hx hb dX4_part_85 rfl (lv_at hl 2 rfl) ?_
              refine lv_iload hx hb dX4_part_86 (lv_at hl 0 rfl) ?_
              refine lv_iload hx hb dX4_part_88 (lv_at hl 5 rfl) ?_
              refine lv_iload hx hb dX4_part_90 (lv_at hl 6 rfl) ?_
              refine g_callV (As := [.int (nI rN), .int (nI ((8 * rN) + nmN)), .int (nI rpN), .int (nI oN)]) (rest := []) X kX4_112 (c_X4_first l E a st w rN (by omega) ((8 * rN) + nmN) (by omega) rpN (by omega) oN (by omega)) G 0 rfl rfl ⟨Nat.le_of_ble_eq_true rfl, Nat.le_of_ble_eq_true rfl⟩ ⟨Nat.le_refl _, Nat.le_refl _⟩ rfl hl.1 rfl (Nat.le_of_ble_eq_true rfl) dX4_part_92 (fun H locs G => ?_)
              obtain ⟨sv7, esv7⟩ : ∃ z, z = (firstM st rN ((8 * rN) + nmN) rpN oN).2 := ⟨_, rfl⟩
              rw [← esv7] at G
              refine lv_goto (tgt := 99) hx hb dX4_part_95 (by decide) ?_
              exact g_iret X hr G (congrArg (fun z => wM E a z w) (by (try rw [esv7]); simp [mPart, c1, erN, c2, enmN, c3, eptN, c4, c5, erpN, c6, eoN])) (by (try rw [esv7]); simp [mPart, c1, erN, c2, enmN, c3, eptN, c4, c5, erpN, c6, eoN]) dX4_part_99
          · skip
            refine lv_bipush (v := (-2)) hx hb dX4_part_73 (by decide) ?_
            exact g_iret X hr G (congrArg (fun z => wM E a z w) (by simp [mPart, c1, erN, c2, enmN, c3, eptN, c4, c5])) (by simp [mPart, c1, erN, c2, enmN, c3, eptN, c4, c5]) dX4_part_75
        · skip
          refine lv_aload_n hx hb dX4_part_44 rfl (lv_at hl 1 rfl) ?_
          refine lv_iload hx hb dX4_part_45 (lv_at hl 0 rfl) ?_
          refine g_callV (As := [.int (nI ((8 * rN) + nmN))]) (rest := []) X kX4_106 (c_X4_isKnown l E a st w ((8 * rN) + nmN) (by omega)) G 0 rfl rfl ⟨Nat.le_of_ble_eq_true rfl, Nat.le_of_ble_eq_true rfl⟩ ⟨Nat.le_refl _, Nat.le_refl _⟩ rfl hl.1 rfl (Nat.le_of_ble_eq_true rfl) dX4_part_47 (fun H locs G => ?_)
          refine b_ifeq (tgt := 57) hx hb dX4_part_50 (by decide) (fun c8 => ?_) (fun c8 => ?_)
          · skip
            refine lv_aload_n hx hb dX4_part_57 rfl (lv_at hl 1 rfl) ?_
            refine lv_iload hx hb dX4_part_58 (lv_at hl 0 rfl) ?_
            refine lv_iload_n hx hb dX4_part_60 rfl (lv_at hl 4 rfl) ?_
            refine g_callV (As := [.int (nI ((8 * rN) + nmN)), .int (nI ptN)]) (rest := []) X kX4_109 (c_X4_hold l E a st w ((8 * rN) + nmN) (by omega) ptN (by omega)) G 0 rfl rfl ⟨Nat.le_of_ble_eq_true rfl, Nat.le_of_ble_eq_true rfl⟩ ⟨Nat.le_refl _, Nat.le_refl _⟩ rfl hl.1 rfl (Nat.le_of_ble_eq_true rfl) dX4_part_61 (fun H locs G => ?_)
            obtain ⟨sv9, esv9⟩ : ∃ z, z = (holdM st ((8 * rN) + nmN) ptN).2 := ⟨_, rfl⟩
            rw [← esv9] at G
            exact g_iret X hr G (congrArg (fun z => wM E a z w) (by (try rw [esv9]); simp [mPart, c1, erN, c2, enmN, c3, eptN, c4, c8])) (by (try rw [esv9]); simp [mPart, c1, erN, c2, enmN, c3, eptN, c4, c8]) dX4_part_64
          · skip
            refine lv_iconst (v := 1) hx hb dX4_part_53 (by decide) ?_
            refine lv_goto (tgt := 64) hx hb dX4_part_54 (by decide) ?_
            exact g_iret X hr G (congrArg (fun z => wM E a z w) (by simp [mPart, c1, erN, c2, enmN, c3, eptN, c4, c8])) (by simp [mPart, c1, erN, c2, enmN, c3, eptN, c4, c8]) dX4_part_64
      · skip
        refine lv_bipush (v := (-2)) hx hb dX4_part_29 (by decide) ?_
        exact g_iret X hr G (congrArg (fun z => wM E a z w) (by simp [mPart, c1, erN, c2, enmN, c3])) (by simp [mPart, c1, erN, c2, enmN, c3]) dX4_part_31
set_option maxHeartbeats 1000000 in
set_option maxRecDepth 100000 in
theorem c_X4_tick (l : Launch) (E : EE) (a : Nat → Nat) (st : St) (w : va_W) (n : Int32) (hI : isOk st) : Ct l yX4_tick cX4_tick 4 (some .int) 2 E [.ref (a 0), .int n] (wM E a st w) ((mTick st n).1) (wM E a ((mTick st n).2) w) := by
  refine Ct_mk RX4 rfl (by decide +kernel) (Nat.le_of_ble_eq_true rfl) ?_
  intro p e s m below meth c A ls X hr G hl
  have hl : lv_has ls 4 [(0, .ref (a 0)), (1, .int n)] := hl
  obtain ⟨hx, hb, hml, hown, hts, hK, hA, hlocks⟩ := id X
  refine lv_iload_n hx hb dX4_tick_0 rfl (lv_at hl 1 rfl) ?_
  refine lv_iconst (v := 1) hx hb dX4_tick_1 (by decide) ?_
  refine lv_bipush (v := 100) hx hb dX4_tick_2 (by decide) ?_
  refine g_callS (As := [.int n, .int 1, .int 100]) (rest := []) X kX4_20 (c_X4_isFrom l E _ n 1 100) G ⟨Nat.le_of_ble_eq_true rfl, Nat.le_of_ble_eq_true rfl⟩ ⟨Nat.le_refl _, Nat.le_refl _⟩ rfl hl.1 rfl (Nat.le_of_ble_eq_true rfl) dX4_tick_4 (fun H locs G => ?_)
  refine b_ifne (tgt := 13) hx hb dX4_tick_7 (by decide) (fun c1 => ?_) (fun c1 => ?_)
  · skip
    obtain ⟨nN, gnN, hnN, rfl⟩ := frB_nat 1 100 (by decide) (by decide) rfl rfl c1
    have enN : cl (nI nN) = nN := cl_nI (by omega)
    refine lv_iconst (v := 0) hx hb dX4_tick_13 (by decide) ?_
    refine lv_istore_n (lv' := [(2, .int 0), (0, .ref (a 0)), (1, .int (nI nN))]) hx hb dX4_tick_14 rfl hl (by decide) rfl (fun ls hl => ?_)
    refine lv_iconst (v := 0) hx hb dX4_tick_15 (by decide) ?_
    refine lv_istore_n (lv' := [(3, .int 0), (2, .int 0), (0, .ref (a 0)), (1, .int (nI nN))]) hx hb dX4_tick_16 rfl hl (by decide) rfl (fun ls hl => ?_)
    have LP17 : ∀ (y i : Nat) (sx : St) (z : Nat) (H : Heap) (locs : List Loc) (ls : Array Slot), (i + y = nN) → (isOk sx) → (iF tickS y i (sx, z) = iF tickS nN 0 (st, 0)) → Gw E A s (wM E a sx w) H locs → lv_has ls 4 [(0, .ref (a 0)), (1, .int (nI nN)), (2, .int (nI z)), (3, .int (nI i))] → W p l e (rmD 2) s m ([.ref (a 0), .int (nI nN)] : List Value).toArray below meth c H locs 0 0 (MQ below (CtQ E A ((mTick st (nI nN)).1) (wM E a ((mTick st (nI nN)).2) w)) ([.ref (a 0), .int (nI nN)] : List Value).toArray s 0 0 A) (F0 m 17 ls []) := by
      intro y
      induction y with
      | zero =>
        intro i sx z H locs ls hi hJ hR G hl
        refine lv_iload_n hx hb dX4_tick_17 rfl (lv_at hl 3 rfl) ?_
        refine lv_iload_n hx hb dX4_tick_18 rfl (lv_at hl 1 rfl) ?_
        refine n_cmp_ge (tgt := 46) i nN rfl rfl (by omega) (by omega) hx hb dX4_tick_19 (by decide) (fun c2 => ?_) (fun c2 => ?_)
        · skip
          refine lv_iload_n hx hb dX4_tick_46 rfl (lv_at hl 2 rfl) ?_
          exact g_iret X hr G (congrArg (fun z => wM E a z w) (by simp [mTick, c1, enN, c2]; rw [← hR]; rfl)) (by simp [mTick, c1, enN, c2]; rw [← hR]; rfl) dX4_tick_47
        · skip
          exact absurd c2 (by omega)
      | succ y ih17 =>
        intro i sx z H locs ls hi hJ hR G hl
        refine lv_iload_n hx hb dX4_tick_17 rfl (lv_at hl 3 rfl) ?_
        refine lv_iload_n hx hb dX4_tick_18 rfl (lv_at hl 1 rfl) ?_
        refine n_cmp_ge (tgt := 46) i nN rfl rfl (by omega) (by omega) hx hb dX4_tick_19 (by decide) (fun c3 => ?_) (fun c3 => ?_)
        · skip
          exact absurd c3 (by omega)
        · skip
          refine lv_aload_n hx hb dX4_tick_22 rfl (lv_at hl 0 rfl) ?_
          refine g_get X G fX4_7 0 rfl rfl dX4_tick_23 ?_
          refine lv_bipush (v := 6) hx hb dX4_tick_26 (by decide) ?_
          refine lv_dup2_11 hx hb dX4_tick_28 rfl rfl ?_
          refine g_iald (j := 6) X G 1 rfl rfl (by omega) (by decide) dX4_tick_29 ?_
          refine lv_iconst (v := 1) hx hb dX4_tick_30 (by decide) ?_
          refine lv_iadd hx hb dX4_tick_31 ?_
          refine g_iast (j := 6) X G 1 rfl rfl (by omega) (by decide) dX4_tick_32 (fun H locs G => ?_)
          have G : Gw E A s (wM E a (sU sx 0 6 ((sx 0 6) + 1)) w) H locs := G
          refine lv_iload_n hx hb dX4_tick_33 rfl (lv_at hl 2 rfl) ?_
          refine lv_aload_n hx hb dX4_tick_34 rfl (lv_at hl 0 rfl) ?_
          refine g_callV (As := []) (rest := [.int (nI z)]) X kX4_42 (c_X4_lapse l E a (sU sx 0 6 ((sx 0 6) + 1)) w (isOk_sU (by omega) hJ)) G 0 rfl rfl ⟨Nat.le_of_ble_eq_true rfl, Nat.le_of_ble_eq_true rfl⟩ ⟨Nat.le_refl _, Nat.le_refl _⟩ rfl hl.1 rfl (Nat.le_of_ble_eq_true rfl) dX4_tick_35 (fun H locs G => ?_)
          obtain ⟨sv4, esv4⟩ : ∃ z, z = (lapseC (sU sx 0 6 ((sx 0 6) + 1))).1 := ⟨_, rfl⟩
          rw [← esv4] at G
          have b5 : ((lapseC (sU sx 0 6 ((sx 0 6) + 1))).2) ≤ 16 := lapseC_le _
          refine n_iadd z ((lapseC (sU sx 0 6 ((sx 0 6) + 1))).2) rfl rfl hx hb dX4_tick_38 ?_
          refine lv_istore_n (lv' := [(2, .int (nI (z + ((lapseC (sU sx 0 6 ((sx 0 6) + 1))).2)))), (0, .ref (a 0)), (1, .int (nI nN)), (3, .int (nI i))]) hx hb dX4_tick_39 rfl hl (by decide) rfl (fun ls hl => ?_)
          refine lv_iinc (v := nI (i + 1)) (lv' := [(3, .int (nI (i + 1))), (2, .int (nI (z + ((lapseC (sU sx 0 6 ((sx 0 6) + 1))).2)))), (0, .ref (a 0)), (1, .int (nI nN))]) hx hb dX4_tick_40 hl (k := 3) rfl (nI_inc _) (by decide) rfl (fun ls hl => ?_)
          refine lv_goto (tgt := 17) hx hb dX4_tick_43 (by decide) ?_
          exact ih17 (i + 1) sv4 (z + ((lapseC (sU sx 0 6 ((sx 0 6) + 1))).2)) _ _ ls (by omega) (by (try rw [esv4]); exact isOk_lapse (isOk_sU (by omega) hJ)) (by (try rw [esv4]); rw [← hR]; rfl) G (lv_sub hl [2, 3, 1, 0] rfl)
    exact LP17 nN 0 st 0 _ _ ls (by omega) hI rfl G (lv_sub hl [2, 3, 1, 0] rfl)
  · skip
    refine lv_bipush (v := (-2)) hx hb dX4_tick_10 (by decide) ?_
    exact g_iret X hr G (congrArg (fun z => wM E a z w) (by simp [mTick, c1])) (by simp [mTick, c1]) dX4_tick_12
set_option maxHeartbeats 1000000 in
set_option maxRecDepth 100000 in
theorem c_X4_drop (l : Launch) (E : EE) (a : Nat → Nat) (st : St) (w : va_W) (h : Int32) : Ct l yX4_drop cX4_drop 4 (some .int) 2 E [.ref (a 0), .int h] (wM E a st w) ((mDrop st h).1) (wM E a ((mDrop st h).2) w) := by
  refine Ct_mk RX4 rfl (by decide +kernel) (Nat.le_of_ble_eq_true rfl) ?_
  intro p e s m below meth c A ls X hr G hl
  have hl : lv_has ls 4 [(0, .ref (a 0)), (1, .int h)] := hl
  obtain ⟨hx, hb, hml, hown, hts, hK, hA, hlocks⟩ := id X
  refine lv_iload_n hx hb dX4_drop_0 rfl (lv_at hl 1 rfl) ?_
  refine g_callS (As := [.int h]) (rest := []) X kX4_68 (c_X4_isHost l E _ h) G ⟨Nat.le_of_ble_eq_true rfl, Nat.le_of_ble_eq_true rfl⟩ ⟨Nat.le_refl _, Nat.le_refl _⟩ rfl hl.1 rfl (Nat.le_of_ble_eq_true rfl) dX4_drop_1 (fun H locs G => ?_)
  refine b_ifne (tgt := 9) hx hb dX4_drop_4 (by decide) (fun c1 => ?_) (fun c1 => ?_)
  · skip
    obtain ⟨hN, hhN, rfl⟩ := rg_nat (by decide) c1
    have ehN : cl (nI hN) = hN := cl_nI (by omega)
    refine lv_iconst (v := 0) hx hb dX4_drop_9 (by decide) ?_
    refine lv_istore_n (lv' := [(2, .int 0), (0, .ref (a 0)), (1, .int (nI hN))]) hx hb dX4_drop_10 rfl hl (by decide) rfl (fun ls hl => ?_)
    refine lv_iconst (v := 0) hx hb dX4_drop_11 (by decide) ?_
    refine lv_istore_n (lv' := [(3, .int 0), (2, .int 0), (0, .ref (a 0)), (1, .int (nI hN))]) hx hb dX4_drop_12 rfl hl (by decide) rfl (fun ls hl => ?_)
    have LP13 : ∀ (n i : Nat) (sx : St) (z : Nat) (H : Heap) (locs : List Loc) (ls : Array Slot), (i + n = 16) → (iF (dropM (nI hN)) n i (sx, z) = iF (dropM (nI hN)) 16 0 (st, 0)) → Gw E A s (wM E a sx w) H locs → lv_has ls 4 [(0, .ref (a 0)), (1, .int (nI hN)), (2, .int (nI z)), (3, .int (nI i))] → W p l e (rmD 2) s m ([.ref (a 0), .int (nI hN)] : List Value).toArray below meth c H locs 0 0 (MQ below (CtQ E A ((mDrop st (nI hN)).1) (wM E a ((mDrop st (nI hN)).2) w)) ([.ref (a 0), .int (nI hN)] : List Value).toArray s 0 0 A) (F0 m 13 ls []) := by
      intro n
      induction n with
      | zero =>
        intro i sx z H locs ls hi hR G hl
        refine lv_iload_n hx hb dX4_drop_13 rfl (lv_at hl 3 rfl) ?_
        refine lv_bipush (v := 16) hx hb dX4_drop_14 (by decide) ?_
        refine n_cmp_ge (tgt := 46) i 16 rfl rfl (by omega) (by omega) hx hb dX4_drop_16 (by decide) (fun c2 => ?_) (fun c2 => ?_)
        · skip
          refine lv_iload_n hx hb dX4_drop_46 rfl (lv_at hl 2 rfl) ?_
          exact g_iret X hr G (congrArg (fun z => wM E a z w) (by simp [mDrop, c1, ehN, c2]; rw [← hR]; rfl)) (by simp [mDrop, c1, ehN, c2]; rw [← hR]; rfl) dX4_drop_47
        · skip
          exact absurd c2 (by omega)
      | succ n ih13 =>
        intro i sx z H locs ls hi hR G hl
        refine lv_iload_n hx hb dX4_drop_13 rfl (lv_at hl 3 rfl) ?_
        refine lv_bipush (v := 16) hx hb dX4_drop_14 (by decide) ?_
        refine n_cmp_ge (tgt := 46) i 16 rfl rfl (by omega) (by omega) hx hb dX4_drop_16 (by decide) (fun c3 => ?_) (fun c3 => ?_)
        · skip
          exact absurd c3 (by omega)
        · skip
          refine lv_aload_n hx hb dX4_drop_19 rfl (lv_at hl 0 rfl) ?_
          refine g_get X G fX4_7 0 rfl rfl dX4_drop_20 ?_
          refine lv_bipush (v := 7) hx hb dX4_drop_23 (by decide) ?_
          refine lv_iload_n hx hb dX4_drop_25 rfl (lv_at hl 3 rfl) ?_
          refine n_iadd 7 i rfl rfl hx hb dX4_drop_26 ?_
          refine g_iald (j := 7 + i) X G 1 rfl rfl (by omega) (by decide) dX4_drop_27 ?_
          refine lv_iload_n hx hb dX4_drop_28 rfl (lv_at hl 1 rfl) ?_
          refine lv_icmp_ne (tgt := 40) hx hb dX4_drop_29 (by decide) (fun c4 => ?_) (fun c4 => ?_)
          · skip
            refine lv_iinc (v := nI (i + 1)) (lv' := [(3, .int (nI (i + 1))), (0, .ref (a 0)), (1, .int (nI hN)), (2, .int (nI z))]) hx hb dX4_drop_40 hl (k := 3) rfl (nI_inc _) (by decide) rfl (fun ls hl => ?_)
            refine lv_goto (tgt := 13) hx hb dX4_drop_43 (by decide) ?_
            exact ih13 (i + 1) sx z _ _ ls (by omega) (by rw [← hR]; simp [iF, dropM, c1, ehN, c3, c4]) G (lv_sub hl [1, 2, 3, 0] rfl)
          · skip
            refine lv_aload_n hx hb dX4_drop_32 rfl (lv_at hl 0 rfl) ?_
            refine lv_iload_n hx hb dX4_drop_33 rfl (lv_at hl 3 rfl) ?_
            refine g_callVv (As := [.int (nI i)]) (rest := []) X kX4_32 (c_X4_end l E a sx w i (by omega)) G 0 rfl rfl ⟨Nat.le_of_ble_eq_true rfl, Nat.le_of_ble_eq_true rfl⟩ ⟨Nat.le_refl _, Nat.le_refl _⟩ rfl hl.1 rfl (Nat.le_of_ble_eq_true rfl) dX4_drop_34 (fun H locs G => ?_)
            obtain ⟨sv5, esv5⟩ : ∃ z, z = mEnd i sx := ⟨_, rfl⟩
            rw [← esv5] at G
            refine lv_iinc (v := nI (z + 1)) (lv' := [(2, .int (nI (z + 1))), (0, .ref (a 0)), (1, .int (nI hN)), (3, .int (nI i))]) hx hb dX4_drop_37 hl (k := 2) rfl (nI_inc _) (by decide) rfl (fun ls hl => ?_)
            refine lv_iinc (v := nI (i + 1)) (lv' := [(3, .int (nI (i + 1))), (2, .int (nI (z + 1))), (0, .ref (a 0)), (1, .int (nI hN))]) hx hb dX4_drop_40 hl (k := 3) rfl (nI_inc _) (by decide) rfl (fun ls hl => ?_)
            refine lv_goto (tgt := 13) hx hb dX4_drop_43 (by decide) ?_
            exact ih13 (i + 1) sv5 (z + 1) _ _ ls (by omega) (by (try rw [esv5]); rw [← hR]; simp [iF, dropM, c1, ehN, c3, c4]) G (lv_sub hl [2, 3, 1, 0] rfl)
    exact LP13 16 0 st 0 _ _ ls (by omega) rfl G (lv_sub hl [2, 3, 1, 0] rfl)
  · skip
    refine lv_iconst (v := (-1)) hx hb dX4_drop_7 (by decide) ?_
    exact g_iret X hr G (congrArg (fun z => wM E a z w) (by simp [mDrop, c1])) (by simp [mDrop, c1]) dX4_drop_8
set_option maxHeartbeats 1000000 in
set_option maxRecDepth 100000 in
theorem c_X4_sentMany (l : Launch) (E : EE) (a : Nat → Nat) (st : St) (w : va_W) (o : Nat) (ho : o < 16) : Ct l yX4_sentMany cX4_sentMany 5 (some .int) 0 E [.ref (a 0), .int (nI o)] (wM E a st w) (sentManyM st o) (wM E a st w) := by
  refine Ct_mk RX4 rfl (by decide +kernel) (Nat.le_of_ble_eq_true rfl) ?_
  intro p e s m below meth c A ls X hr G hl
  have hl : lv_has ls 5 [(0, .ref (a 0)), (1, .int (nI o))] := hl
  obtain ⟨hx, hb, hml, hown, hts, hK, hA, hlocks⟩ := id X
  refine lv_iconst (v := 0) hx hb dX4_sentMany_0 (by decide) ?_
  refine lv_istore_n (lv' := [(2, .int 0), (0, .ref (a 0)), (1, .int (nI o))]) hx hb dX4_sentMany_1 rfl hl (by decide) rfl (fun ls hl => ?_)
  refine lv_iconst (v := 0) hx hb dX4_sentMany_2 (by decide) ?_
  refine lv_istore_n (lv' := [(3, .int 0), (2, .int 0), (0, .ref (a 0)), (1, .int (nI o))]) hx hb dX4_sentMany_3 rfl hl (by decide) rfl (fun ls hl => ?_)
  have LP4 : ∀ (n i : Nat) (x : Int32) (H : Heap) (locs : List Loc) (ls : Array Slot), (i + n = 5) → (sentF st o n i x = sentManyM st o) → Gw E A s (wM E a st w) H locs → lv_has ls 5 [(0, .ref (a 0)), (1, .int (nI o)), (2, .int x), (3, .int (nI i))] → W p l e (rmD 0) s m ([.ref (a 0), .int (nI o)] : List Value).toArray below meth c H locs 0 0 (MQ below (CtQ E A (sentManyM st o) (wM E a st w)) ([.ref (a 0), .int (nI o)] : List Value).toArray s 0 0 A) (F0 m 4 ls []) := by
    intro n
    induction n with
    | zero =>
      intro i x H locs ls hi hR G hl
      refine lv_iload_n hx hb dX4_sentMany_4 rfl (lv_at hl 3 rfl) ?_
      refine lv_iconst (v := 4) hx hb dX4_sentMany_5 (by decide) ?_
      refine n_cmp_gt (tgt := 52) i 4 rfl rfl (by omega) (by omega) hx hb dX4_sentMany_6 (by decide) (fun c1 => ?_) (fun c1 => ?_)
      · skip
        refine lv_iload_n hx hb dX4_sentMany_52 rfl (lv_at hl 2 rfl) ?_
        exact g_iret X hr G rfl (by rw [← hR]; rfl) dX4_sentMany_53
      · skip
        exact absurd c1 (by omega)
    | succ n ih4 =>
      intro i x H locs ls hi hR G hl
      refine lv_iload_n hx hb dX4_sentMany_4 rfl (lv_at hl 3 rfl) ?_
      refine lv_iconst (v := 4) hx hb dX4_sentMany_5 (by decide) ?_
      refine n_cmp_gt (tgt := 52) i 4 rfl rfl (by omega) (by omega) hx hb dX4_sentMany_6 (by decide) (fun c2 => ?_) (fun c2 => ?_)
      · skip
        exact absurd c2 (by omega)
      · skip
        refine lv_iconst (v := 0) hx hb dX4_sentMany_9 (by decide) ?_
        refine lv_istore (lv' := [(4, .int 0), (0, .ref (a 0)), (1, .int (nI o)), (2, .int x), (3, .int (nI i))]) hx hb dX4_sentMany_10 hl (by decide) rfl (fun ls hl => ?_)
        have LP12 : ∀ (n2 i2 : Nat) (y : Int32) (H : Heap) (locs : List Loc) (ls : Array Slot), (i2 + n2 = 32) → (sumF (fun q => st 0 (103 + 5 * o + i) >>> (nI q &&& 31) &&& 1) n2 i2 y = bitSum (st 0 (103 + 5 * o + i)) x) → Gw E A s (wM E a st w) H locs → lv_has ls 5 [(0, .ref (a 0)), (1, .int (nI o)), (2, .int y), (3, .int (nI i)), (4, .int (nI i2))] → W p l e (rmD 0) s m ([.ref (a 0), .int (nI o)] : List Value).toArray below meth c H locs 0 0 (MQ below (CtQ E A (sentManyM st o) (wM E a st w)) ([.ref (a 0), .int (nI o)] : List Value).toArray s 0 0 A) (F0 m 12 ls []) := by
          intro n2
          induction n2 with
          | zero =>
            intro i2 y H locs ls hi2 hR2 G hl
            refine lv_iload hx hb dX4_sentMany_12 (lv_at hl 4 rfl) ?_
            refine lv_bipush (v := 32) hx hb dX4_sentMany_14 (by decide) ?_
            refine n_cmp_ge (tgt := 46) i2 32 rfl rfl (by omega) (by omega) hx hb dX4_sentMany_16 (by decide) (fun c3 => ?_) (fun c3 => ?_)
            · skip
              refine lv_iinc (v := nI (i + 1)) (lv' := [(3, .int (nI (i + 1))), (0, .ref (a 0)), (1, .int (nI o)), (2, .int y), (4, .int (nI i2))]) hx hb dX4_sentMany_46 hl (k := 3) rfl (nI_inc _) (by decide) rfl (fun ls hl => ?_)
              refine lv_goto (tgt := 4) hx hb dX4_sentMany_49 (by decide) ?_
              exact ih4 (i + 1) y _ _ ls (by omega) (by have h3 : y = bitSum (st 0 (103 + 5 * o + i)) x := hR2; rw [← hR, h3]; rfl) G (lv_sub hl [1, 2, 3, 0] rfl)
            · skip
              exact absurd c3 (by omega)
          | succ n2 ih12 =>
            intro i2 y H locs ls hi2 hR2 G hl
            refine lv_iload hx hb dX4_sentMany_12 (lv_at hl 4 rfl) ?_
            refine lv_bipush (v := 32) hx hb dX4_sentMany_14 (by decide) ?_
            refine n_cmp_ge (tgt := 46) i2 32 rfl rfl (by omega) (by omega) hx hb dX4_sentMany_16 (by decide) (fun c4 => ?_) (fun c4 => ?_)
            · skip
              exact absurd c4 (by omega)
            · skip
              refine lv_iload_n hx hb dX4_sentMany_19 rfl (lv_at hl 2 rfl) ?_
              refine lv_aload_n hx hb dX4_sentMany_20 rfl (lv_at hl 0 rfl) ?_
              refine g_get X G fX4_7 0 rfl rfl dX4_sentMany_21 ?_
              refine lv_bipush (v := 103) hx hb dX4_sentMany_24 (by decide) ?_
              refine lv_iconst (v := 5) hx hb dX4_sentMany_26 (by decide) ?_
              refine lv_iload_n hx hb dX4_sentMany_27 rfl (lv_at hl 1 rfl) ?_
              refine n_imul 5 o rfl rfl hx hb dX4_sentMany_28 ?_
              refine n_iadd 103 (5 * o) rfl rfl hx hb dX4_sentMany_29 ?_
              refine lv_iload_n hx hb dX4_sentMany_30 rfl (lv_at hl 3 rfl) ?_
              refine n_iadd (103 + (5 * o)) i rfl rfl hx hb dX4_sentMany_31 ?_
              refine g_iald (j := (103 + (5 * o)) + i) X G 1 rfl rfl (by omega) (by decide) dX4_sentMany_32 ?_
              refine lv_iload hx hb dX4_sentMany_33 (lv_at hl 4 rfl) ?_
              refine lv_ishr hx hb dX4_sentMany_35 ?_
              refine lv_iconst (v := 1) hx hb dX4_sentMany_36 (by decide) ?_
              refine lv_iand hx hb dX4_sentMany_37 ?_
              refine lv_iadd hx hb dX4_sentMany_38 ?_
              refine lv_istore_n (lv' := [(2, .int (y + (((st 0 ((103 + (5 * o)) + i)) >>> ((nI i2) &&& 31)) &&& 1))), (0, .ref (a 0)), (1, .int (nI o)), (3, .int (nI i)), (4, .int (nI i2))]) hx hb dX4_sentMany_39 rfl hl (by decide) rfl (fun ls hl => ?_)
              refine lv_iinc (v := nI (i2 + 1)) (lv' := [(4, .int (nI (i2 + 1))), (2, .int (y + (((st 0 ((103 + (5 * o)) + i)) >>> ((nI i2) &&& 31)) &&& 1))), (0, .ref (a 0)), (1, .int (nI o)), (3, .int (nI i))]) hx hb dX4_sentMany_40 hl (k := 4) rfl (nI_inc _) (by decide) rfl (fun ls hl => ?_)
              refine lv_goto (tgt := 12) hx hb dX4_sentMany_43 (by decide) ?_
              exact ih12 (i2 + 1) (y + (((st 0 ((103 + (5 * o)) + i)) >>> ((nI i2) &&& 31)) &&& 1)) _ _ ls (by omega) (by rw [← hR2]; rfl) G (lv_sub hl [2, 3, 1, 4, 0] rfl)
        exact LP12 32 0 x _ _ ls (by omega) rfl G (lv_sub hl [1, 2, 3, 4, 0] rfl)
  exact LP4 5 0 0 _ _ ls (by omega) rfl G (lv_sub hl [2, 3, 1, 0] rfl)
set_option maxHeartbeats 1000000 in
set_option maxRecDepth 100000 in
theorem c_X4_toldOf (l : Launch) (E : EE) (a : Nat → Nat) (st : St) (w : va_W) (o : Nat) (ho : o < 16) (what : Int32) (hI : isOk st) : Ct l yX4_toldOf cX4_toldOf 3 (some .int) 1 E [.ref (a 0), .int (nI o), .int what] (wM E a st w) (toldM st o what) (wM E a st w) := by
  refine Ct_mk RX4 rfl (by decide +kernel) (Nat.le_of_ble_eq_true rfl) ?_
  intro p e s m below meth c A ls X hr G hl
  have hl : lv_has ls 3 [(0, .ref (a 0)), (1, .int (nI o)), (2, .int what)] := hl
  obtain ⟨hx, hb, hml, hown, hts, hK, hA, hlocks⟩ := id X
  refine lv_iload_n hx hb dX4_toldOf_0 rfl (lv_at hl 2 rfl) ?_
  by_cases c1 : what = 0
  · skip
    refine lv_tableIn (off := 35) (tgt := 36) hx hb dX4_toldOf_1 (by rw [c1]; decide) (by rw [c1]; decide) (by rw [c1]; rfl) (by decide) ?_
    refine lv_aload_n hx hb dX4_toldOf_36 rfl (lv_at hl 0 rfl) ?_
    refine lv_iload_n hx hb dX4_toldOf_37 rfl (lv_at hl 1 rfl) ?_
    refine g_callV (As := [.int (nI o)]) (rest := []) X kX4_88 (c_X4_insideOf l E a st w o (by omega)) G 0 rfl rfl ⟨Nat.le_of_ble_eq_true rfl, Nat.le_of_ble_eq_true rfl⟩ ⟨Nat.le_refl _, Nat.le_refl _⟩ rfl hl.1 rfl (Nat.le_of_ble_eq_true rfl) dX4_toldOf_38 (fun H locs G => ?_)
    exact g_iret X hr G rfl (by simp [toldM, c1]) dX4_toldOf_41
  by_cases c2 : what = 1
  · skip
    refine lv_tableIn (off := 41) (tgt := 42) hx hb dX4_toldOf_1 (by rw [c2]; decide) (by rw [c2]; decide) (by rw [c2]; rfl) (by decide) ?_
    refine lv_aload_n hx hb dX4_toldOf_42 rfl (lv_at hl 0 rfl) ?_
    refine g_get X G fX4_7 0 rfl rfl dX4_toldOf_43 ?_
    refine lv_bipush (v := 71) hx hb dX4_toldOf_46 (by decide) ?_
    refine lv_iload_n hx hb dX4_toldOf_48 rfl (lv_at hl 1 rfl) ?_
    refine n_iadd 71 o rfl rfl hx hb dX4_toldOf_49 ?_
    refine g_iald (j := 71 + o) X G 1 rfl rfl (by omega) (by decide) dX4_toldOf_50 ?_
    exact g_iret X hr G rfl (by simp [toldM, c1, c2]) dX4_toldOf_51
  by_cases c3 : what = 2
  · skip
    refine lv_tableIn (off := 51) (tgt := 52) hx hb dX4_toldOf_1 (by rw [c3]; decide) (by rw [c3]; decide) (by rw [c3]; rfl) (by decide) ?_
    refine lv_aload_n hx hb dX4_toldOf_52 rfl (lv_at hl 0 rfl) ?_
    refine lv_iload_n hx hb dX4_toldOf_53 rfl (lv_at hl 1 rfl) ?_
    refine g_callV (As := [.int (nI o)]) (rest := []) X kX4_28 (c_X4_endOf l E a st w o (by omega) hI) G 0 rfl rfl ⟨Nat.le_of_ble_eq_true rfl, Nat.le_of_ble_eq_true rfl⟩ ⟨Nat.le_refl _, Nat.le_refl _⟩ rfl hl.1 rfl (Nat.le_of_ble_eq_true rfl) dX4_toldOf_54 (fun H locs G => ?_)
    refine lv_aload_n hx hb dX4_toldOf_57 rfl (lv_at hl 0 rfl) ?_
    refine g_get X G fX4_7 0 rfl rfl dX4_toldOf_58 ?_
    refine lv_bipush (v := 6) hx hb dX4_toldOf_61 (by decide) ?_
    refine g_iald (j := 6) X G 1 rfl rfl (by omega) (by decide) dX4_toldOf_63 ?_
    refine lv_isub hx hb dX4_toldOf_64 ?_
    exact g_iret X hr G rfl (by simp [toldM, c1, c2, c3]) dX4_toldOf_65
  by_cases c4 : what = 3
  · skip
    refine lv_tableIn (off := 65) (tgt := 66) hx hb dX4_toldOf_1 (by rw [c4]; decide) (by rw [c4]; decide) (by rw [c4]; rfl) (by decide) ?_
    refine lv_aload_n hx hb dX4_toldOf_66 rfl (lv_at hl 0 rfl) ?_
    refine lv_iload_n hx hb dX4_toldOf_67 rfl (lv_at hl 1 rfl) ?_
    refine g_callV (As := [.int (nI o)]) (rest := []) X kX4_115 (c_X4_sentMany l E a st w o (by omega)) G 0 rfl rfl ⟨Nat.le_of_ble_eq_true rfl, Nat.le_of_ble_eq_true rfl⟩ ⟨Nat.le_refl _, Nat.le_refl _⟩ rfl hl.1 rfl (Nat.le_of_ble_eq_true rfl) dX4_toldOf_68 (fun H locs G => ?_)
    exact g_iret X hr G rfl (by simp [toldM, c1, c2, c3, c4]) dX4_toldOf_71
  by_cases c5 : what = 4
  · skip
    refine lv_tableIn (off := 71) (tgt := 72) hx hb dX4_toldOf_1 (by rw [c5]; decide) (by rw [c5]; decide) (by rw [c5]; rfl) (by decide) ?_
    refine lv_aload_n hx hb dX4_toldOf_72 rfl (lv_at hl 0 rfl) ?_
    refine g_get X G fX4_7 0 rfl rfl dX4_toldOf_73 ?_
    refine lv_bipush (v := 39) hx hb dX4_toldOf_76 (by decide) ?_
    refine lv_iload_n hx hb dX4_toldOf_78 rfl (lv_at hl 1 rfl) ?_
    refine n_iadd 39 o rfl rfl hx hb dX4_toldOf_79 ?_
    refine g_iald (j := 39 + o) X G 1 rfl rfl (by omega) (by decide) dX4_toldOf_80 ?_
    exact g_iret X hr G rfl (by simp [toldM, c1, c2, c3, c4, c5]) dX4_toldOf_81
  have c6 : what.toInt < 0 ∨ 4 < what.toInt := tb_out4 c1 c2 c3 c4 c5
  refine lv_tableOut (tgt := 82) hx hb dX4_toldOf_1 c6 (by decide) ?_
  refine lv_aload_n hx hb dX4_toldOf_82 rfl (lv_at hl 0 rfl) ?_
  refine g_get X G fX4_7 0 rfl rfl dX4_toldOf_83 ?_
  refine lv_bipush (v := 55) hx hb dX4_toldOf_86 (by decide) ?_
  refine lv_iload_n hx hb dX4_toldOf_88 rfl (lv_at hl 1 rfl) ?_
  refine n_iadd 55 o rfl rfl hx hb dX4_toldOf_89 ?_
  refine g_iald (j := 55 + o) X G 1 rfl rfl (by omega) (by decide) dX4_toldOf_90 ?_
  exact g_iret X hr G rfl (by simp [toldM, c1, c2, c3, c4, c5]) dX4_toldOf_91
set_option maxHeartbeats 1000000 in
set_option maxRecDepth 100000 in
theorem c_X4_of (l : Launch) (E : EE) (a : Nat → Nat) (st : St) (w : va_W) (o : Int32) (what : Int32) (hI : isOk st) : Ct l yX4_of cX4_of 3 (some .int) 2 E [.ref (a 0), .int o, .int what] (wM E a st w) (mOf st o what) (wM E a st w) := by
  refine Ct_mk RX4 rfl (by decide +kernel) (Nat.le_of_ble_eq_true rfl) ?_
  intro p e s m below meth c A ls X hr G hl
  have hl : lv_has ls 3 [(0, .ref (a 0)), (1, .int o), (2, .int what)] := hl
  obtain ⟨hx, hb, hml, hown, hts, hK, hA, hlocks⟩ := id X
  refine lv_iload_n hx hb dX4_of_0 rfl (lv_at hl 1 rfl) ?_
  refine g_callS (As := [.int o]) (rest := []) X kX4_91 (c_X4_isOuter l E _ o) G ⟨Nat.le_of_ble_eq_true rfl, Nat.le_of_ble_eq_true rfl⟩ ⟨Nat.le_refl _, Nat.le_refl _⟩ rfl hl.1 rfl (Nat.le_of_ble_eq_true rfl) dX4_of_1 (fun H locs G => ?_)
  refine b_ifne (tgt := 9) hx hb dX4_of_4 (by decide) (fun c1 => ?_) (fun c1 => ?_)
  · skip
    obtain ⟨oN, hoN, rfl⟩ := rg_nat (by decide) c1
    have eoN : cl (nI oN) = oN := cl_nI (by omega)
    refine lv_iload_n hx hb dX4_of_9 rfl (lv_at hl 2 rfl) ?_
    refine lv_iconst (v := 0) hx hb dX4_of_10 (by decide) ?_
    refine lv_iconst (v := 5) hx hb dX4_of_11 (by decide) ?_
    refine g_callS (As := [.int what, .int 0, .int 5]) (rest := []) X kX4_20 (c_X4_isFrom l E _ what 0 5) G ⟨Nat.le_of_ble_eq_true rfl, Nat.le_of_ble_eq_true rfl⟩ ⟨Nat.le_refl _, Nat.le_refl _⟩ rfl hl.1 rfl (Nat.le_of_ble_eq_true rfl) dX4_of_12 (fun H locs G => ?_)
    refine b_ifne (tgt := 21) hx hb dX4_of_15 (by decide) (fun c2 => ?_) (fun c2 => ?_)
    · skip
      obtain ⟨whatN, gwhatN, hwhatN, rfl⟩ := frB_nat 0 5 (by decide) (by decide) rfl rfl c2
      have ewhatN : cl (nI whatN) = whatN := cl_nI (by omega)
      refine lv_aload_n hx hb dX4_of_21 rfl (lv_at hl 0 rfl) ?_
      refine lv_iload_n hx hb dX4_of_22 rfl (lv_at hl 1 rfl) ?_
      refine g_callV (As := [.int (nI oN)]) (rest := []) X kX4_24 (c_X4_isLent l E a st w oN (by omega)) G 0 rfl rfl ⟨Nat.le_of_ble_eq_true rfl, Nat.le_of_ble_eq_true rfl⟩ ⟨Nat.le_refl _, Nat.le_refl _⟩ rfl hl.1 rfl (Nat.le_of_ble_eq_true rfl) dX4_of_23 (fun H locs G => ?_)
      refine b_ifeq (tgt := 38) hx hb dX4_of_26 (by decide) (fun c3 => ?_) (fun c3 => ?_)
      · skip
        refine lv_bipush (v := (-6)) hx hb dX4_of_38 (by decide) ?_
        exact g_iret X hr G rfl (by simp [mOf, c1, eoN, c2, ewhatN, c3]) dX4_of_40
      · skip
        refine lv_aload_n hx hb dX4_of_29 rfl (lv_at hl 0 rfl) ?_
        refine lv_iload_n hx hb dX4_of_30 rfl (lv_at hl 1 rfl) ?_
        refine lv_iload_n hx hb dX4_of_31 rfl (lv_at hl 2 rfl) ?_
        refine g_callV (As := [.int (nI oN), .int (nI whatN)]) (rest := []) X kX4_118 (c_X4_toldOf l E a st w oN (by omega) (nI whatN) hI) G 0 rfl rfl ⟨Nat.le_of_ble_eq_true rfl, Nat.le_of_ble_eq_true rfl⟩ ⟨Nat.le_refl _, Nat.le_refl _⟩ rfl hl.1 rfl (Nat.le_of_ble_eq_true rfl) dX4_of_32 (fun H locs G => ?_)
        refine lv_goto (tgt := 40) hx hb dX4_of_35 (by decide) ?_
        exact g_iret X hr G rfl (by simp [mOf, c1, eoN, c2, ewhatN, c3]) dX4_of_40
    · skip
      refine lv_bipush (v := (-2)) hx hb dX4_of_18 (by decide) ?_
      exact g_iret X hr G rfl (by simp [mOf, c1, eoN, c2]) dX4_of_20
  · skip
    refine lv_iconst (v := (-1)) hx hb dX4_of_7 (by decide) ?_
    exact g_iret X hr G rfl (by simp [mOf, c1]) dX4_of_8
set_option maxHeartbeats 1000000 in
set_option maxRecDepth 100000 in
theorem c_X4_sent (l : Launch) (E : EE) (a : Nat → Nat) (st : St) (w : va_W) (o : Int32) (r : Int32) (rp : Int32) : Ct l yX4_sent cX4_sent 4 (some .int) 2 E [.ref (a 0), .int o, .int r, .int rp] (wM E a st w) (mSent st o r rp) (wM E a st w) := by
  refine Ct_mk RX4 rfl (by decide +kernel) (Nat.le_of_ble_eq_true rfl) ?_
  intro p e s m below meth c A ls X hr G hl
  have hl : lv_has ls 4 [(0, .ref (a 0)), (1, .int o), (2, .int r), (3, .int rp)] := hl
  obtain ⟨hx, hb, hml, hown, hts, hK, hA, hlocks⟩ := id X
  refine lv_iload_n hx hb dX4_sent_0 rfl (lv_at hl 1 rfl) ?_
  refine g_callS (As := [.int o]) (rest := []) X kX4_91 (c_X4_isOuter l E _ o) G ⟨Nat.le_of_ble_eq_true rfl, Nat.le_of_ble_eq_true rfl⟩ ⟨Nat.le_refl _, Nat.le_refl _⟩ rfl hl.1 rfl (Nat.le_of_ble_eq_true rfl) dX4_sent_1 (fun H locs G => ?_)
  refine b_ifne (tgt := 9) hx hb dX4_sent_4 (by decide) (fun c1 => ?_) (fun c1 => ?_)
  · skip
    obtain ⟨oN, hoN, rfl⟩ := rg_nat (by decide) c1
    have eoN : cl (nI oN) = oN := cl_nI (by omega)
    refine lv_iload_n hx hb dX4_sent_9 rfl (lv_at hl 2 rfl) ?_
    refine lv_iload_n hx hb dX4_sent_10 rfl (lv_at hl 3 rfl) ?_
    refine g_callS (As := [.int r, .int rp]) (rest := []) X kX4_74 (c_X4_isRemote l E _ r rp) G ⟨Nat.le_of_ble_eq_true rfl, Nat.le_of_ble_eq_true rfl⟩ ⟨Nat.le_refl _, Nat.le_refl _⟩ rfl hl.1 rfl (Nat.le_of_ble_eq_true rfl) dX4_sent_11 (fun H locs G => ?_)
    refine b_ifne (tgt := 20) hx hb dX4_sent_14 (by decide) (fun c2 => ?_) (fun c2 => ?_)
    · skip
      obtain ⟨rN, rpN, hrN, hrpN, zrpN, rfl, rfl⟩ := rgR_nat c2
      have erN : cl (nI rN) = rN := cl_nI (by omega)
      have erpN : cl (nI rpN) = rpN := cl_nI (by omega)
      refine lv_aload_n hx hb dX4_sent_20 rfl (lv_at hl 0 rfl) ?_
      refine lv_iload_n hx hb dX4_sent_21 rfl (lv_at hl 1 rfl) ?_
      refine g_callV (As := [.int (nI oN)]) (rest := []) X kX4_24 (c_X4_isLent l E a st w oN (by omega)) G 0 rfl rfl ⟨Nat.le_of_ble_eq_true rfl, Nat.le_of_ble_eq_true rfl⟩ ⟨Nat.le_refl _, Nat.le_refl _⟩ rfl hl.1 rfl (Nat.le_of_ble_eq_true rfl) dX4_sent_22 (fun H locs G => ?_)
      refine b_ifeq (tgt := 48) hx hb dX4_sent_25 (by decide) (fun c3 => ?_) (fun c3 => ?_)
      · skip
        refine lv_bipush (v := (-6)) hx hb dX4_sent_48 (by decide) ?_
        exact g_iret X hr G rfl (by simp [mSent, c1, eoN, c2, erN, erpN, c3]) dX4_sent_50
      · skip
        refine lv_aload_n hx hb dX4_sent_28 rfl (lv_at hl 0 rfl) ?_
        refine g_get X G fX4_7 0 rfl rfl dX4_sent_29 ?_
        refine lv_bipush (v := 103) hx hb dX4_sent_32 (by decide) ?_
        refine lv_iconst (v := 5) hx hb dX4_sent_34 (by decide) ?_
        refine lv_iload_n hx hb dX4_sent_35 rfl (lv_at hl 1 rfl) ?_
        refine n_imul 5 oN rfl rfl hx hb dX4_sent_36 ?_
        refine n_iadd 103 (5 * oN) rfl rfl hx hb dX4_sent_37 ?_
        refine lv_iload_n hx hb dX4_sent_38 rfl (lv_at hl 2 rfl) ?_
        refine n_iadd (103 + (5 * oN)) rN rfl rfl hx hb dX4_sent_39 ?_
        refine g_iald (j := (103 + (5 * oN)) + rN) X G 1 rfl rfl (by omega) (by decide) dX4_sent_40 ?_
        refine lv_iload_n hx hb dX4_sent_41 rfl (lv_at hl 3 rfl) ?_
        refine lv_ishr hx hb dX4_sent_42 ?_
        refine lv_iconst (v := 1) hx hb dX4_sent_43 (by decide) ?_
        refine lv_iand hx hb dX4_sent_44 ?_
        refine lv_goto (tgt := 50) hx hb dX4_sent_45 (by decide) ?_
        exact g_iret X hr G rfl (by simp [mSent, c1, eoN, c2, erN, erpN, c3]) dX4_sent_50
    · skip
      refine lv_bipush (v := (-2)) hx hb dX4_sent_17 (by decide) ?_
      exact g_iret X hr G rfl (by simp [mSent, c1, eoN, c2]) dX4_sent_19
  · skip
    refine lv_iconst (v := (-1)) hx hb dX4_sent_7 (by decide) ?_
    exact g_iret X hr G rfl (by simp [mSent, c1]) dX4_sent_8
set_option maxHeartbeats 1000000 in
set_option maxRecDepth 100000 in
theorem c_X4_find (l : Launch) (E : EE) (a : Nat → Nat) (st : St) (w : va_W) (h : Int32) (pt : Int32) (r : Int32) (rp : Int32) : Ct l yX4_find cX4_find 5 (some .int) 2 E [.ref (a 0), .int h, .int pt, .int r, .int rp] (wM E a st w) (mFind st h pt r rp) (wM E a st w) := by
  refine Ct_mk RX4 rfl (by decide +kernel) (Nat.le_of_ble_eq_true rfl) ?_
  intro p e s m below meth c A ls X hr G hl
  have hl : lv_has ls 5 [(0, .ref (a 0)), (1, .int h), (2, .int pt), (3, .int r), (4, .int rp)] := hl
  obtain ⟨hx, hb, hml, hown, hts, hK, hA, hlocks⟩ := id X
  refine lv_iload_n hx hb dX4_find_0 rfl (lv_at hl 1 rfl) ?_
  refine g_callS (As := [.int h]) (rest := []) X kX4_68 (c_X4_isHost l E _ h) G ⟨Nat.le_of_ble_eq_true rfl, Nat.le_of_ble_eq_true rfl⟩ ⟨Nat.le_refl _, Nat.le_refl _⟩ rfl hl.1 rfl (Nat.le_of_ble_eq_true rfl) dX4_find_1 (fun H locs G => ?_)
  refine b_ifne (tgt := 9) hx hb dX4_find_4 (by decide) (fun c1 => ?_) (fun c1 => ?_)
  · skip
    obtain ⟨hN, hhN, rfl⟩ := rg_nat (by decide) c1
    have ehN : cl (nI hN) = hN := cl_nI (by omega)
    refine lv_iload_n hx hb dX4_find_9 rfl (lv_at hl 2 rfl) ?_
    refine g_callS (As := [.int pt]) (rest := []) X kX4_71 (c_X4_isPort l E _ pt) G ⟨Nat.le_of_ble_eq_true rfl, Nat.le_of_ble_eq_true rfl⟩ ⟨Nat.le_refl _, Nat.le_refl _⟩ rfl hl.1 rfl (Nat.le_of_ble_eq_true rfl) dX4_find_10 (fun H locs G => ?_)
    refine b_ifeq (tgt := 37) hx hb dX4_find_13 (by decide) (fun c2 => ?_) (fun c2 => ?_)
    · skip
      refine lv_bipush (v := (-2)) hx hb dX4_find_37 (by decide) ?_
      exact g_iret X hr G rfl (by simp [mFind, oI, c1, ehN, c2]) dX4_find_39
    · skip
      obtain ⟨ptN, hptN, rfl⟩ := rg_nat (by decide) c2
      have eptN : cl (nI ptN) = ptN := cl_nI (by omega)
      refine lv_iload_n hx hb dX4_find_16 rfl (lv_at hl 3 rfl) ?_
      refine lv_iload hx hb dX4_find_17 (lv_at hl 4 rfl) ?_
      refine g_callS (As := [.int r, .int rp]) (rest := []) X kX4_74 (c_X4_isRemote l E _ r rp) G ⟨Nat.le_of_ble_eq_true rfl, Nat.le_of_ble_eq_true rfl⟩ ⟨Nat.le_refl _, Nat.le_refl _⟩ rfl hl.1 rfl (Nat.le_of_ble_eq_true rfl) dX4_find_19 (fun H locs G => ?_)
      refine b_ifeq (tgt := 37) hx hb dX4_find_22 (by decide) (fun c3 => ?_) (fun c3 => ?_)
      · skip
        refine lv_bipush (v := (-2)) hx hb dX4_find_37 (by decide) ?_
        exact g_iret X hr G rfl (by simp [mFind, oI, c1, ehN, c2, eptN, c3]) dX4_find_39
      · skip
        obtain ⟨rN, rpN, hrN, hrpN, zrpN, rfl, rfl⟩ := rgR_nat c3
        have erN : cl (nI rN) = rN := cl_nI (by omega)
        have erpN : cl (nI rpN) = rpN := cl_nI (by omega)
        refine lv_aload_n hx hb dX4_find_25 rfl (lv_at hl 0 rfl) ?_
        refine lv_iload_n hx hb dX4_find_26 rfl (lv_at hl 1 rfl) ?_
        refine lv_iload_n hx hb dX4_find_27 rfl (lv_at hl 2 rfl) ?_
        refine lv_iload_n hx hb dX4_find_28 rfl (lv_at hl 3 rfl) ?_
        refine lv_iload hx hb dX4_find_29 (lv_at hl 4 rfl) ?_
        refine g_callV (As := [.int (nI hN), .int (nI ptN), .int (nI rN), .int (nI rpN)]) (rest := []) X kX4_57 (c_X4_bindingOf l E a st w (nI hN) (nI ptN) (nI rN) (nI rpN)) G 0 rfl rfl ⟨Nat.le_of_ble_eq_true rfl, Nat.le_of_ble_eq_true rfl⟩ ⟨Nat.le_refl _, Nat.le_refl _⟩ rfl hl.1 rfl (Nat.le_of_ble_eq_true rfl) dX4_find_31 (fun H locs G => ?_)
        refine o_split (fun c5 => ?_) (fun j4 c6 => ?_)
        · skip
          refine lv_goto (tgt := 39) hx hb dX4_find_34 (by decide) ?_
          exact g_iret X hr G rfl (by simp [mFind, oI, c1, ehN, c2, eptN, c3, erN, erpN, c5]) dX4_find_39
        · skip
          have bj4 : j4 < 16 := bindO_lt c6
          refine lv_goto (tgt := 39) hx hb dX4_find_34 (by decide) ?_
          exact g_iret X hr G rfl (by simp [mFind, oI, c1, ehN, c2, eptN, c3, erN, erpN, c6]) dX4_find_39
  · skip
    refine lv_iconst (v := (-1)) hx hb dX4_find_7 (by decide) ?_
    exact g_iret X hr G rfl (by simp [mFind, oI, c1]) dX4_find_8
set_option maxHeartbeats 1000000 in
set_option maxRecDepth 100000 in
theorem c_X4_next (l : Launch) (E : EE) (a : Nat → Nat) (st : St) (w : va_W) (h : Int32) (pt : Int32) : Ct l yX4_next cX4_next 3 (some .int) 4 E [.ref (a 0), .int h, .int pt] (wM E a st w) (mNext st h pt) (wM E a st w) := by
  refine Ct_mk RX4 rfl (by decide +kernel) (Nat.le_of_ble_eq_true rfl) ?_
  intro p e s m below meth c A ls X hr G hl
  have hl : lv_has ls 3 [(0, .ref (a 0)), (1, .int h), (2, .int pt)] := hl
  obtain ⟨hx, hb, hml, hown, hts, hK, hA, hlocks⟩ := id X
  refine lv_iload_n hx hb dX4_next_0 rfl (lv_at hl 1 rfl) ?_
  refine g_callS (As := [.int h]) (rest := []) X kX4_68 (c_X4_isHost l E _ h) G ⟨Nat.le_of_ble_eq_true rfl, Nat.le_of_ble_eq_true rfl⟩ ⟨Nat.le_refl _, Nat.le_refl _⟩ rfl hl.1 rfl (Nat.le_of_ble_eq_true rfl) dX4_next_1 (fun H locs G => ?_)
  refine b_ifne (tgt := 9) hx hb dX4_next_4 (by decide) (fun c1 => ?_) (fun c1 => ?_)
  · skip
    obtain ⟨hN, hhN, rfl⟩ := rg_nat (by decide) c1
    have ehN : cl (nI hN) = hN := cl_nI (by omega)
    refine lv_iload_n hx hb dX4_next_9 rfl (lv_at hl 2 rfl) ?_
    refine g_callS (As := [.int pt]) (rest := []) X kX4_71 (c_X4_isPort l E _ pt) G ⟨Nat.le_of_ble_eq_true rfl, Nat.le_of_ble_eq_true rfl⟩ ⟨Nat.le_refl _, Nat.le_refl _⟩ rfl hl.1 rfl (Nat.le_of_ble_eq_true rfl) dX4_next_10 (fun H locs G => ?_)
    refine b_ifeq (tgt := 25) hx hb dX4_next_13 (by decide) (fun c2 => ?_) (fun c2 => ?_)
    · skip
      refine lv_bipush (v := (-2)) hx hb dX4_next_25 (by decide) ?_
      exact g_iret X hr G rfl (by simp [mNext, oI, c1, ehN, c2]) dX4_next_27
    · skip
      obtain ⟨ptN, hptN, rfl⟩ := rg_nat (by decide) c2
      have eptN : cl (nI ptN) = ptN := cl_nI (by omega)
      refine lv_aload_n hx hb dX4_next_16 rfl (lv_at hl 0 rfl) ?_
      refine lv_iload_n hx hb dX4_next_17 rfl (lv_at hl 1 rfl) ?_
      refine lv_iload_n hx hb dX4_next_18 rfl (lv_at hl 2 rfl) ?_
      refine g_callV (As := [.int (nI hN), .int (nI ptN)]) (rest := []) X kX4_61 (c_X4_chosen l E a st w (nI hN) ptN (by omega)) G 0 rfl rfl ⟨Nat.le_of_ble_eq_true rfl, Nat.le_of_ble_eq_true rfl⟩ ⟨Nat.le_refl _, Nat.le_refl _⟩ rfl hl.1 rfl (Nat.le_of_ble_eq_true rfl) dX4_next_19 (fun H locs G => ?_)
      refine o_split (fun c4 => ?_) (fun j3 c5 => ?_)
      · skip
        refine lv_goto (tgt := 27) hx hb dX4_next_22 (by decide) ?_
        exact g_iret X hr G rfl (by simp [mNext, oI, c1, ehN, c2, eptN, c4]) dX4_next_27
      · skip
        have bj3 : j3 < 16 := chosenM_lt c5
        refine lv_goto (tgt := 27) hx hb dX4_next_22 (by decide) ?_
        exact g_iret X hr G rfl (by simp [mNext, oI, c1, ehN, c2, eptN, c5]) dX4_next_27
  · skip
    refine lv_iconst (v := (-1)) hx hb dX4_next_7 (by decide) ?_
    exact g_iret X hr G rfl (by simp [mNext, oI, c1]) dX4_next_8
set_option maxHeartbeats 1000000 in
set_option maxRecDepth 100000 in
theorem c_X4_why (l : Launch) (E : EE) (a : Nat → Nat) (st : St) (w : va_W) (r : Int32) (rp : Int32) (o : Int32) : Ct l yX4_why cX4_why 4 (some .int) 2 E [.ref (a 0), .int r, .int rp, .int o] (wM E a st w) (mWhy st r rp o) (wM E a st w) := by
  refine Ct_mk RX4 rfl (by decide +kernel) (Nat.le_of_ble_eq_true rfl) ?_
  intro p e s m below meth c A ls X hr G hl
  have hl : lv_has ls 4 [(0, .ref (a 0)), (1, .int r), (2, .int rp), (3, .int o)] := hl
  obtain ⟨hx, hb, hml, hown, hts, hK, hA, hlocks⟩ := id X
  refine lv_iload_n hx hb dX4_why_0 rfl (lv_at hl 1 rfl) ?_
  refine lv_iload_n hx hb dX4_why_1 rfl (lv_at hl 2 rfl) ?_
  refine g_callS (As := [.int r, .int rp]) (rest := []) X kX4_74 (c_X4_isRemote l E _ r rp) G ⟨Nat.le_of_ble_eq_true rfl, Nat.le_of_ble_eq_true rfl⟩ ⟨Nat.le_refl _, Nat.le_refl _⟩ rfl hl.1 rfl (Nat.le_of_ble_eq_true rfl) dX4_why_2 (fun H locs G => ?_)
  refine b_ifne (tgt := 11) hx hb dX4_why_5 (by decide) (fun c1 => ?_) (fun c1 => ?_)
  · skip
    obtain ⟨rN, rpN, hrN, hrpN, zrpN, rfl, rfl⟩ := rgR_nat c1
    have erN : cl (nI rN) = rN := cl_nI (by omega)
    have erpN : cl (nI rpN) = rpN := cl_nI (by omega)
    refine lv_iload_n hx hb dX4_why_11 rfl (lv_at hl 3 rfl) ?_
    refine g_callS (As := [.int o]) (rest := []) X kX4_91 (c_X4_isOuter l E _ o) G ⟨Nat.le_of_ble_eq_true rfl, Nat.le_of_ble_eq_true rfl⟩ ⟨Nat.le_refl _, Nat.le_refl _⟩ rfl hl.1 rfl (Nat.le_of_ble_eq_true rfl) dX4_why_12 (fun H locs G => ?_)
    refine b_ifeq (tgt := 28) hx hb dX4_why_15 (by decide) (fun c2 => ?_) (fun c2 => ?_)
    · skip
      refine lv_iconst (v := (-1)) hx hb dX4_why_28 (by decide) ?_
      exact g_iret X hr G rfl (by simp [mWhy, c1, erN, erpN, c2]) dX4_why_29
    · skip
      obtain ⟨oN, hoN, rfl⟩ := rg_nat (by decide) c2
      have eoN : cl (nI oN) = oN := cl_nI (by omega)
      refine lv_aload_n hx hb dX4_why_18 rfl (lv_at hl 0 rfl) ?_
      refine lv_iload_n hx hb dX4_why_19 rfl (lv_at hl 1 rfl) ?_
      refine lv_iload_n hx hb dX4_why_20 rfl (lv_at hl 2 rfl) ?_
      refine lv_iload_n hx hb dX4_why_21 rfl (lv_at hl 3 rfl) ?_
      refine g_callV (As := [.int (nI rN), .int (nI rpN), .int (nI oN)]) (rest := []) X kX4_84 (c_X4_whyNot l E a st w rN (by omega) rpN (by omega) oN (by omega)) G 0 rfl rfl ⟨Nat.le_of_ble_eq_true rfl, Nat.le_of_ble_eq_true rfl⟩ ⟨Nat.le_refl _, Nat.le_refl _⟩ rfl hl.1 rfl (Nat.le_of_ble_eq_true rfl) dX4_why_22 (fun H locs G => ?_)
      have b3 : (whyM st rN rpN oN) ≤ 2 := whyM_le _ _ _ _
      refine lv_goto (tgt := 29) hx hb dX4_why_25 (by decide) ?_
      exact g_iret X hr G rfl (by simp [mWhy, c1, erN, erpN, c2, eoN]) dX4_why_29
  · skip
    refine lv_bipush (v := (-2)) hx hb dX4_why_8 (by decide) ?_
    exact g_iret X hr G rfl (by simp [mWhy, c1]) dX4_why_10
set_option maxHeartbeats 1000000 in
set_option maxRecDepth 100000 in
theorem c_X4_block (l : Launch) (E : EE) (a : Nat → Nat) (st : St) (w : va_W) (b : Int32) : Ct l yX4_block cX4_block 2 (some .int) 2 E [.ref (a 0), .int b] (wM E a st w) (mBlock st b) (wM E a st w) := by
  refine Ct_mk RX4 rfl (by decide +kernel) (Nat.le_of_ble_eq_true rfl) ?_
  intro p e s m below meth c A ls X hr G hl
  have hl : lv_has ls 2 [(0, .ref (a 0)), (1, .int b)] := hl
  obtain ⟨hx, hb, hml, hown, hts, hK, hA, hlocks⟩ := id X
  refine lv_iload_n hx hb dX4_block_0 rfl (lv_at hl 1 rfl) ?_
  refine lv_iconst (v := 0) hx hb dX4_block_1 (by decide) ?_
  refine lv_iconst (v := 3) hx hb dX4_block_2 (by decide) ?_
  refine g_callS (As := [.int b, .int 0, .int 3]) (rest := []) X kX4_20 (c_X4_isFrom l E _ b 0 3) G ⟨Nat.le_of_ble_eq_true rfl, Nat.le_of_ble_eq_true rfl⟩ ⟨Nat.le_refl _, Nat.le_refl _⟩ rfl hl.1 rfl (Nat.le_of_ble_eq_true rfl) dX4_block_3 (fun H locs G => ?_)
  refine b_ifeq (tgt := 17) hx hb dX4_block_6 (by decide) (fun c1 => ?_) (fun c1 => ?_)
  · skip
    refine lv_iconst (v := (-1)) hx hb dX4_block_17 (by decide) ?_
    exact g_iret X hr G rfl (by simp [mBlock, c1]) dX4_block_18
  · skip
    obtain ⟨bN, gbN, hbN, rfl⟩ := frB_nat 0 3 (by decide) (by decide) rfl rfl c1
    have ebN : cl (nI bN) = bN := cl_nI (by omega)
    refine lv_aload_n hx hb dX4_block_9 rfl (lv_at hl 0 rfl) ?_
    refine lv_iload_n hx hb dX4_block_10 rfl (lv_at hl 1 rfl) ?_
    refine g_callV (As := [.int (nI bN)]) (rest := []) X kX4_46 (c_X4_blockOf l E a st w bN (by omega)) G 0 rfl rfl ⟨Nat.le_of_ble_eq_true rfl, Nat.le_of_ble_eq_true rfl⟩ ⟨Nat.le_refl _, Nat.le_refl _⟩ rfl hl.1 rfl (Nat.le_of_ble_eq_true rfl) dX4_block_11 (fun H locs G => ?_)
    refine lv_goto (tgt := 18) hx hb dX4_block_14 (by decide) ?_
    exact g_iret X hr G rfl (by simp [mBlock, c1, ebN]) dX4_block_18
set_option maxHeartbeats 1000000 in
set_option maxRecDepth 100000 in
theorem c_X4_bindingsOf (l : Launch) (E : EE) (a : Nat → Nat) (st : St) (w : va_W) (h : Int32) : Ct l yX4_bindingsOf cX4_bindingsOf 4 (some .int) 0 E [.ref (a 0), .int h] (wM E a st w) (nI (bindManyM st h)) (wM E a st w) := by
  refine Ct_mk RX4 rfl (by decide +kernel) (Nat.le_of_ble_eq_true rfl) ?_
  intro p e s m below meth c A ls X hr G hl
  have hl : lv_has ls 4 [(0, .ref (a 0)), (1, .int h)] := hl
  obtain ⟨hx, hb, hml, hown, hts, hK, hA, hlocks⟩ := id X
  refine lv_iconst (v := 0) hx hb dX4_bindingsOf_0 (by decide) ?_
  refine lv_istore_n (lv' := [(2, .int 0), (0, .ref (a 0)), (1, .int h)]) hx hb dX4_bindingsOf_1 rfl hl (by decide) rfl (fun ls hl => ?_)
  refine lv_iconst (v := 0) hx hb dX4_bindingsOf_2 (by decide) ?_
  refine lv_istore_n (lv' := [(3, .int 0), (2, .int 0), (0, .ref (a 0)), (1, .int h)]) hx hb dX4_bindingsOf_3 rfl hl (by decide) rfl (fun ls hl => ?_)
  have LP4 : ∀ (n i : Nat) (z : Nat) (H : Heap) (locs : List Loc) (ls : Array Slot), (i + n = 16) → (z + cF (fun o => decide (st 0 (7 + o) = h)) n i = bindManyM st h) → Gw E A s (wM E a st w) H locs → lv_has ls 4 [(0, .ref (a 0)), (1, .int h), (2, .int (nI z)), (3, .int (nI i))] → W p l e (rmD 0) s m ([.ref (a 0), .int h] : List Value).toArray below meth c H locs 0 0 (MQ below (CtQ E A (nI (bindManyM st h)) (wM E a st w)) ([.ref (a 0), .int h] : List Value).toArray s 0 0 A) (F0 m 4 ls []) := by
    intro n
    induction n with
    | zero =>
      intro i z H locs ls hi hR G hl
      refine lv_iload_n hx hb dX4_bindingsOf_4 rfl (lv_at hl 3 rfl) ?_
      refine lv_bipush (v := 16) hx hb dX4_bindingsOf_5 (by decide) ?_
      refine n_cmp_ge (tgt := 37) i 16 rfl rfl (by omega) (by omega) hx hb dX4_bindingsOf_7 (by decide) (fun c1 => ?_) (fun c1 => ?_)
      · skip
        refine lv_iload_n hx hb dX4_bindingsOf_37 rfl (lv_at hl 2 rfl) ?_
        exact g_iret X hr G rfl (by rw [← hR]; simp [cF]) dX4_bindingsOf_38
      · skip
        exact absurd c1 (by omega)
    | succ n ih4 =>
      intro i z H locs ls hi hR G hl
      refine lv_iload_n hx hb dX4_bindingsOf_4 rfl (lv_at hl 3 rfl) ?_
      refine lv_bipush (v := 16) hx hb dX4_bindingsOf_5 (by decide) ?_
      refine n_cmp_ge (tgt := 37) i 16 rfl rfl (by omega) (by omega) hx hb dX4_bindingsOf_7 (by decide) (fun c2 => ?_) (fun c2 => ?_)
      · skip
        exact absurd c2 (by omega)
      · skip
        refine lv_iload_n hx hb dX4_bindingsOf_10 rfl (lv_at hl 2 rfl) ?_
        refine lv_aload_n hx hb dX4_bindingsOf_11 rfl (lv_at hl 0 rfl) ?_
        refine g_get X G fX4_7 0 rfl rfl dX4_bindingsOf_12 ?_
        refine lv_bipush (v := 7) hx hb dX4_bindingsOf_15 (by decide) ?_
        refine lv_iload_n hx hb dX4_bindingsOf_17 rfl (lv_at hl 3 rfl) ?_
        refine n_iadd 7 i rfl rfl hx hb dX4_bindingsOf_18 ?_
        refine g_iald (j := 7 + i) X G 1 rfl rfl (by omega) (by decide) dX4_bindingsOf_19 ?_
        refine lv_iload_n hx hb dX4_bindingsOf_20 rfl (lv_at hl 1 rfl) ?_
        refine lv_icmp_ne (tgt := 28) hx hb dX4_bindingsOf_21 (by decide) (fun c3 => ?_) (fun c3 => ?_)
        · skip
          refine lv_iconst (v := 0) hx hb dX4_bindingsOf_28 (by decide) ?_
          refine n_iadd z 0 rfl rfl hx hb dX4_bindingsOf_29 ?_
          refine lv_istore_n (lv' := [(2, .int (nI (z + 0))), (0, .ref (a 0)), (1, .int h), (3, .int (nI i))]) hx hb dX4_bindingsOf_30 rfl hl (by decide) rfl (fun ls hl => ?_)
          refine lv_iinc (v := nI (i + 1)) (lv' := [(3, .int (nI (i + 1))), (2, .int (nI (z + 0))), (0, .ref (a 0)), (1, .int h)]) hx hb dX4_bindingsOf_31 hl (k := 3) rfl (nI_inc _) (by decide) rfl (fun ls hl => ?_)
          refine lv_goto (tgt := 4) hx hb dX4_bindingsOf_34 (by decide) ?_
          exact ih4 (i + 1) (z + 0) _ _ ls (by omega) (by simp [cF, c2, c3] at hR ⊢; omega) G (lv_sub hl [2, 3, 1, 0] rfl)
        · skip
          refine lv_iconst (v := 1) hx hb dX4_bindingsOf_24 (by decide) ?_
          refine lv_goto (tgt := 29) hx hb dX4_bindingsOf_25 (by decide) ?_
          refine n_iadd z 1 rfl rfl hx hb dX4_bindingsOf_29 ?_
          refine lv_istore_n (lv' := [(2, .int (nI (z + 1))), (0, .ref (a 0)), (1, .int h), (3, .int (nI i))]) hx hb dX4_bindingsOf_30 rfl hl (by decide) rfl (fun ls hl => ?_)
          refine lv_iinc (v := nI (i + 1)) (lv' := [(3, .int (nI (i + 1))), (2, .int (nI (z + 1))), (0, .ref (a 0)), (1, .int h)]) hx hb dX4_bindingsOf_31 hl (k := 3) rfl (nI_inc _) (by decide) rfl (fun ls hl => ?_)
          refine lv_goto (tgt := 4) hx hb dX4_bindingsOf_34 (by decide) ?_
          exact ih4 (i + 1) (z + 1) _ _ ls (by omega) (by simp [cF, c2, c3] at hR ⊢; omega) G (lv_sub hl [2, 3, 1, 0] rfl)
  exact LP4 16 0 0 _ _ ls (by omega) (by simp [bindManyM]) G (lv_sub hl [2, 3, 1, 0] rfl)
set_option maxHeartbeats 1000000 in
set_option maxRecDepth 100000 in
theorem c_X4_blocksOf (l : Launch) (E : EE) (a : Nat → Nat) (st : St) (w : va_W) (h : Int32) : Ct l yX4_blocksOf cX4_blocksOf 4 (some .int) 2 E [.ref (a 0), .int h] (wM E a st w) (blocksM st h) (wM E a st w) := by
  refine Ct_mk RX4 rfl (by decide +kernel) (Nat.le_of_ble_eq_true rfl) ?_
  intro p e s m below meth c A ls X hr G hl
  have hl : lv_has ls 4 [(0, .ref (a 0)), (1, .int h)] := hl
  obtain ⟨hx, hb, hml, hown, hts, hK, hA, hlocks⟩ := id X
  refine lv_iconst (v := 0) hx hb dX4_blocksOf_0 (by decide) ?_
  refine lv_istore_n (lv' := [(2, .int 0), (0, .ref (a 0)), (1, .int h)]) hx hb dX4_blocksOf_1 rfl hl (by decide) rfl (fun ls hl => ?_)
  refine lv_iconst (v := 0) hx hb dX4_blocksOf_2 (by decide) ?_
  refine lv_istore_n (lv' := [(3, .int 0), (2, .int 0), (0, .ref (a 0)), (1, .int h)]) hx hb dX4_blocksOf_3 rfl hl (by decide) rfl (fun ls hl => ?_)
  have LP4 : ∀ (n i : Nat) (x : Int32) (H : Heap) (locs : List Loc) (ls : Array Slot), (i + n = 4) → (orM st h n i x = blocksM st h) → Gw E A s (wM E a st w) H locs → lv_has ls 4 [(0, .ref (a 0)), (1, .int h), (2, .int x), (3, .int (nI i))] → W p l e (rmD 2) s m ([.ref (a 0), .int h] : List Value).toArray below meth c H locs 0 0 (MQ below (CtQ E A (blocksM st h) (wM E a st w)) ([.ref (a 0), .int h] : List Value).toArray s 0 0 A) (F0 m 4 ls []) := by
    intro n
    induction n with
    | zero =>
      intro i x H locs ls hi hR G hl
      refine lv_iload_n hx hb dX4_blocksOf_4 rfl (lv_at hl 3 rfl) ?_
      refine lv_iconst (v := 4) hx hb dX4_blocksOf_5 (by decide) ?_
      refine n_cmp_ge (tgt := 34) i 4 rfl rfl (by omega) (by omega) hx hb dX4_blocksOf_6 (by decide) (fun c1 => ?_) (fun c1 => ?_)
      · skip
        refine lv_iload_n hx hb dX4_blocksOf_34 rfl (lv_at hl 2 rfl) ?_
        exact g_iret X hr G rfl (by rw [← hR]; rfl) dX4_blocksOf_35
      · skip
        exact absurd c1 (by omega)
    | succ n ih4 =>
      intro i x H locs ls hi hR G hl
      refine lv_iload_n hx hb dX4_blocksOf_4 rfl (lv_at hl 3 rfl) ?_
      refine lv_iconst (v := 4) hx hb dX4_blocksOf_5 (by decide) ?_
      refine n_cmp_ge (tgt := 34) i 4 rfl rfl (by omega) (by omega) hx hb dX4_blocksOf_6 (by decide) (fun c2 => ?_) (fun c2 => ?_)
      · skip
        exact absurd c2 (by omega)
      · skip
        refine lv_iload_n hx hb dX4_blocksOf_9 rfl (lv_at hl 2 rfl) ?_
        refine lv_aload_n hx hb dX4_blocksOf_10 rfl (lv_at hl 0 rfl) ?_
        refine lv_iload_n hx hb dX4_blocksOf_11 rfl (lv_at hl 3 rfl) ?_
        refine g_callV (As := [.int (nI i)]) (rest := [.int x]) X kX4_46 (c_X4_blockOf l E a st w i (by omega)) G 0 rfl rfl ⟨Nat.le_of_ble_eq_true rfl, Nat.le_of_ble_eq_true rfl⟩ ⟨Nat.le_refl _, Nat.le_refl _⟩ rfl hl.1 rfl (Nat.le_of_ble_eq_true rfl) dX4_blocksOf_12 (fun H locs G => ?_)
        refine lv_iload_n hx hb dX4_blocksOf_15 rfl (lv_at hl 1 rfl) ?_
        refine lv_icmp_ne (tgt := 25) hx hb dX4_blocksOf_16 (by decide) (fun c3 => ?_) (fun c3 => ?_)
        · skip
          refine lv_iconst (v := 0) hx hb dX4_blocksOf_25 (by decide) ?_
          refine lv_ior hx hb dX4_blocksOf_26 ?_
          refine lv_istore_n (lv' := [(2, .int (x ||| 0)), (0, .ref (a 0)), (1, .int h), (3, .int (nI i))]) hx hb dX4_blocksOf_27 rfl hl (by decide) rfl (fun ls hl => ?_)
          refine lv_iinc (v := nI (i + 1)) (lv' := [(3, .int (nI (i + 1))), (2, .int (x ||| 0)), (0, .ref (a 0)), (1, .int h)]) hx hb dX4_blocksOf_28 hl (k := 3) rfl (nI_inc _) (by decide) rfl (fun ls hl => ?_)
          refine lv_goto (tgt := 4) hx hb dX4_blocksOf_31 (by decide) ?_
          exact ih4 (i + 1) (x ||| 0) _ _ ls (by omega) (by rw [← hR]; simp [orM, c2, c3]) G (lv_sub hl [2, 3, 1, 0] rfl)
        · skip
          refine lv_iconst (v := 1) hx hb dX4_blocksOf_19 (by decide) ?_
          refine lv_iload_n hx hb dX4_blocksOf_20 rfl (lv_at hl 3 rfl) ?_
          refine lv_ishl hx hb dX4_blocksOf_21 ?_
          refine lv_goto (tgt := 26) hx hb dX4_blocksOf_22 (by decide) ?_
          refine lv_ior hx hb dX4_blocksOf_26 ?_
          refine lv_istore_n (lv' := [(2, .int (x ||| (1 <<< ((nI i) &&& 31)))), (0, .ref (a 0)), (1, .int h), (3, .int (nI i))]) hx hb dX4_blocksOf_27 rfl hl (by decide) rfl (fun ls hl => ?_)
          refine lv_iinc (v := nI (i + 1)) (lv' := [(3, .int (nI (i + 1))), (2, .int (x ||| (1 <<< ((nI i) &&& 31)))), (0, .ref (a 0)), (1, .int h)]) hx hb dX4_blocksOf_28 hl (k := 3) rfl (nI_inc _) (by decide) rfl (fun ls hl => ?_)
          refine lv_goto (tgt := 4) hx hb dX4_blocksOf_31 (by decide) ?_
          exact ih4 (i + 1) (x ||| (1 <<< ((nI i) &&& 31))) _ _ ls (by omega) (by rw [← hR]; simp [orM, c2, c3]) G (lv_sub hl [2, 3, 1, 0] rfl)
  exact LP4 4 0 0 _ _ ls (by omega) rfl G (lv_sub hl [2, 3, 1, 0] rfl)
set_option maxHeartbeats 1000000 in
set_option maxRecDepth 100000 in
theorem c_X4_roomFor (l : Launch) (E : EE) (a : Nat → Nat) (st : St) (w : va_W) (h : Int32) (port : Nat) (hport : port < 32) : Ct l yX4_roomFor cX4_roomFor 6 (some .int) 2 E [.ref (a 0), .int h, .int (nI port)] (wM E a st w) (nI (roomM st h port)) (wM E a st w) := by
  refine Ct_mk RX4 rfl (by decide +kernel) (Nat.le_of_ble_eq_true rfl) ?_
  intro p e s m below meth c A ls X hr G hl
  have hl : lv_has ls 6 [(0, .ref (a 0)), (1, .int h), (2, .int (nI port))] := hl
  obtain ⟨hx, hb, hml, hown, hts, hK, hA, hlocks⟩ := id X
  refine lv_iconst (v := 0) hx hb dX4_roomFor_0 (by decide) ?_
  refine lv_istore_n (lv' := [(3, .int 0), (0, .ref (a 0)), (1, .int h), (2, .int (nI port))]) hx hb dX4_roomFor_1 rfl hl (by decide) rfl (fun ls hl => ?_)
  refine lv_iconst (v := 0) hx hb dX4_roomFor_2 (by decide) ?_
  refine lv_istore (lv' := [(4, .int 0), (3, .int 0), (0, .ref (a 0)), (1, .int h), (2, .int (nI port))]) hx hb dX4_roomFor_3 hl (by decide) rfl (fun ls hl => ?_)
  have LP5 : ∀ (n i : Nat) (z : Nat) (H : Heap) (locs : List Loc) (ls : Array Slot), (i + n = 16) → (z + cF (fun o => (decide (blockM st (o / 4) = h) || decide (blockM st (o / 4) = -6)) && fitM st o port) n i = roomM st h port) → Gw E A s (wM E a st w) H locs → lv_has ls 6 [(0, .ref (a 0)), (1, .int h), (2, .int (nI port)), (3, .int (nI z)), (4, .int (nI i))] → W p l e (rmD 2) s m ([.ref (a 0), .int h, .int (nI port)] : List Value).toArray below meth c H locs 0 0 (MQ below (CtQ E A (nI (roomM st h port)) (wM E a st w)) ([.ref (a 0), .int h, .int (nI port)] : List Value).toArray s 0 0 A) (F0 m 5 ls []) := by
    intro n
    induction n with
    | zero =>
      intro i z H locs ls hi hR G hl
      refine lv_iload hx hb dX4_roomFor_5 (lv_at hl 4 rfl) ?_
      refine lv_bipush (v := 16) hx hb dX4_roomFor_7 (by decide) ?_
      refine n_cmp_ge (tgt := 59) i 16 rfl rfl (by omega) (by omega) hx hb dX4_roomFor_9 (by decide) (fun c1 => ?_) (fun c1 => ?_)
      · skip
        refine lv_iload_n hx hb dX4_roomFor_59 rfl (lv_at hl 3 rfl) ?_
        exact g_iret X hr G rfl (by rw [← hR]; simp [cF]) dX4_roomFor_60
      · skip
        exact absurd c1 (by omega)
    | succ n ih5 =>
      intro i z H locs ls hi hR G hl
      refine lv_iload hx hb dX4_roomFor_5 (lv_at hl 4 rfl) ?_
      refine lv_bipush (v := 16) hx hb dX4_roomFor_7 (by decide) ?_
      refine n_cmp_ge (tgt := 59) i 16 rfl rfl (by omega) (by omega) hx hb dX4_roomFor_9 (by decide) (fun c2 => ?_) (fun c2 => ?_)
      · skip
        exact absurd c2 (by omega)
      · skip
        refine lv_aload_n hx hb dX4_roomFor_12 rfl (lv_at hl 0 rfl) ?_
        refine lv_iload hx hb dX4_roomFor_13 (lv_at hl 4 rfl) ?_
        refine lv_iconst (v := 4) hx hb dX4_roomFor_15 (by decide) ?_
        refine n_idiv i 4 rfl rfl (by omega) (by decide) (by decide) hx hb dX4_roomFor_16 ?_
        refine g_callV (As := [.int (nI (i / 4))]) (rest := []) X kX4_46 (c_X4_blockOf l E a st w (i / 4) (by omega)) G 0 rfl rfl ⟨Nat.le_of_ble_eq_true rfl, Nat.le_of_ble_eq_true rfl⟩ ⟨Nat.le_refl _, Nat.le_refl _⟩ rfl hl.1 rfl (Nat.le_of_ble_eq_true rfl) dX4_roomFor_17 (fun H locs G => ?_)
        refine lv_istore (lv' := [(5, .int (blockM st (i / 4))), (0, .ref (a 0)), (1, .int h), (2, .int (nI port)), (3, .int (nI z)), (4, .int (nI i))]) hx hb dX4_roomFor_20 hl (by decide) rfl (fun ls hl => ?_)
        refine lv_iload_n hx hb dX4_roomFor_22 rfl (lv_at hl 4 rfl) ?_
        refine lv_iload hx hb dX4_roomFor_23 (lv_at hl 0 rfl) ?_
        refine lv_iload_n hx hb dX4_roomFor_25 rfl (lv_at hl 2 rfl) ?_
        refine lv_icmp_eq (tgt := 36) hx hb dX4_roomFor_26 (by decide) (fun c3 => ?_) (fun c3 => ?_)
        · skip
          refine lv_aload_n hx hb dX4_roomFor_36 rfl (lv_at hl 1 rfl) ?_
          refine lv_iload hx hb dX4_roomFor_37 (lv_at hl 5 rfl) ?_
          refine lv_iload_n hx hb dX4_roomFor_39 rfl (lv_at hl 3 rfl) ?_
          refine g_callV (As := [.int (nI i), .int (nI port)]) (rest := [.int (nI z)]) X kX4_49 (c_X4_fits l E a st w i (by omega) port (by omega)) G 0 rfl rfl ⟨Nat.le_of_ble_eq_true rfl, Nat.le_of_ble_eq_true rfl⟩ ⟨Nat.le_refl _, Nat.le_refl _⟩ rfl hl.1 rfl (Nat.le_of_ble_eq_true rfl) dX4_roomFor_40 (fun H locs G => ?_)
          refine b_ifeq (tgt := 50) hx hb dX4_roomFor_43 (by decide) (fun c4 => ?_) (fun c4 => ?_)
          · skip
            refine lv_iconst (v := 0) hx hb dX4_roomFor_50 (by decide) ?_
            refine n_iadd z 0 rfl rfl hx hb dX4_roomFor_51 ?_
            refine lv_istore_n (lv' := [(3, .int (nI (z + 0))), (5, .int (blockM st (i / 4))), (0, .ref (a 0)), (1, .int h), (2, .int (nI port)), (4, .int (nI i))]) hx hb dX4_roomFor_52 rfl hl (by decide) rfl (fun ls hl => ?_)
            refine lv_iinc (v := nI (i + 1)) (lv' := [(4, .int (nI (i + 1))), (3, .int (nI (z + 0))), (5, .int (blockM st (i / 4))), (0, .ref (a 0)), (1, .int h), (2, .int (nI port))]) hx hb dX4_roomFor_53 hl (k := 5) rfl (nI_inc _) (by decide) rfl (fun ls hl => ?_)
            refine lv_goto (tgt := 5) hx hb dX4_roomFor_56 (by decide) ?_
            exact ih5 (i + 1) (z + 0) _ _ ls (by omega) (by simp [cF, c2, c3, c4] at hR ⊢; omega) G (lv_sub hl [3, 4, 5, 1, 0] rfl)
          · skip
            refine lv_iconst (v := 1) hx hb dX4_roomFor_46 (by decide) ?_
            refine lv_goto (tgt := 51) hx hb dX4_roomFor_47 (by decide) ?_
            refine n_iadd z 1 rfl rfl hx hb dX4_roomFor_51 ?_
            refine lv_istore_n (lv' := [(3, .int (nI (z + 1))), (5, .int (blockM st (i / 4))), (0, .ref (a 0)), (1, .int h), (2, .int (nI port)), (4, .int (nI i))]) hx hb dX4_roomFor_52 rfl hl (by decide) rfl (fun ls hl => ?_)
            refine lv_iinc (v := nI (i + 1)) (lv' := [(4, .int (nI (i + 1))), (3, .int (nI (z + 1))), (5, .int (blockM st (i / 4))), (0, .ref (a 0)), (1, .int h), (2, .int (nI port))]) hx hb dX4_roomFor_53 hl (k := 5) rfl (nI_inc _) (by decide) rfl (fun ls hl => ?_)
            refine lv_goto (tgt := 5) hx hb dX4_roomFor_56 (by decide) ?_
            exact ih5 (i + 1) (z + 1) _ _ ls (by omega) (by simp [cF, c2, c3, c4] at hR ⊢; omega) G (lv_sub hl [3, 4, 5, 1, 0] rfl)
        · skip
          refine lv_iload hx hb dX4_roomFor_29 (lv_at hl 0 rfl) ?_
          refine lv_bipush (v := (-6)) hx hb dX4_roomFor_31 (by decide) ?_
          refine lv_icmp_ne (tgt := 50) hx hb dX4_roomFor_33 (by decide) (fun c5 => ?_) (fun c5 => ?_)
          · skip
            refine lv_iconst (v := 0) hx hb dX4_roomFor_50 (by decide) ?_
            refine n_iadd z 0 rfl rfl hx hb dX4_roomFor_51 ?_
            refine lv_istore_n (lv' := [(3, .int (nI (z + 0))), (5, .int (blockM st (i / 4))), (0, .ref (a 0)), (1, .int h), (2, .int (nI port)), (4, .int (nI i))]) hx hb dX4_roomFor_52 rfl hl (by decide) rfl (fun ls hl => ?_)
            refine lv_iinc (v := nI (i + 1)) (lv' := [(4, .int (nI (i + 1))), (3, .int (nI (z + 0))), (5, .int (blockM st (i / 4))), (0, .ref (a 0)), (1, .int h), (2, .int (nI port))]) hx hb dX4_roomFor_53 hl (k := 5) rfl (nI_inc _) (by decide) rfl (fun ls hl => ?_)
            refine lv_goto (tgt := 5) hx hb dX4_roomFor_56 (by decide) ?_
            exact ih5 (i + 1) (z + 0) _ _ ls (by omega) (by simp [cF, c2, c3, c5] at hR ⊢; omega) G (lv_sub hl [3, 4, 5, 1, 0] rfl)
          · skip
            refine lv_aload_n hx hb dX4_roomFor_36 rfl (lv_at hl 1 rfl) ?_
            refine lv_iload hx hb dX4_roomFor_37 (lv_at hl 5 rfl) ?_
            refine lv_iload_n hx hb dX4_roomFor_39 rfl (lv_at hl 3 rfl) ?_
            refine g_callV (As := [.int (nI i), .int (nI port)]) (rest := [.int (nI z)]) X kX4_49 (c_X4_fits l E a st w i (by omega) port (by omega)) G 0 rfl rfl ⟨Nat.le_of_ble_eq_true rfl, Nat.le_of_ble_eq_true rfl⟩ ⟨Nat.le_refl _, Nat.le_refl _⟩ rfl hl.1 rfl (Nat.le_of_ble_eq_true rfl) dX4_roomFor_40 (fun H locs G => ?_)
            refine b_ifeq (tgt := 50) hx hb dX4_roomFor_43 (by decide) (fun c6 => ?_) (fun c6 => ?_)
            · skip
              refine lv_iconst (v := 0) hx hb dX4_roomFor_50 (by decide) ?_
              refine n_iadd z 0 rfl rfl hx hb dX4_roomFor_51 ?_
              refine lv_istore_n (lv' := [(3, .int (nI (z + 0))), (5, .int (blockM st (i / 4))), (0, .ref (a 0)), (1, .int h), (2, .int (nI port)), (4, .int (nI i))]) hx hb dX4_roomFor_52 rfl hl (by decide) rfl (fun ls hl => ?_)
              refine lv_iinc (v := nI (i + 1)) (lv' := [(4, .int (nI (i + 1))), (3, .int (nI (z + 0))), (5, .int (blockM st (i / 4))), (0, .ref (a 0)), (1, .int h), (2, .int (nI port))]) hx hb dX4_roomFor_53 hl (k := 5) rfl (nI_inc _) (by decide) rfl (fun ls hl => ?_)
              refine lv_goto (tgt := 5) hx hb dX4_roomFor_56 (by decide) ?_
              exact ih5 (i + 1) (z + 0) _ _ ls (by omega) (by simp [cF, c2, c3, c5, c6] at hR ⊢; omega) G (lv_sub hl [3, 4, 5, 1, 0] rfl)
            · skip
              refine lv_iconst (v := 1) hx hb dX4_roomFor_46 (by decide) ?_
              refine lv_goto (tgt := 51) hx hb dX4_roomFor_47 (by decide) ?_
              refine n_iadd z 1 rfl rfl hx hb dX4_roomFor_51 ?_
              refine lv_istore_n (lv' := [(3, .int (nI (z + 1))), (5, .int (blockM st (i / 4))), (0, .ref (a 0)), (1, .int h), (2, .int (nI port)), (4, .int (nI i))]) hx hb dX4_roomFor_52 rfl hl (by decide) rfl (fun ls hl => ?_)
              refine lv_iinc (v := nI (i + 1)) (lv' := [(4, .int (nI (i + 1))), (3, .int (nI (z + 1))), (5, .int (blockM st (i / 4))), (0, .ref (a 0)), (1, .int h), (2, .int (nI port))]) hx hb dX4_roomFor_53 hl (k := 5) rfl (nI_inc _) (by decide) rfl (fun ls hl => ?_)
              refine lv_goto (tgt := 5) hx hb dX4_roomFor_56 (by decide) ?_
              exact ih5 (i + 1) (z + 1) _ _ ls (by omega) (by simp [cF, c2, c3, c5, c6] at hR ⊢; omega) G (lv_sub hl [3, 4, 5, 1, 0] rfl)
  exact LP5 16 0 0 _ _ ls (by omega) (by simp [roomM]) G (lv_sub hl [2, 3, 4, 1, 0] rfl)
set_option maxHeartbeats 1000000 in
set_option maxRecDepth 100000 in
theorem c_X4_host (l : Launch) (E : EE) (a : Nat → Nat) (st : St) (w : va_W) (h : Int32) (what : Int32) : Ct l yX4_host cX4_host 3 (some .int) 3 E [.ref (a 0), .int h, .int what] (wM E a st w) (mHost st h what) (wM E a st w) := by
  refine Ct_mk RX4 rfl (by decide +kernel) (Nat.le_of_ble_eq_true rfl) ?_
  intro p e s m below meth c A ls X hr G hl
  have hl : lv_has ls 3 [(0, .ref (a 0)), (1, .int h), (2, .int what)] := hl
  obtain ⟨hx, hb, hml, hown, hts, hK, hA, hlocks⟩ := id X
  refine lv_iload_n hx hb dX4_host_0 rfl (lv_at hl 1 rfl) ?_
  refine g_callS (As := [.int h]) (rest := []) X kX4_68 (c_X4_isHost l E _ h) G ⟨Nat.le_of_ble_eq_true rfl, Nat.le_of_ble_eq_true rfl⟩ ⟨Nat.le_refl _, Nat.le_refl _⟩ rfl hl.1 rfl (Nat.le_of_ble_eq_true rfl) dX4_host_1 (fun H locs G => ?_)
  refine b_ifne (tgt := 9) hx hb dX4_host_4 (by decide) (fun c1 => ?_) (fun c1 => ?_)
  · skip
    obtain ⟨hN, hhN, rfl⟩ := rg_nat (by decide) c1
    have ehN : cl (nI hN) = hN := cl_nI (by omega)
    refine lv_iload_n hx hb dX4_host_9 rfl (lv_at hl 2 rfl) ?_
    by_cases c2 : what = 0
    · skip
      refine lv_tableIn (off := 30) (tgt := 40) hx hb dX4_host_10 (by rw [c2]; decide) (by rw [c2]; decide) (by rw [c2]; rfl) (by decide) ?_
      subst c2
      refine lv_aload_n hx hb dX4_host_40 rfl (lv_at hl 0 rfl) ?_
      refine lv_iload_n hx hb dX4_host_41 rfl (lv_at hl 1 rfl) ?_
      refine g_callV (As := [.int (nI hN)]) (rest := []) X kX4_121 (c_X4_bindingsOf l E a st w (nI hN)) G 0 rfl rfl ⟨Nat.le_of_ble_eq_true rfl, Nat.le_of_ble_eq_true rfl⟩ ⟨Nat.le_refl _, Nat.le_refl _⟩ rfl hl.1 rfl (Nat.le_of_ble_eq_true rfl) dX4_host_42 (fun H locs G => ?_)
      exact g_iret X hr G rfl (by simp [mHost, c1, ehN]) dX4_host_45
    by_cases c3 : what = 1
    · skip
      refine lv_tableIn (off := 36) (tgt := 46) hx hb dX4_host_10 (by rw [c3]; decide) (by rw [c3]; decide) (by rw [c3]; rfl) (by decide) ?_
      subst c3
      refine lv_aload_n hx hb dX4_host_46 rfl (lv_at hl 0 rfl) ?_
      refine lv_iload_n hx hb dX4_host_47 rfl (lv_at hl 1 rfl) ?_
      refine g_callV (As := [.int (nI hN)]) (rest := []) X kX4_124 (c_X4_blocksOf l E a st w (nI hN)) G 0 rfl rfl ⟨Nat.le_of_ble_eq_true rfl, Nat.le_of_ble_eq_true rfl⟩ ⟨Nat.le_refl _, Nat.le_refl _⟩ rfl hl.1 rfl (Nat.le_of_ble_eq_true rfl) dX4_host_48 (fun H locs G => ?_)
      exact g_iret X hr G rfl (by simp [mHost, c1, ehN]) dX4_host_51
    by_cases c4 : what = 2
    · skip
      refine lv_tableIn (off := 42) (tgt := 52) hx hb dX4_host_10 (by rw [c4]; decide) (by rw [c4]; decide) (by rw [c4]; rfl) (by decide) ?_
      subst c4
      refine lv_aload_n hx hb dX4_host_52 rfl (lv_at hl 0 rfl) ?_
      refine lv_iload_n hx hb dX4_host_53 rfl (lv_at hl 1 rfl) ?_
      refine lv_iload_n hx hb dX4_host_54 rfl (lv_at hl 2 rfl) ?_
      refine lv_iconst (v := 2) hx hb dX4_host_55 (by decide) ?_
      refine n_isub 2 2 rfl rfl (by omega) hx hb dX4_host_56 ?_
      refine g_callV (As := [.int (nI hN), .int (nI (2 - 2))]) (rest := []) X kX4_127 (c_X4_roomFor l E a st w (nI hN) (2 - 2) (by omega)) G 0 rfl rfl ⟨Nat.le_of_ble_eq_true rfl, Nat.le_of_ble_eq_true rfl⟩ ⟨Nat.le_refl _, Nat.le_refl _⟩ rfl hl.1 rfl (Nat.le_of_ble_eq_true rfl) dX4_host_57 (fun H locs G => ?_)
      exact g_iret X hr G rfl (by simp [mHost, c1, ehN]) dX4_host_60
    by_cases c5 : what = 3
    · skip
      refine lv_tableIn (off := 42) (tgt := 52) hx hb dX4_host_10 (by rw [c5]; decide) (by rw [c5]; decide) (by rw [c5]; rfl) (by decide) ?_
      subst c5
      refine lv_aload_n hx hb dX4_host_52 rfl (lv_at hl 0 rfl) ?_
      refine lv_iload_n hx hb dX4_host_53 rfl (lv_at hl 1 rfl) ?_
      refine lv_iload_n hx hb dX4_host_54 rfl (lv_at hl 2 rfl) ?_
      refine lv_iconst (v := 2) hx hb dX4_host_55 (by decide) ?_
      refine n_isub 3 2 rfl rfl (by omega) hx hb dX4_host_56 ?_
      refine g_callV (As := [.int (nI hN), .int (nI (3 - 2))]) (rest := []) X kX4_127 (c_X4_roomFor l E a st w (nI hN) (3 - 2) (by omega)) G 0 rfl rfl ⟨Nat.le_of_ble_eq_true rfl, Nat.le_of_ble_eq_true rfl⟩ ⟨Nat.le_refl _, Nat.le_refl _⟩ rfl hl.1 rfl (Nat.le_of_ble_eq_true rfl) dX4_host_57 (fun H locs G => ?_)
      exact g_iret X hr G rfl (by simp [mHost, c1, ehN]) dX4_host_60
    have c6 : what.toInt < 0 ∨ 3 < what.toInt := tb_out3 c2 c3 c4 c5
    refine lv_tableOut (tgt := 61) hx hb dX4_host_10 c6 (by decide) ?_
    refine lv_bipush (v := (-2)) hx hb dX4_host_61 (by decide) ?_
    exact g_iret X hr G rfl (by simp [mHost, c1, ehN, c2, c3, c4, c5]) dX4_host_63
  · skip
    refine lv_iconst (v := (-1)) hx hb dX4_host_7 (by decide) ?_
    exact g_iret X hr G rfl (by simp [mHost, c1]) dX4_host_8
set_option maxHeartbeats 1000000 in
set_option maxRecDepth 100000 in
theorem c_X4_soon (l : Launch) (E : EE) (a : Nat → Nat) (st : St) (w : va_W) (hI : isOk st) : Ct l yX4_soon cX4_soon 4 (some .int) 1 E [.ref (a 0)] (wM E a st w) (soonF st 16 0 (-6)) (wM E a st w) := by
  refine Ct_mk RX4 rfl (by decide +kernel) (Nat.le_of_ble_eq_true rfl) ?_
  intro p e s m below meth c A ls X hr G hl
  have hl : lv_has ls 4 [(0, .ref (a 0))] := hl
  obtain ⟨hx, hb, hml, hown, hts, hK, hA, hlocks⟩ := id X
  refine lv_bipush (v := (-6)) hx hb dX4_soon_0 (by decide) ?_
  refine lv_istore_n (lv' := [(1, .int (-6)), (0, .ref (a 0))]) hx hb dX4_soon_2 rfl hl (by decide) rfl (fun ls hl => ?_)
  refine lv_iconst (v := 0) hx hb dX4_soon_3 (by decide) ?_
  refine lv_istore_n (lv' := [(2, .int 0), (1, .int (-6)), (0, .ref (a 0))]) hx hb dX4_soon_4 rfl hl (by decide) rfl (fun ls hl => ?_)
  have LP5 : ∀ (n i : Nat) (x : Int32) (H : Heap) (locs : List Loc) (ls : Array Slot), (i + n = 16) → (soonF st n i x = soonF st 16 0 (-6)) → Gw E A s (wM E a st w) H locs → lv_has ls 4 [(0, .ref (a 0)), (1, .int x), (2, .int (nI i))] → W p l e (rmD 1) s m ([.ref (a 0)] : List Value).toArray below meth c H locs 0 0 (MQ below (CtQ E A (soonF st 16 0 (-6)) (wM E a st w)) ([.ref (a 0)] : List Value).toArray s 0 0 A) (F0 m 5 ls []) := by
    intro n
    induction n with
    | zero =>
      intro i x H locs ls hi hR G hl
      refine lv_iload_n hx hb dX4_soon_5 rfl (lv_at hl 2 rfl) ?_
      refine lv_bipush (v := 16) hx hb dX4_soon_6 (by decide) ?_
      refine n_cmp_ge (tgt := 54) i 16 rfl rfl (by omega) (by omega) hx hb dX4_soon_8 (by decide) (fun c1 => ?_) (fun c1 => ?_)
      · skip
        refine lv_iload_n hx hb dX4_soon_54 rfl (lv_at hl 1 rfl) ?_
        exact g_iret X hr G rfl (by rw [← hR]; rfl) dX4_soon_55
      · skip
        exact absurd c1 (by omega)
    | succ n ih5 =>
      intro i x H locs ls hi hR G hl
      refine lv_iload_n hx hb dX4_soon_5 rfl (lv_at hl 2 rfl) ?_
      refine lv_bipush (v := 16) hx hb dX4_soon_6 (by decide) ?_
      refine n_cmp_ge (tgt := 54) i 16 rfl rfl (by omega) (by omega) hx hb dX4_soon_8 (by decide) (fun c2 => ?_) (fun c2 => ?_)
      · skip
        exact absurd c2 (by omega)
      · skip
        refine lv_aload_n hx hb dX4_soon_11 rfl (lv_at hl 0 rfl) ?_
        refine lv_iload_n hx hb dX4_soon_12 rfl (lv_at hl 2 rfl) ?_
        refine g_callV (As := [.int (nI i)]) (rest := []) X kX4_24 (c_X4_isLent l E a st w i (by omega)) G 0 rfl rfl ⟨Nat.le_of_ble_eq_true rfl, Nat.le_of_ble_eq_true rfl⟩ ⟨Nat.le_refl _, Nat.le_refl _⟩ rfl hl.1 rfl (Nat.le_of_ble_eq_true rfl) dX4_soon_13 (fun H locs G => ?_)
        refine b_ifeq (tgt := 48) hx hb dX4_soon_16 (by decide) (fun c3 => ?_) (fun c3 => ?_)
        · skip
          refine lv_iinc (v := nI (i + 1)) (lv' := [(2, .int (nI (i + 1))), (0, .ref (a 0)), (1, .int x)]) hx hb dX4_soon_48 hl (k := 2) rfl (nI_inc _) (by decide) rfl (fun ls hl => ?_)
          refine lv_goto (tgt := 5) hx hb dX4_soon_51 (by decide) ?_
          exact ih5 (i + 1) x _ _ ls (by omega) (by rw [← hR]; simp [soonF, c2, c3]) G (lv_sub hl [1, 2, 0] rfl)
        · skip
          refine lv_aload_n hx hb dX4_soon_19 rfl (lv_at hl 0 rfl) ?_
          refine lv_iload_n hx hb dX4_soon_20 rfl (lv_at hl 2 rfl) ?_
          refine g_callV (As := [.int (nI i)]) (rest := []) X kX4_28 (c_X4_endOf l E a st w i (by omega) hI) G 0 rfl rfl ⟨Nat.le_of_ble_eq_true rfl, Nat.le_of_ble_eq_true rfl⟩ ⟨Nat.le_refl _, Nat.le_refl _⟩ rfl hl.1 rfl (Nat.le_of_ble_eq_true rfl) dX4_soon_21 (fun H locs G => ?_)
          refine lv_aload_n hx hb dX4_soon_24 rfl (lv_at hl 0 rfl) ?_
          refine g_get X G fX4_7 0 rfl rfl dX4_soon_25 ?_
          refine lv_bipush (v := 6) hx hb dX4_soon_28 (by decide) ?_
          refine g_iald (j := 6) X G 1 rfl rfl (by omega) (by decide) dX4_soon_30 ?_
          refine lv_isub hx hb dX4_soon_31 ?_
          refine lv_istore_n (lv' := [(3, .int ((endOfM st i) - (st 0 6))), (0, .ref (a 0)), (1, .int x), (2, .int (nI i))]) hx hb dX4_soon_32 rfl hl (by decide) rfl (fun ls hl => ?_)
          refine lv_iload_n hx hb dX4_soon_33 rfl (lv_at hl 2 rfl) ?_
          refine lv_if_lt (tgt := 42) hx hb dX4_soon_34 (by decide) (fun c4 => ?_) (fun c4 => ?_)
          · skip
            refine lv_iload_n hx hb dX4_soon_42 rfl (lv_at hl 0 rfl) ?_
            refine lv_goto (tgt := 47) hx hb dX4_soon_43 (by decide) ?_
            refine lv_istore_n (lv' := [(1, .int ((endOfM st i) - (st 0 6))), (3, .int ((endOfM st i) - (st 0 6))), (0, .ref (a 0)), (2, .int (nI i))]) hx hb dX4_soon_47 rfl hl (by decide) rfl (fun ls hl => ?_)
            refine lv_iinc (v := nI (i + 1)) (lv' := [(2, .int (nI (i + 1))), (1, .int ((endOfM st i) - (st 0 6))), (3, .int ((endOfM st i) - (st 0 6))), (0, .ref (a 0))]) hx hb dX4_soon_48 hl (k := 3) rfl (nI_inc _) (by decide) rfl (fun ls hl => ?_)
            refine lv_goto (tgt := 5) hx hb dX4_soon_51 (by decide) ?_
            exact ih5 (i + 1) ((endOfM st i) - (st 0 6)) _ _ ls (by omega) (by rw [← hR]; simp [soonF, c2, c3, c4]) G (lv_sub hl [3, 1, 0] rfl)
          · skip
            refine lv_iload_n hx hb dX4_soon_37 rfl (lv_at hl 0 rfl) ?_
            refine lv_iload_n hx hb dX4_soon_38 rfl (lv_at hl 2 rfl) ?_
            refine lv_icmp_ge (tgt := 46) hx hb dX4_soon_39 (by decide) (fun c5 => ?_) (fun c5 => ?_)
            · skip
              refine lv_iload_n hx hb dX4_soon_46 rfl (lv_at hl 2 rfl) ?_
              refine lv_istore_n (lv' := [(1, .int x), (3, .int ((endOfM st i) - (st 0 6))), (0, .ref (a 0)), (2, .int (nI i))]) hx hb dX4_soon_47 rfl hl (by decide) rfl (fun ls hl => ?_)
              refine lv_iinc (v := nI (i + 1)) (lv' := [(2, .int (nI (i + 1))), (1, .int x), (3, .int ((endOfM st i) - (st 0 6))), (0, .ref (a 0))]) hx hb dX4_soon_48 hl (k := 3) rfl (nI_inc _) (by decide) rfl (fun ls hl => ?_)
              refine lv_goto (tgt := 5) hx hb dX4_soon_51 (by decide) ?_
              exact ih5 (i + 1) x _ _ ls (by omega) (by rw [← hR]; simp [soonF, c2, c3, c4, c5]) G (lv_sub hl [3, 1, 0] rfl)
            · skip
              refine lv_iload_n hx hb dX4_soon_42 rfl (lv_at hl 0 rfl) ?_
              refine lv_goto (tgt := 47) hx hb dX4_soon_43 (by decide) ?_
              refine lv_istore_n (lv' := [(1, .int ((endOfM st i) - (st 0 6))), (3, .int ((endOfM st i) - (st 0 6))), (0, .ref (a 0)), (2, .int (nI i))]) hx hb dX4_soon_47 rfl hl (by decide) rfl (fun ls hl => ?_)
              refine lv_iinc (v := nI (i + 1)) (lv' := [(2, .int (nI (i + 1))), (1, .int ((endOfM st i) - (st 0 6))), (3, .int ((endOfM st i) - (st 0 6))), (0, .ref (a 0))]) hx hb dX4_soon_48 hl (k := 3) rfl (nI_inc _) (by decide) rfl (fun ls hl => ?_)
              refine lv_goto (tgt := 5) hx hb dX4_soon_51 (by decide) ?_
              exact ih5 (i + 1) ((endOfM st i) - (st 0 6)) _ _ ls (by omega) (by rw [← hR]; simp [soonF, c2, c3, c4, c5]) G (lv_sub hl [3, 1, 0] rfl)
  exact LP5 16 0 (-6) _ _ ls (by omega) rfl G (lv_sub hl [2, 1, 0] rfl)
set_option maxHeartbeats 1000000 in
set_option maxRecDepth 100000 in
theorem c_X4_image (l : Launch) (E : EE) (a : Nat → Nat) (st : St) (w : va_W) (k : Int32) : Ct l yX4_image cX4_image 3 (some .int) 1 E [.ref (a 0), .int k] (wM E a st w) ((mImage st k).1) (wM E a ((mImage st k).2) w) := by
  refine Ct_mk RX4 rfl (by decide +kernel) (Nat.le_of_ble_eq_true rfl) ?_
  intro p e s m below meth c A ls X hr G hl
  have hl : lv_has ls 3 [(0, .ref (a 0)), (1, .int k)] := hl
  obtain ⟨hx, hb, hml, hown, hts, hK, hA, hlocks⟩ := id X
  refine lv_iload_n hx hb dX4_image_0 rfl (lv_at hl 1 rfl) ?_
  refine lv_iconst (v := 0) hx hb dX4_image_1 (by decide) ?_
  refine lv_iconst (v := 1) hx hb dX4_image_2 (by decide) ?_
  refine g_callS (As := [.int k, .int 0, .int 1]) (rest := []) X kX4_20 (c_X4_isFrom l E _ k 0 1) G ⟨Nat.le_of_ble_eq_true rfl, Nat.le_of_ble_eq_true rfl⟩ ⟨Nat.le_refl _, Nat.le_refl _⟩ rfl hl.1 rfl (Nat.le_of_ble_eq_true rfl) dX4_image_3 (fun H locs G => ?_)
  refine b_ifne (tgt := 12) hx hb dX4_image_6 (by decide) (fun c1 => ?_) (fun c1 => ?_)
  · skip
    obtain ⟨kN, gkN, hkN, rfl⟩ := frB_nat 0 1 (by decide) (by decide) rfl rfl c1
    have ekN : cl (nI kN) = kN := cl_nI (by omega)
    refine lv_iconst (v := 0) hx hb dX4_image_12 (by decide) ?_
    refine lv_istore_n (lv' := [(2, .int 0), (0, .ref (a 0)), (1, .int (nI kN))]) hx hb dX4_image_13 rfl hl (by decide) rfl (fun ls hl => ?_)
    have LP14 : ∀ (n i : Nat) (sx : St) (H : Heap) (locs : List Loc) (ls : Array Slot), (i + n = 503) → (iF (imgS kN) n i sx = iF (imgS kN) 503 0 st) → Gw E A s (wM E a sx w) H locs → lv_has ls 3 [(0, .ref (a 0)), (1, .int (nI kN)), (2, .int (nI i))] → W p l e (rmD 1) s m ([.ref (a 0), .int (nI kN)] : List Value).toArray below meth c H locs 0 0 (MQ below (CtQ E A ((mImage st (nI kN)).1) (wM E a ((mImage st (nI kN)).2) w)) ([.ref (a 0), .int (nI kN)] : List Value).toArray s 0 0 A) (F0 m 14 ls []) := by
      intro n
      induction n with
      | zero =>
        intro i sx H locs ls hi hR G hl
        refine lv_iload_n hx hb dX4_image_14 rfl (lv_at hl 2 rfl) ?_
        refine lv_sipush (v := 503) hx hb dX4_image_15 (by decide) ?_
        refine n_cmp_ge (tgt := 45) i 503 rfl rfl (by omega) (by omega) hx hb dX4_image_18 (by decide) (fun c2 => ?_) (fun c2 => ?_)
        · skip
          refine lv_aload_n hx hb dX4_image_45 rfl (lv_at hl 0 rfl) ?_
          refine g_get X G fX4_16 0 rfl rfl dX4_image_46 ?_
          refine lv_iload_n hx hb dX4_image_49 rfl (lv_at hl 1 rfl) ?_
          refine lv_iconst (v := 1) hx hb dX4_image_50 (by decide) ?_
          refine g_zast1 (j := kN) X G 3 rfl rfl (by omega) (by decide) dX4_image_51 (fun H locs G => ?_)
          have G : Gw E A s (wM E a (sU sx 2 kN 1) w) H locs := G
          refine lv_iconst (v := 1) hx hb dX4_image_52 (by decide) ?_
          exact g_iret X hr G (congrArg (fun z => wM E a z w) (by simp [mImage, c1, ekN, c2]; rw [← hR]; rfl)) (by simp [mImage, c1, ekN, c2]) dX4_image_53
        · skip
          exact absurd c2 (by omega)
      | succ n ih14 =>
        intro i sx H locs ls hi hR G hl
        refine lv_iload_n hx hb dX4_image_14 rfl (lv_at hl 2 rfl) ?_
        refine lv_sipush (v := 503) hx hb dX4_image_15 (by decide) ?_
        refine n_cmp_ge (tgt := 45) i 503 rfl rfl (by omega) (by omega) hx hb dX4_image_18 (by decide) (fun c3 => ?_) (fun c3 => ?_)
        · skip
          exact absurd c3 (by omega)
        · skip
          refine lv_aload_n hx hb dX4_image_21 rfl (lv_at hl 0 rfl) ?_
          refine g_get X G fX4_13 0 rfl rfl dX4_image_22 ?_
          refine lv_sipush (v := 503) hx hb dX4_image_25 (by decide) ?_
          refine lv_iload_n hx hb dX4_image_28 rfl (lv_at hl 1 rfl) ?_
          refine n_imul 503 kN rfl rfl hx hb dX4_image_29 ?_
          refine lv_iload_n hx hb dX4_image_30 rfl (lv_at hl 2 rfl) ?_
          refine n_iadd (503 * kN) i rfl rfl hx hb dX4_image_31 ?_
          refine lv_aload_n hx hb dX4_image_32 rfl (lv_at hl 0 rfl) ?_
          refine g_get X G fX4_7 0 rfl rfl dX4_image_33 ?_
          refine lv_iload_n hx hb dX4_image_36 rfl (lv_at hl 2 rfl) ?_
          refine g_iald (j := i) X G 1 rfl rfl (by omega) (by decide) dX4_image_37 ?_
          refine g_iast (j := (503 * kN) + i) X G 2 rfl rfl (by omega) (by decide) dX4_image_38 (fun H locs G => ?_)
          have G : Gw E A s (wM E a (sU sx 1 ((503 * kN) + i) (sx 0 i)) w) H locs := G
          refine lv_iinc (v := nI (i + 1)) (lv' := [(2, .int (nI (i + 1))), (0, .ref (a 0)), (1, .int (nI kN))]) hx hb dX4_image_39 hl (k := 2) rfl (nI_inc _) (by decide) rfl (fun ls hl => ?_)
          refine lv_goto (tgt := 14) hx hb dX4_image_42 (by decide) ?_
          exact ih14 (i + 1) (sU sx 1 ((503 * kN) + i) (sx 0 i)) _ _ ls (by omega) (by rw [← hR]; rfl) G (lv_sub hl [1, 2, 0] rfl)
    exact LP14 503 0 st _ _ ls (by omega) rfl G (lv_sub hl [1, 2, 0] rfl)
  · skip
    refine lv_bipush (v := (-2)) hx hb dX4_image_9 (by decide) ?_
    exact g_iret X hr G (congrArg (fun z => wM E a z w) (by simp [mImage, c1])) (by simp [mImage, c1]) dX4_image_11
set_option maxHeartbeats 1000000 in
set_option maxRecDepth 100000 in
theorem c_X4_restore (l : Launch) (E : EE) (a : Nat → Nat) (st : St) (w : va_W) (k : Int32) : Ct l yX4_restore cX4_restore 3 (some .int) 1 E [.ref (a 0), .int k] (wM E a st w) ((mRestore st k).1) (wM E a ((mRestore st k).2) w) := by
  refine Ct_mk RX4 rfl (by decide +kernel) (Nat.le_of_ble_eq_true rfl) ?_
  intro p e s m below meth c A ls X hr G hl
  have hl : lv_has ls 3 [(0, .ref (a 0)), (1, .int k)] := hl
  obtain ⟨hx, hb, hml, hown, hts, hK, hA, hlocks⟩ := id X
  refine lv_iload_n hx hb dX4_restore_0 rfl (lv_at hl 1 rfl) ?_
  refine lv_iconst (v := 0) hx hb dX4_restore_1 (by decide) ?_
  refine lv_iconst (v := 1) hx hb dX4_restore_2 (by decide) ?_
  refine g_callS (As := [.int k, .int 0, .int 1]) (rest := []) X kX4_20 (c_X4_isFrom l E _ k 0 1) G ⟨Nat.le_of_ble_eq_true rfl, Nat.le_of_ble_eq_true rfl⟩ ⟨Nat.le_refl _, Nat.le_refl _⟩ rfl hl.1 rfl (Nat.le_of_ble_eq_true rfl) dX4_restore_3 (fun H locs G => ?_)
  refine b_ifne (tgt := 12) hx hb dX4_restore_6 (by decide) (fun c1 => ?_) (fun c1 => ?_)
  · skip
    obtain ⟨kN, gkN, hkN, rfl⟩ := frB_nat 0 1 (by decide) (by decide) rfl rfl c1
    have ekN : cl (nI kN) = kN := cl_nI (by omega)
    refine lv_aload_n hx hb dX4_restore_12 rfl (lv_at hl 0 rfl) ?_
    refine g_get X G fX4_16 0 rfl rfl dX4_restore_13 ?_
    refine lv_iload_n hx hb dX4_restore_16 rfl (lv_at hl 1 rfl) ?_
    refine g_zald (j := kN) X G 3 rfl rfl (by omega) (by decide) dX4_restore_17 ?_
    refine lv_if_ne (tgt := 24) hx hb dX4_restore_18 (by decide) (fun c2 => ?_) (fun c2 => ?_)
    · skip
      refine lv_iconst (v := 0) hx hb dX4_restore_24 (by decide) ?_
      refine lv_istore_n (lv' := [(2, .int 0), (0, .ref (a 0)), (1, .int (nI kN))]) hx hb dX4_restore_25 rfl hl (by decide) rfl (fun ls hl => ?_)
      have LP26 : ∀ (n i : Nat) (sx : St) (H : Heap) (locs : List Loc) (ls : Array Slot), (i + n = 503) → (iF (resS kN) n i sx = iF (resS kN) 503 0 st) → Gw E A s (wM E a sx w) H locs → lv_has ls 3 [(0, .ref (a 0)), (1, .int (nI kN)), (2, .int (nI i))] → W p l e (rmD 1) s m ([.ref (a 0), .int (nI kN)] : List Value).toArray below meth c H locs 0 0 (MQ below (CtQ E A ((mRestore st (nI kN)).1) (wM E a ((mRestore st (nI kN)).2) w)) ([.ref (a 0), .int (nI kN)] : List Value).toArray s 0 0 A) (F0 m 26 ls []) := by
        intro n
        induction n with
        | zero =>
          intro i sx H locs ls hi hR G hl
          refine lv_iload_n hx hb dX4_restore_26 rfl (lv_at hl 2 rfl) ?_
          refine lv_sipush (v := 503) hx hb dX4_restore_27 (by decide) ?_
          refine n_cmp_ge (tgt := 57) i 503 rfl rfl (by omega) (by omega) hx hb dX4_restore_30 (by decide) (fun c3 => ?_) (fun c3 => ?_)
          · skip
            refine lv_iconst (v := 1) hx hb dX4_restore_57 (by decide) ?_
            exact g_iret X hr G (congrArg (fun z => wM E a z w) (by simp [mRestore, c1, ekN, c2, c3]; rw [← hR]; rfl)) (by simp [mRestore, c1, ekN, c2, c3]) dX4_restore_58
          · skip
            exact absurd c3 (by omega)
        | succ n ih26 =>
          intro i sx H locs ls hi hR G hl
          refine lv_iload_n hx hb dX4_restore_26 rfl (lv_at hl 2 rfl) ?_
          refine lv_sipush (v := 503) hx hb dX4_restore_27 (by decide) ?_
          refine n_cmp_ge (tgt := 57) i 503 rfl rfl (by omega) (by omega) hx hb dX4_restore_30 (by decide) (fun c4 => ?_) (fun c4 => ?_)
          · skip
            exact absurd c4 (by omega)
          · skip
            refine lv_aload_n hx hb dX4_restore_33 rfl (lv_at hl 0 rfl) ?_
            refine g_get X G fX4_7 0 rfl rfl dX4_restore_34 ?_
            refine lv_iload_n hx hb dX4_restore_37 rfl (lv_at hl 2 rfl) ?_
            refine lv_aload_n hx hb dX4_restore_38 rfl (lv_at hl 0 rfl) ?_
            refine g_get X G fX4_13 0 rfl rfl dX4_restore_39 ?_
            refine lv_sipush (v := 503) hx hb dX4_restore_42 (by decide) ?_
            refine lv_iload_n hx hb dX4_restore_45 rfl (lv_at hl 1 rfl) ?_
            refine n_imul 503 kN rfl rfl hx hb dX4_restore_46 ?_
            refine lv_iload_n hx hb dX4_restore_47 rfl (lv_at hl 2 rfl) ?_
            refine n_iadd (503 * kN) i rfl rfl hx hb dX4_restore_48 ?_
            refine g_iald (j := (503 * kN) + i) X G 2 rfl rfl (by omega) (by decide) dX4_restore_49 ?_
            refine g_iast (j := i) X G 1 rfl rfl (by omega) (by decide) dX4_restore_50 (fun H locs G => ?_)
            have G : Gw E A s (wM E a (sU sx 0 i (sx 1 ((503 * kN) + i))) w) H locs := G
            refine lv_iinc (v := nI (i + 1)) (lv' := [(2, .int (nI (i + 1))), (0, .ref (a 0)), (1, .int (nI kN))]) hx hb dX4_restore_51 hl (k := 2) rfl (nI_inc _) (by decide) rfl (fun ls hl => ?_)
            refine lv_goto (tgt := 26) hx hb dX4_restore_54 (by decide) ?_
            exact ih26 (i + 1) (sU sx 0 i (sx 1 ((503 * kN) + i))) _ _ ls (by omega) (by rw [← hR]; rfl) G (lv_sub hl [1, 2, 0] rfl)
      exact LP26 503 0 st _ _ ls (by omega) rfl G (lv_sub hl [1, 2, 0] rfl)
    · skip
      refine lv_bipush (v := (-3)) hx hb dX4_restore_21 (by decide) ?_
      exact g_iret X hr G (congrArg (fun z => wM E a z w) (by simp [mRestore, c1, ekN, c2])) (by simp [mRestore, c1, ekN, c2]) dX4_restore_23
  · skip
    refine lv_bipush (v := (-2)) hx hb dX4_restore_9 (by decide) ?_
    exact g_iret X hr G (congrArg (fun z => wM E a z w) (by simp [mRestore, c1])) (by simp [mRestore, c1]) dX4_restore_11
set_option maxHeartbeats 1000000 in
set_option maxRecDepth 100000 in
theorem c_X4_knownMany (l : Launch) (E : EE) (a : Nat → Nat) (st : St) (w : va_W) : Ct l yX4_knownMany cX4_knownMany 3 (some .int) 1 E [.ref (a 0)] (wM E a st w) (nI (knownManyM st)) (wM E a st w) := by
  refine Ct_mk RX4 rfl (by decide +kernel) (Nat.le_of_ble_eq_true rfl) ?_
  intro p e s m below meth c A ls X hr G hl
  have hl : lv_has ls 3 [(0, .ref (a 0))] := hl
  obtain ⟨hx, hb, hml, hown, hts, hK, hA, hlocks⟩ := id X
  refine lv_iconst (v := 0) hx hb dX4_knownMany_0 (by decide) ?_
  refine lv_istore_n (lv' := [(1, .int 0), (0, .ref (a 0))]) hx hb dX4_knownMany_1 rfl hl (by decide) rfl (fun ls hl => ?_)
  refine lv_iconst (v := 0) hx hb dX4_knownMany_2 (by decide) ?_
  refine lv_istore_n (lv' := [(2, .int 0), (1, .int 0), (0, .ref (a 0))]) hx hb dX4_knownMany_3 rfl hl (by decide) rfl (fun ls hl => ?_)
  have LP4 : ∀ (n i : Nat) (z : Nat) (H : Heap) (locs : List Loc) (ls : Array Slot), (i + n = 32) → (z + cF (knownM st) n i = knownManyM st) → Gw E A s (wM E a st w) H locs → lv_has ls 3 [(0, .ref (a 0)), (1, .int (nI z)), (2, .int (nI i))] → W p l e (rmD 1) s m ([.ref (a 0)] : List Value).toArray below meth c H locs 0 0 (MQ below (CtQ E A (nI (knownManyM st)) (wM E a st w)) ([.ref (a 0)] : List Value).toArray s 0 0 A) (F0 m 4 ls []) := by
    intro n
    induction n with
    | zero =>
      intro i z H locs ls hi hR G hl
      refine lv_iload_n hx hb dX4_knownMany_4 rfl (lv_at hl 2 rfl) ?_
      refine lv_bipush (v := 32) hx hb dX4_knownMany_5 (by decide) ?_
      refine n_cmp_ge (tgt := 32) i 32 rfl rfl (by omega) (by omega) hx hb dX4_knownMany_7 (by decide) (fun c1 => ?_) (fun c1 => ?_)
      · skip
        refine lv_iload_n hx hb dX4_knownMany_32 rfl (lv_at hl 1 rfl) ?_
        exact g_iret X hr G rfl (by rw [← hR]; simp [cF]) dX4_knownMany_33
      · skip
        exact absurd c1 (by omega)
    | succ n ih4 =>
      intro i z H locs ls hi hR G hl
      refine lv_iload_n hx hb dX4_knownMany_4 rfl (lv_at hl 2 rfl) ?_
      refine lv_bipush (v := 32) hx hb dX4_knownMany_5 (by decide) ?_
      refine n_cmp_ge (tgt := 32) i 32 rfl rfl (by omega) (by omega) hx hb dX4_knownMany_7 (by decide) (fun c2 => ?_) (fun c2 => ?_)
      · skip
        exact absurd c2 (by omega)
      · skip
        refine lv_iload_n hx hb dX4_knownMany_10 rfl (lv_at hl 1 rfl) ?_
        refine lv_aload_n hx hb dX4_knownMany_11 rfl (lv_at hl 0 rfl) ?_
        refine lv_iload_n hx hb dX4_knownMany_12 rfl (lv_at hl 2 rfl) ?_
        refine g_callV (As := [.int (nI i)]) (rest := [.int (nI z)]) X kX4_106 (c_X4_isKnown l E a st w i (by omega)) G 0 rfl rfl ⟨Nat.le_of_ble_eq_true rfl, Nat.le_of_ble_eq_true rfl⟩ ⟨Nat.le_refl _, Nat.le_refl _⟩ rfl hl.1 rfl (Nat.le_of_ble_eq_true rfl) dX4_knownMany_13 (fun H locs G => ?_)
        refine b_ifeq (tgt := 23) hx hb dX4_knownMany_16 (by decide) (fun c3 => ?_) (fun c3 => ?_)
        · skip
          refine lv_iconst (v := 0) hx hb dX4_knownMany_23 (by decide) ?_
          refine n_iadd z 0 rfl rfl hx hb dX4_knownMany_24 ?_
          refine lv_istore_n (lv' := [(1, .int (nI (z + 0))), (0, .ref (a 0)), (2, .int (nI i))]) hx hb dX4_knownMany_25 rfl hl (by decide) rfl (fun ls hl => ?_)
          refine lv_iinc (v := nI (i + 1)) (lv' := [(2, .int (nI (i + 1))), (1, .int (nI (z + 0))), (0, .ref (a 0))]) hx hb dX4_knownMany_26 hl (k := 2) rfl (nI_inc _) (by decide) rfl (fun ls hl => ?_)
          refine lv_goto (tgt := 4) hx hb dX4_knownMany_29 (by decide) ?_
          exact ih4 (i + 1) (z + 0) _ _ ls (by omega) (by simp [cF, c2, c3] at hR ⊢; omega) G (lv_sub hl [2, 1, 0] rfl)
        · skip
          refine lv_iconst (v := 1) hx hb dX4_knownMany_19 (by decide) ?_
          refine lv_goto (tgt := 24) hx hb dX4_knownMany_20 (by decide) ?_
          refine n_iadd z 1 rfl rfl hx hb dX4_knownMany_24 ?_
          refine lv_istore_n (lv' := [(1, .int (nI (z + 1))), (0, .ref (a 0)), (2, .int (nI i))]) hx hb dX4_knownMany_25 rfl hl (by decide) rfl (fun ls hl => ?_)
          refine lv_iinc (v := nI (i + 1)) (lv' := [(2, .int (nI (i + 1))), (1, .int (nI (z + 1))), (0, .ref (a 0))]) hx hb dX4_knownMany_26 hl (k := 2) rfl (nI_inc _) (by decide) rfl (fun ls hl => ?_)
          refine lv_goto (tgt := 4) hx hb dX4_knownMany_29 (by decide) ?_
          exact ih4 (i + 1) (z + 1) _ _ ls (by omega) (by simp [cF, c2, c3] at hR ⊢; omega) G (lv_sub hl [2, 1, 0] rfl)
  exact LP4 32 0 0 _ _ ls (by omega) (by simp [knownManyM]) G (lv_sub hl [2, 1, 0] rfl)
set_option maxHeartbeats 1000000 in
set_option maxRecDepth 100000 in
theorem c_X4_lentMany (l : Launch) (E : EE) (a : Nat → Nat) (st : St) (w : va_W) : Ct l yX4_lentMany cX4_lentMany 3 (some .int) 1 E [.ref (a 0)] (wM E a st w) (nI (lentManyM st)) (wM E a st w) := by
  refine Ct_mk RX4 rfl (by decide +kernel) (Nat.le_of_ble_eq_true rfl) ?_
  intro p e s m below meth c A ls X hr G hl
  have hl : lv_has ls 3 [(0, .ref (a 0))] := hl
  obtain ⟨hx, hb, hml, hown, hts, hK, hA, hlocks⟩ := id X
  refine lv_iconst (v := 0) hx hb dX4_lentMany_0 (by decide) ?_
  refine lv_istore_n (lv' := [(1, .int 0), (0, .ref (a 0))]) hx hb dX4_lentMany_1 rfl hl (by decide) rfl (fun ls hl => ?_)
  refine lv_iconst (v := 0) hx hb dX4_lentMany_2 (by decide) ?_
  refine lv_istore_n (lv' := [(2, .int 0), (1, .int 0), (0, .ref (a 0))]) hx hb dX4_lentMany_3 rfl hl (by decide) rfl (fun ls hl => ?_)
  have LP4 : ∀ (n i : Nat) (z : Nat) (H : Heap) (locs : List Loc) (ls : Array Slot), (i + n = 16) → (z + cF (mLent st) n i = lentManyM st) → Gw E A s (wM E a st w) H locs → lv_has ls 3 [(0, .ref (a 0)), (1, .int (nI z)), (2, .int (nI i))] → W p l e (rmD 1) s m ([.ref (a 0)] : List Value).toArray below meth c H locs 0 0 (MQ below (CtQ E A (nI (lentManyM st)) (wM E a st w)) ([.ref (a 0)] : List Value).toArray s 0 0 A) (F0 m 4 ls []) := by
    intro n
    induction n with
    | zero =>
      intro i z H locs ls hi hR G hl
      refine lv_iload_n hx hb dX4_lentMany_4 rfl (lv_at hl 2 rfl) ?_
      refine lv_bipush (v := 16) hx hb dX4_lentMany_5 (by decide) ?_
      refine n_cmp_ge (tgt := 32) i 16 rfl rfl (by omega) (by omega) hx hb dX4_lentMany_7 (by decide) (fun c1 => ?_) (fun c1 => ?_)
      · skip
        refine lv_iload_n hx hb dX4_lentMany_32 rfl (lv_at hl 1 rfl) ?_
        exact g_iret X hr G rfl (by rw [← hR]; simp [cF]) dX4_lentMany_33
      · skip
        exact absurd c1 (by omega)
    | succ n ih4 =>
      intro i z H locs ls hi hR G hl
      refine lv_iload_n hx hb dX4_lentMany_4 rfl (lv_at hl 2 rfl) ?_
      refine lv_bipush (v := 16) hx hb dX4_lentMany_5 (by decide) ?_
      refine n_cmp_ge (tgt := 32) i 16 rfl rfl (by omega) (by omega) hx hb dX4_lentMany_7 (by decide) (fun c2 => ?_) (fun c2 => ?_)
      · skip
        exact absurd c2 (by omega)
      · skip
        refine lv_iload_n hx hb dX4_lentMany_10 rfl (lv_at hl 1 rfl) ?_
        refine lv_aload_n hx hb dX4_lentMany_11 rfl (lv_at hl 0 rfl) ?_
        refine lv_iload_n hx hb dX4_lentMany_12 rfl (lv_at hl 2 rfl) ?_
        refine g_callV (As := [.int (nI i)]) (rest := [.int (nI z)]) X kX4_24 (c_X4_isLent l E a st w i (by omega)) G 0 rfl rfl ⟨Nat.le_of_ble_eq_true rfl, Nat.le_of_ble_eq_true rfl⟩ ⟨Nat.le_refl _, Nat.le_refl _⟩ rfl hl.1 rfl (Nat.le_of_ble_eq_true rfl) dX4_lentMany_13 (fun H locs G => ?_)
        refine b_ifeq (tgt := 23) hx hb dX4_lentMany_16 (by decide) (fun c3 => ?_) (fun c3 => ?_)
        · skip
          refine lv_iconst (v := 0) hx hb dX4_lentMany_23 (by decide) ?_
          refine n_iadd z 0 rfl rfl hx hb dX4_lentMany_24 ?_
          refine lv_istore_n (lv' := [(1, .int (nI (z + 0))), (0, .ref (a 0)), (2, .int (nI i))]) hx hb dX4_lentMany_25 rfl hl (by decide) rfl (fun ls hl => ?_)
          refine lv_iinc (v := nI (i + 1)) (lv' := [(2, .int (nI (i + 1))), (1, .int (nI (z + 0))), (0, .ref (a 0))]) hx hb dX4_lentMany_26 hl (k := 2) rfl (nI_inc _) (by decide) rfl (fun ls hl => ?_)
          refine lv_goto (tgt := 4) hx hb dX4_lentMany_29 (by decide) ?_
          exact ih4 (i + 1) (z + 0) _ _ ls (by omega) (by simp [cF, c2, c3] at hR ⊢; omega) G (lv_sub hl [2, 1, 0] rfl)
        · skip
          refine lv_iconst (v := 1) hx hb dX4_lentMany_19 (by decide) ?_
          refine lv_goto (tgt := 24) hx hb dX4_lentMany_20 (by decide) ?_
          refine n_iadd z 1 rfl rfl hx hb dX4_lentMany_24 ?_
          refine lv_istore_n (lv' := [(1, .int (nI (z + 1))), (0, .ref (a 0)), (2, .int (nI i))]) hx hb dX4_lentMany_25 rfl hl (by decide) rfl (fun ls hl => ?_)
          refine lv_iinc (v := nI (i + 1)) (lv' := [(2, .int (nI (i + 1))), (1, .int (nI (z + 1))), (0, .ref (a 0))]) hx hb dX4_lentMany_26 hl (k := 2) rfl (nI_inc _) (by decide) rfl (fun ls hl => ?_)
          refine lv_goto (tgt := 4) hx hb dX4_lentMany_29 (by decide) ?_
          exact ih4 (i + 1) (z + 1) _ _ ls (by omega) (by simp [cF, c2, c3] at hR ⊢; omega) G (lv_sub hl [2, 1, 0] rfl)
  exact LP4 16 0 0 _ _ ls (by omega) (by simp [lentManyM]) G (lv_sub hl [2, 1, 0] rfl)
set_option maxHeartbeats 1000000 in
set_option maxRecDepth 100000 in
theorem c_X4_bits (l : Launch) (E : EE) (w : va_W) (x : Int32) : Ct l yX4_bits cX4_bits 3 (some .int) 0 E [.int x] (w) (bitsM x) (w) := by
  refine Ct_mk RX4 rfl (by decide +kernel) (Nat.le_of_ble_eq_true rfl) ?_
  intro p e s m below meth c A ls X hr G hl
  have hl : lv_has ls 3 [(0, .int x)] := hl
  obtain ⟨hx, hb, hml, hown, hts, hK, hA, hlocks⟩ := id X
  refine lv_iconst (v := 0) hx hb dX4_bits_0 (by decide) ?_
  refine lv_istore_n (lv' := [(1, .int 0), (0, .int x)]) hx hb dX4_bits_1 rfl hl (by decide) rfl (fun ls hl => ?_)
  refine lv_iconst (v := 0) hx hb dX4_bits_2 (by decide) ?_
  refine lv_istore_n (lv' := [(2, .int 0), (1, .int 0), (0, .int x)]) hx hb dX4_bits_3 rfl hl (by decide) rfl (fun ls hl => ?_)
  have LP4 : ∀ (n i : Nat) (y : Int32) (H : Heap) (locs : List Loc) (ls : Array Slot), (i + n = 4) → (sumF (fun q => x >>> (nI q &&& 31) &&& 1) n i y = bitsM x) → Gw E A s (w) H locs → lv_has ls 3 [(0, .int x), (1, .int y), (2, .int (nI i))] → W p l e (rmD 0) s m ([.int x] : List Value).toArray below meth c H locs 0 0 (MQ below (CtQ E A (bitsM x) (w)) ([.int x] : List Value).toArray s 0 0 A) (F0 m 4 ls []) := by
    intro n
    induction n with
    | zero =>
      intro i y H locs ls hi hR G hl
      refine lv_iload_n hx hb dX4_bits_4 rfl (lv_at hl 2 rfl) ?_
      refine lv_iconst (v := 4) hx hb dX4_bits_5 (by decide) ?_
      refine n_cmp_ge (tgt := 23) i 4 rfl rfl (by omega) (by omega) hx hb dX4_bits_6 (by decide) (fun c1 => ?_) (fun c1 => ?_)
      · skip
        refine lv_iload_n hx hb dX4_bits_23 rfl (lv_at hl 1 rfl) ?_
        exact g_iret X hr G rfl (by rw [← hR]; rfl) dX4_bits_24
      · skip
        exact absurd c1 (by omega)
    | succ n ih4 =>
      intro i y H locs ls hi hR G hl
      refine lv_iload_n hx hb dX4_bits_4 rfl (lv_at hl 2 rfl) ?_
      refine lv_iconst (v := 4) hx hb dX4_bits_5 (by decide) ?_
      refine n_cmp_ge (tgt := 23) i 4 rfl rfl (by omega) (by omega) hx hb dX4_bits_6 (by decide) (fun c2 => ?_) (fun c2 => ?_)
      · skip
        exact absurd c2 (by omega)
      · skip
        refine lv_iload_n hx hb dX4_bits_9 rfl (lv_at hl 1 rfl) ?_
        refine lv_iload_n hx hb dX4_bits_10 rfl (lv_at hl 0 rfl) ?_
        refine lv_iload_n hx hb dX4_bits_11 rfl (lv_at hl 2 rfl) ?_
        refine lv_ishr hx hb dX4_bits_12 ?_
        refine lv_iconst (v := 1) hx hb dX4_bits_13 (by decide) ?_
        refine lv_iand hx hb dX4_bits_14 ?_
        refine lv_iadd hx hb dX4_bits_15 ?_
        refine lv_istore_n (lv' := [(1, .int (y + ((x >>> ((nI i) &&& 31)) &&& 1))), (0, .int x), (2, .int (nI i))]) hx hb dX4_bits_16 rfl hl (by decide) rfl (fun ls hl => ?_)
        refine lv_iinc (v := nI (i + 1)) (lv' := [(2, .int (nI (i + 1))), (1, .int (y + ((x >>> ((nI i) &&& 31)) &&& 1))), (0, .int x)]) hx hb dX4_bits_17 hl (k := 2) rfl (nI_inc _) (by decide) rfl (fun ls hl => ?_)
        refine lv_goto (tgt := 4) hx hb dX4_bits_20 (by decide) ?_
        exact ih4 (i + 1) (y + ((x >>> ((nI i) &&& 31)) &&& 1)) _ _ ls (by omega) (by rw [← hR]; rfl) G (lv_sub hl [2, 1, 0] rfl)
  exact LP4 4 0 0 _ _ ls (by omega) rfl G (lv_sub hl [2, 1, 0] rfl)
set_option maxHeartbeats 1000000 in
set_option maxRecDepth 100000 in
theorem c_X4_count (l : Launch) (E : EE) (a : Nat → Nat) (st : St) (w : va_W) (what : Int32) : Ct l yX4_count cX4_count 2 (some .int) 3 E [.ref (a 0), .int what] (wM E a st w) (mCount st what) (wM E a st w) := by
  refine Ct_mk RX4 rfl (by decide +kernel) (Nat.le_of_ble_eq_true rfl) ?_
  intro p e s m below meth c A ls X hr G hl
  have hl : lv_has ls 2 [(0, .ref (a 0)), (1, .int what)] := hl
  obtain ⟨hx, hb, hml, hown, hts, hK, hA, hlocks⟩ := id X
  refine lv_iload_n hx hb dX4_count_0 rfl (lv_at hl 1 rfl) ?_
  refine lv_bipush (v := 10) hx hb dX4_count_1 (by decide) ?_
  refine lv_bipush (v := 15) hx hb dX4_count_3 (by decide) ?_
  refine g_callS (As := [.int what, .int 10, .int 15]) (rest := []) X kX4_20 (c_X4_isFrom l E _ what 10 15) G ⟨Nat.le_of_ble_eq_true rfl, Nat.le_of_ble_eq_true rfl⟩ ⟨Nat.le_refl _, Nat.le_refl _⟩ rfl hl.1 rfl (Nat.le_of_ble_eq_true rfl) dX4_count_5 (fun H locs G => ?_)
  refine b_ifeq (tgt := 21) hx hb dX4_count_8 (by decide) (fun c1 => ?_) (fun c1 => ?_)
  · skip
    refine lv_iload_n hx hb dX4_count_21 rfl (lv_at hl 1 rfl) ?_
    by_cases c2 : what = 0
    · skip
      refine lv_tableIn (off := 38) (tgt := 60) hx hb dX4_count_22 (by rw [c2]; decide) (by rw [c2]; decide) (by rw [c2]; rfl) (by decide) ?_
      refine lv_aload_n hx hb dX4_count_60 rfl (lv_at hl 0 rfl) ?_
      refine g_callV (As := []) (rest := []) X kX4_130 (c_X4_lentMany l E a st w) G 0 rfl rfl ⟨Nat.le_of_ble_eq_true rfl, Nat.le_of_ble_eq_true rfl⟩ ⟨Nat.le_refl _, Nat.le_refl _⟩ rfl hl.1 rfl (Nat.le_of_ble_eq_true rfl) dX4_count_61 (fun H locs G => ?_)
      exact g_iret X hr G rfl (by unfold mCount; rw [c1]; first | (simp [nI, c2]; done) | simp [ewhatN]) dX4_count_64
    by_cases c3 : what = 1
    · skip
      refine lv_tableIn (off := 43) (tgt := 65) hx hb dX4_count_22 (by rw [c3]; decide) (by rw [c3]; decide) (by rw [c3]; rfl) (by decide) ?_
      refine lv_aload_n hx hb dX4_count_65 rfl (lv_at hl 0 rfl) ?_
      refine g_get X G fX4_7 0 rfl rfl dX4_count_66 ?_
      refine lv_bipush (v := 6) hx hb dX4_count_69 (by decide) ?_
      refine g_iald (j := 6) X G 1 rfl rfl (by omega) (by decide) dX4_count_71 ?_
      exact g_iret X hr G rfl (by unfold mCount; rw [c1]; first | (simp [nI, c2, c3]; done) | simp [ewhatN]) dX4_count_72
    by_cases c4 : what = 2
    · skip
      refine lv_tableIn (off := 51) (tgt := 73) hx hb dX4_count_22 (by rw [c4]; decide) (by rw [c4]; decide) (by rw [c4]; rfl) (by decide) ?_
      refine lv_aload_n hx hb dX4_count_73 rfl (lv_at hl 0 rfl) ?_
      refine lv_bipush (v := (-6)) hx hb dX4_count_74 (by decide) ?_
      refine g_callV (As := [.int (-6)]) (rest := []) X kX4_124 (c_X4_blocksOf l E a st w (-6)) G 0 rfl rfl ⟨Nat.le_of_ble_eq_true rfl, Nat.le_of_ble_eq_true rfl⟩ ⟨Nat.le_refl _, Nat.le_refl _⟩ rfl hl.1 rfl (Nat.le_of_ble_eq_true rfl) dX4_count_76 (fun H locs G => ?_)
      refine g_callS (As := [.int (blocksM st (-6))]) (rest := []) X kX4_133 (c_X4_bits l E _ (blocksM st (-6))) G ⟨Nat.le_of_ble_eq_true rfl, Nat.le_of_ble_eq_true rfl⟩ ⟨Nat.le_refl _, Nat.le_refl _⟩ rfl hl.1 rfl (Nat.le_of_ble_eq_true rfl) dX4_count_79 (fun H locs G => ?_)
      exact g_iret X hr G rfl (by unfold mCount; rw [c1]; first | (simp [nI, c2, c3, c4]; done) | simp [ewhatN]) dX4_count_82
    by_cases c5 : what = 3
    · skip
      refine lv_tableIn (off := 61) (tgt := 83) hx hb dX4_count_22 (by rw [c5]; decide) (by rw [c5]; decide) (by rw [c5]; rfl) (by decide) ?_
      refine lv_aload_n hx hb dX4_count_83 rfl (lv_at hl 0 rfl) ?_
      refine g_callV (As := []) (rest := []) X kX4_103 (c_X4_heldMany l E a st w) G 0 rfl rfl ⟨Nat.le_of_ble_eq_true rfl, Nat.le_of_ble_eq_true rfl⟩ ⟨Nat.le_refl _, Nat.le_refl _⟩ rfl hl.1 rfl (Nat.le_of_ble_eq_true rfl) dX4_count_84 (fun H locs G => ?_)
      have b6 : (heldManyM st) ≤ 256 := cF_le _ _ _
      exact g_iret X hr G rfl (by unfold mCount; rw [c1]; first | (simp [nI, c2, c3, c4, c5]; done) | simp [ewhatN]) dX4_count_87
    by_cases c7 : what = 4
    · skip
      refine lv_tableIn (off := 66) (tgt := 88) hx hb dX4_count_22 (by rw [c7]; decide) (by rw [c7]; decide) (by rw [c7]; rfl) (by decide) ?_
      refine lv_aload_n hx hb dX4_count_88 rfl (lv_at hl 0 rfl) ?_
      refine g_callV (As := []) (rest := []) X kX4_136 (c_X4_knownMany l E a st w) G 0 rfl rfl ⟨Nat.le_of_ble_eq_true rfl, Nat.le_of_ble_eq_true rfl⟩ ⟨Nat.le_refl _, Nat.le_refl _⟩ rfl hl.1 rfl (Nat.le_of_ble_eq_true rfl) dX4_count_89 (fun H locs G => ?_)
      exact g_iret X hr G rfl (by unfold mCount; rw [c1]; first | (simp [nI, c2, c3, c4, c5, c7]; done) | simp [ewhatN]) dX4_count_92
    by_cases c8 : what = 5
    · skip
      refine lv_tableIn (off := 71) (tgt := 93) hx hb dX4_count_22 (by rw [c8]; decide) (by rw [c8]; decide) (by rw [c8]; rfl) (by decide) ?_
      refine lv_aload_n hx hb dX4_count_93 rfl (lv_at hl 0 rfl) ?_
      refine g_get X G fX4_16 0 rfl rfl dX4_count_94 ?_
      refine lv_iconst (v := 0) hx hb dX4_count_97 (by decide) ?_
      refine g_zald (j := 0) X G 3 rfl rfl (by omega) (by decide) dX4_count_98 ?_
      refine lv_if_eq (tgt := 106) hx hb dX4_count_99 (by decide) (fun c9 => ?_) (fun c9 => ?_)
      · skip
        refine lv_iconst (v := 0) hx hb dX4_count_106 (by decide) ?_
        refine lv_aload_n hx hb dX4_count_107 rfl (lv_at hl 0 rfl) ?_
        refine g_get X G fX4_16 0 rfl rfl dX4_count_108 ?_
        refine lv_iconst (v := 1) hx hb dX4_count_111 (by decide) ?_
        refine g_zald (j := 1) X G 3 rfl rfl (by omega) (by decide) dX4_count_112 ?_
        refine lv_if_eq (tgt := 120) hx hb dX4_count_113 (by decide) (fun c10 => ?_) (fun c10 => ?_)
        · skip
          refine lv_iconst (v := 0) hx hb dX4_count_120 (by decide) ?_
          refine n_iadd 0 0 rfl rfl hx hb dX4_count_121 ?_
          exact g_iret X hr G rfl (by unfold mCount; rw [c1]; first | (simp [nI, c2, c3, c4, c5, c7, c8, c9, c10]; done) | simp [ewhatN]) dX4_count_122
        · skip
          refine lv_iconst (v := 2) hx hb dX4_count_116 (by decide) ?_
          refine lv_goto (tgt := 121) hx hb dX4_count_117 (by decide) ?_
          refine n_iadd 0 2 rfl rfl hx hb dX4_count_121 ?_
          exact g_iret X hr G rfl (by unfold mCount; rw [c1]; first | (simp [nI, c2, c3, c4, c5, c7, c8, c9, c10]; done) | simp [ewhatN]) dX4_count_122
      · skip
        refine lv_iconst (v := 1) hx hb dX4_count_102 (by decide) ?_
        refine lv_goto (tgt := 107) hx hb dX4_count_103 (by decide) ?_
        refine lv_aload_n hx hb dX4_count_107 rfl (lv_at hl 0 rfl) ?_
        refine g_get X G fX4_16 0 rfl rfl dX4_count_108 ?_
        refine lv_iconst (v := 1) hx hb dX4_count_111 (by decide) ?_
        refine g_zald (j := 1) X G 3 rfl rfl (by omega) (by decide) dX4_count_112 ?_
        refine lv_if_eq (tgt := 120) hx hb dX4_count_113 (by decide) (fun c11 => ?_) (fun c11 => ?_)
        · skip
          refine lv_iconst (v := 0) hx hb dX4_count_120 (by decide) ?_
          refine n_iadd 1 0 rfl rfl hx hb dX4_count_121 ?_
          exact g_iret X hr G rfl (by unfold mCount; rw [c1]; first | (simp [nI, c2, c3, c4, c5, c7, c8, c9, c11]; done) | simp [ewhatN]) dX4_count_122
        · skip
          refine lv_iconst (v := 2) hx hb dX4_count_116 (by decide) ?_
          refine lv_goto (tgt := 121) hx hb dX4_count_117 (by decide) ?_
          refine n_iadd 1 2 rfl rfl hx hb dX4_count_121 ?_
          exact g_iret X hr G rfl (by unfold mCount; rw [c1]; first | (simp [nI, c2, c3, c4, c5, c7, c8, c9, c11]; done) | simp [ewhatN]) dX4_count_122
    have c12 : what.toInt < 0 ∨ 5 < what.toInt := tb_out5 c2 c3 c4 c5 c7 c8
    refine lv_tableOut (tgt := 123) hx hb dX4_count_22 c12 (by decide) ?_
    refine lv_bipush (v := (-2)) hx hb dX4_count_123 (by decide) ?_
    exact g_iret X hr G rfl (by unfold mCount; rw [c1]; first | (simp [nI, c2, c3, c4, c5, c7, c8]; done) | simp [ewhatN]) dX4_count_125
  · skip
    obtain ⟨whatN, gwhatN, hwhatN, rfl⟩ := frB_nat 10 15 (by decide) (by decide) rfl rfl c1
    have ewhatN : cl (nI whatN) = whatN := cl_nI (by omega)
    refine lv_aload_n hx hb dX4_count_11 rfl (lv_at hl 0 rfl) ?_
    refine g_get X G fX4_7 0 rfl rfl dX4_count_12 ?_
    refine lv_iload_n hx hb dX4_count_15 rfl (lv_at hl 1 rfl) ?_
    refine lv_bipush (v := 10) hx hb dX4_count_16 (by decide) ?_
    refine n_isub whatN 10 rfl rfl (by omega) hx hb dX4_count_18 ?_
    refine g_iald (j := whatN - 10) X G 1 rfl rfl (by omega) (by decide) dX4_count_19 ?_
    exact g_iret X hr G rfl (by unfold mCount; rw [c1]; first | (simp [nI, ewhatN]; done) | simp [ewhatN]) dX4_count_20
