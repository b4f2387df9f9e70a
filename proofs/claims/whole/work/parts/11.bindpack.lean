set_option maxHeartbeats 4000000 in
set_option maxRecDepth 100000 in
theorem c_X0_isLent (l : Launch) (E : EE) (a : Nat → Nat) (st : St) (w : va_W) (o : Nat) (ho : o < 16) : Ct l yX0_isLent cX0_isLent 2 (some .boolean) 0 E [.ref (a 2), .int (nI o)] (wB E a st w) (bI (lentC st o)) (wB E a st w) := by
  refine Ct_mk RX0 rfl (by decide +kernel) (Nat.le_of_ble_eq_true rfl) ?_
  intro p e s m below meth c A ls X hr G hl
  have hl : lv_has ls 2 [(0, .ref (a 2)), (1, .int (nI o))] := hl
  obtain ⟨hx, hb, hml, hown, hts, hK, hA, hlocks⟩ := id X
  refine lv_aload_n hx hb dX0_isLent_0 rfl (lv_at hl 0 rfl) ?_
  refine g_get X G fX0_9 2 rfl rfl dX0_isLent_1 ?_
  refine lv_iload_n hx hb dX0_isLent_4 rfl (lv_at hl 1 rfl) ?_
  refine g_iald (j := o) X G 4 rfl rfl (by omega) (by decide) dX0_isLent_5 ?_
  refine lv_bipush (v := (-6)) hx hb dX0_isLent_6 (by decide) ?_
  refine lv_icmp_eq (tgt := 15) hx hb dX0_isLent_8 (by decide) (fun c1 => ?_) (fun c1 => ?_)
  · skip
    refine lv_iconst (v := 0) hx hb dX0_isLent_15 (by decide) ?_
    exact g_ret X hr rfl G rfl (by simp [lentC, bI, c1]) dX0_isLent_16
  · skip
    refine lv_iconst (v := 1) hx hb dX0_isLent_11 (by decide) ?_
    refine lv_goto (tgt := 16) hx hb dX0_isLent_12 (by decide) ?_
    exact g_ret X hr rfl G rfl (by simp [lentC, bI, c1]) dX0_isLent_16
set_option maxHeartbeats 4000000 in
set_option maxRecDepth 100000 in
theorem c_X0_hostOf (l : Launch) (E : EE) (a : Nat → Nat) (st : St) (w : va_W) (o : Nat) (ho : o < 16) : Ct l yX0_hostOf cX0_hostOf 2 (some .int) 1 E [.ref (a 2), .int (nI o)] (wB E a st w) (hostC st o) (wB E a st w) := by
  refine Ct_mk RX0 rfl (by decide +kernel) (Nat.le_of_ble_eq_true rfl) ?_
  intro p e s m below meth c A ls X hr G hl
  have hl : lv_has ls 2 [(0, .ref (a 2)), (1, .int (nI o))] := hl
  obtain ⟨hx, hb, hml, hown, hts, hK, hA, hlocks⟩ := id X
  refine lv_aload_n hx hb dX0_hostOf_0 rfl (lv_at hl 0 rfl) ?_
  refine g_get X G fX0_9 2 rfl rfl dX0_hostOf_1 ?_
  refine lv_iload_n hx hb dX0_hostOf_4 rfl (lv_at hl 1 rfl) ?_
  refine g_iald (j := o) X G 4 rfl rfl (by omega) (by decide) dX0_hostOf_5 ?_
  refine lv_bipush (v := (-6)) hx hb dX0_hostOf_6 (by decide) ?_
  refine lv_icmp_ne (tgt := 16) hx hb dX0_hostOf_8 (by decide) (fun c1 => ?_) (fun c1 => ?_)
  · skip
    refine lv_aload_n hx hb dX0_hostOf_16 rfl (lv_at hl 0 rfl) ?_
    refine g_get X G fX0_9 2 rfl rfl dX0_hostOf_17 ?_
    refine lv_iload_n hx hb dX0_hostOf_20 rfl (lv_at hl 1 rfl) ?_
    refine g_iald (j := o) X G 4 rfl rfl (by omega) (by decide) dX0_hostOf_21 ?_
    refine lv_bipush (v := 32) hx hb dX0_hostOf_22 (by decide) ?_
    refine lv_idiv hx hb dX0_hostOf_24 (by decide) ?_
    exact g_iret X hr G rfl (by simp [hostC, lentC, c1]) dX0_hostOf_25
  · skip
    refine lv_bipush (v := (-6)) hx hb dX0_hostOf_11 (by decide) ?_
    refine lv_goto (tgt := 25) hx hb dX0_hostOf_13 (by decide) ?_
    exact g_iret X hr G rfl (by simp [hostC, lentC, c1]) dX0_hostOf_25
set_option maxHeartbeats 4000000 in
set_option maxRecDepth 100000 in
theorem c_X0_isFor (l : Launch) (E : EE) (a : Nat → Nat) (st : St) (w : va_W) (o : Nat) (ho : o < 16) (r : Int32) (rp : Int32) : Ct l yX0_isFor cX0_isFor 4 (some .boolean) 0 E [.ref (a 2), .int (nI o), .int r, .int rp] (wB E a st w) (bI (isForC st o r rp)) (wB E a st w) := by
  refine Ct_mk RX0 rfl (by decide +kernel) (Nat.le_of_ble_eq_true rfl) ?_
  intro p e s m below meth c A ls X hr G hl
  have hl : lv_has ls 4 [(0, .ref (a 2)), (1, .int (nI o)), (2, .int r), (3, .int rp)] := hl
  obtain ⟨hx, hb, hml, hown, hts, hK, hA, hlocks⟩ := id X
  refine lv_aload_n hx hb dX0_isFor_0 rfl (lv_at hl 0 rfl) ?_
  refine g_get X G fX0_21 2 rfl rfl dX0_isFor_1 ?_
  refine lv_iload_n hx hb dX0_isFor_4 rfl (lv_at hl 1 rfl) ?_
  refine g_iald (j := o) X G 7 rfl rfl (by omega) (by decide) dX0_isFor_5 ?_
  refine lv_bipush (v := (-6)) hx hb dX0_isFor_6 (by decide) ?_
  refine lv_icmp_eq (tgt := 21) hx hb dX0_isFor_8 (by decide) (fun c1 => ?_) (fun c1 => ?_)
  · skip
    refine lv_aload_n hx hb dX0_isFor_21 rfl (lv_at hl 0 rfl) ?_
    refine g_get X G fX0_24 2 rfl rfl dX0_isFor_22 ?_
    refine lv_iload_n hx hb dX0_isFor_25 rfl (lv_at hl 1 rfl) ?_
    refine g_iald (j := o) X G 8 rfl rfl (by omega) (by decide) dX0_isFor_26 ?_
    refine lv_bipush (v := (-6)) hx hb dX0_isFor_27 (by decide) ?_
    refine lv_icmp_eq (tgt := 42) hx hb dX0_isFor_29 (by decide) (fun c2 => ?_) (fun c2 => ?_)
    · skip
      refine lv_iconst (v := 1) hx hb dX0_isFor_42 (by decide) ?_
      refine lv_goto (tgt := 47) hx hb dX0_isFor_43 (by decide) ?_
      exact g_ret X hr rfl G rfl (by simp [isForC, bI, c1, c2]) dX0_isFor_47
    · skip
      refine lv_aload_n hx hb dX0_isFor_32 rfl (lv_at hl 0 rfl) ?_
      refine g_get X G fX0_24 2 rfl rfl dX0_isFor_33 ?_
      refine lv_iload_n hx hb dX0_isFor_36 rfl (lv_at hl 1 rfl) ?_
      refine g_iald (j := o) X G 8 rfl rfl (by omega) (by decide) dX0_isFor_37 ?_
      refine lv_iload_n hx hb dX0_isFor_38 rfl (lv_at hl 3 rfl) ?_
      refine lv_icmp_ne (tgt := 46) hx hb dX0_isFor_39 (by decide) (fun c3 => ?_) (fun c3 => ?_)
      · skip
        refine lv_iconst (v := 0) hx hb dX0_isFor_46 (by decide) ?_
        exact g_ret X hr rfl G rfl (by simp [isForC, bI, c1, c2, c3]) dX0_isFor_47
      · skip
        refine lv_iconst (v := 1) hx hb dX0_isFor_42 (by decide) ?_
        refine lv_goto (tgt := 47) hx hb dX0_isFor_43 (by decide) ?_
        exact g_ret X hr rfl G rfl (by simp [isForC, bI, c1, c2, c3]) dX0_isFor_47
  · skip
    refine lv_aload_n hx hb dX0_isFor_11 rfl (lv_at hl 0 rfl) ?_
    refine g_get X G fX0_21 2 rfl rfl dX0_isFor_12 ?_
    refine lv_iload_n hx hb dX0_isFor_15 rfl (lv_at hl 1 rfl) ?_
    refine g_iald (j := o) X G 7 rfl rfl (by omega) (by decide) dX0_isFor_16 ?_
    refine lv_iload_n hx hb dX0_isFor_17 rfl (lv_at hl 2 rfl) ?_
    refine lv_icmp_ne (tgt := 46) hx hb dX0_isFor_18 (by decide) (fun c4 => ?_) (fun c4 => ?_)
    · skip
      refine lv_iconst (v := 0) hx hb dX0_isFor_46 (by decide) ?_
      exact g_ret X hr rfl G rfl (by simp [isForC, bI, c1, c4]) dX0_isFor_47
    · skip
      refine lv_aload_n hx hb dX0_isFor_21 rfl (lv_at hl 0 rfl) ?_
      refine g_get X G fX0_24 2 rfl rfl dX0_isFor_22 ?_
      refine lv_iload_n hx hb dX0_isFor_25 rfl (lv_at hl 1 rfl) ?_
      refine g_iald (j := o) X G 8 rfl rfl (by omega) (by decide) dX0_isFor_26 ?_
      refine lv_bipush (v := (-6)) hx hb dX0_isFor_27 (by decide) ?_
      refine lv_icmp_eq (tgt := 42) hx hb dX0_isFor_29 (by decide) (fun c5 => ?_) (fun c5 => ?_)
      · skip
        refine lv_iconst (v := 1) hx hb dX0_isFor_42 (by decide) ?_
        refine lv_goto (tgt := 47) hx hb dX0_isFor_43 (by decide) ?_
        exact g_ret X hr rfl G rfl (by simp [isForC, bI, c1, c4, c5]) dX0_isFor_47
      · skip
        refine lv_aload_n hx hb dX0_isFor_32 rfl (lv_at hl 0 rfl) ?_
        refine g_get X G fX0_24 2 rfl rfl dX0_isFor_33 ?_
        refine lv_iload_n hx hb dX0_isFor_36 rfl (lv_at hl 1 rfl) ?_
        refine g_iald (j := o) X G 8 rfl rfl (by omega) (by decide) dX0_isFor_37 ?_
        refine lv_iload_n hx hb dX0_isFor_38 rfl (lv_at hl 3 rfl) ?_
        refine lv_icmp_ne (tgt := 46) hx hb dX0_isFor_39 (by decide) (fun c6 => ?_) (fun c6 => ?_)
        · skip
          refine lv_iconst (v := 0) hx hb dX0_isFor_46 (by decide) ?_
          exact g_ret X hr rfl G rfl (by simp [isForC, bI, c1, c4, c5, c6]) dX0_isFor_47
        · skip
          refine lv_iconst (v := 1) hx hb dX0_isFor_42 (by decide) ?_
          refine lv_goto (tgt := 47) hx hb dX0_isFor_43 (by decide) ?_
          exact g_ret X hr rfl G rfl (by simp [isForC, bI, c1, c4, c5, c6]) dX0_isFor_47
set_option maxHeartbeats 4000000 in
set_option maxRecDepth 100000 in
theorem c_X0_seek (l : Launch) (E : EE) (a : Nat → Nat) (st : St) (w : va_W) (ip : Int32) (r : Int32) (rp : Int32) : Ct l yX0_seek cX0_seek 5 (some .int) 1 E [.ref (a 2), .int ip, .int r, .int rp] (wB E a st w) (oI (seekO st ip r rp)) (wB E a st w) := by
  refine Ct_mk RX0 rfl (by decide +kernel) (Nat.le_of_ble_eq_true rfl) ?_
  intro p e s m below meth c A ls X hr G hl
  have hl : lv_has ls 5 [(0, .ref (a 2)), (1, .int ip), (2, .int r), (3, .int rp)] := hl
  obtain ⟨hx, hb, hml, hown, hts, hK, hA, hlocks⟩ := id X
  refine lv_iconst (v := 0) hx hb dX0_seek_0 (by decide) ?_
  refine lv_istore (lv' := [(4, .int 0), (0, .ref (a 2)), (1, .int ip), (2, .int r), (3, .int rp)]) hx hb dX0_seek_1 hl (by decide) rfl (fun ls hl => ?_)
  have LP3 : ∀ (n i : Nat)  (H : Heap) (locs : List Loc) (ls : Array Slot), (i + n = 16) → (oI (fF (seekP st ip r rp) n i) = oI (seekO st ip r rp)) → Gw E A s (wB E a st w) H locs → lv_has ls 5 [(0, .ref (a 2)), (1, .int ip), (2, .int r), (3, .int rp), (4, .int (nI i))] → W p l e (rmD 1) s m ([.ref (a 2), .int ip, .int r, .int rp] : List Value).toArray below meth c H locs 0 0 (MQ below (CtQ E A (oI (seekO st ip r rp)) (wB E a st w)) ([.ref (a 2), .int ip, .int r, .int rp] : List Value).toArray s 0 0 A) (F0 m 3 ls []) := by
    intro n
    induction n with
    | zero =>
      intro i  H locs ls hi hR G hl
      refine lv_iload hx hb dX0_seek_3 (lv_at hl 4 rfl) ?_
      refine lv_bipush (v := 16) hx hb dX0_seek_5 (by decide) ?_
      refine n_cmp_ge (tgt := 41) i 16 rfl rfl (by omega) (by omega) hx hb dX0_seek_7 (by decide) (fun c1 => ?_) (fun c1 => ?_)
      · skip
        refine lv_bipush (v := (-6)) hx hb dX0_seek_41 (by decide) ?_
        exact g_iret X hr G rfl (by rw [← hR]; simp [fF, seekP, oI, c1]) dX0_seek_43
      · skip
        exact absurd c1 (by omega)
    | succ n ih3 =>
      intro i  H locs ls hi hR G hl
      refine lv_iload hx hb dX0_seek_3 (lv_at hl 4 rfl) ?_
      refine lv_bipush (v := 16) hx hb dX0_seek_5 (by decide) ?_
      refine n_cmp_ge (tgt := 41) i 16 rfl rfl (by omega) (by omega) hx hb dX0_seek_7 (by decide) (fun c2 => ?_) (fun c2 => ?_)
      · skip
        exact absurd c2 (by omega)
      · skip
        refine lv_aload_n hx hb dX0_seek_10 rfl (lv_at hl 0 rfl) ?_
        refine g_get X G fX0_9 2 rfl rfl dX0_seek_11 ?_
        refine lv_iload hx hb dX0_seek_14 (lv_at hl 4 rfl) ?_
        refine g_iald (j := i) X G 4 rfl rfl (by omega) (by decide) dX0_seek_16 ?_
        refine lv_iload_n hx hb dX0_seek_17 rfl (lv_at hl 1 rfl) ?_
        refine lv_icmp_ne (tgt := 35) hx hb dX0_seek_18 (by decide) (fun c3 => ?_) (fun c3 => ?_)
        · skip
          refine lv_iinc (v := nI (i + 1)) (lv' := [(4, .int (nI (i + 1))), (0, .ref (a 2)), (1, .int ip), (2, .int r), (3, .int rp)]) hx hb dX0_seek_35 hl (k := 4) rfl (nI_inc _) (by decide) rfl (fun ls hl => ?_)
          refine lv_goto (tgt := 3) hx hb dX0_seek_38 (by decide) ?_
          exact ih3 (i + 1)  _ _ ls (by omega) (by rw [← hR]; simp [fF, seekP, oI, c2, c3]) G (lv_sub hl [1, 2, 3, 4, 0] rfl)
        · skip
          refine lv_aload_n hx hb dX0_seek_21 rfl (lv_at hl 0 rfl) ?_
          refine lv_iload hx hb dX0_seek_22 (lv_at hl 4 rfl) ?_
          refine lv_iload_n hx hb dX0_seek_24 rfl (lv_at hl 2 rfl) ?_
          refine lv_iload_n hx hb dX0_seek_25 rfl (lv_at hl 3 rfl) ?_
          refine g_callV (As := [.int (nI i), .int r, .int rp]) (rest := []) X kX0_36 (c_X0_isFor l E a st w i (by omega) r rp) G 2 rfl rfl ⟨Nat.le_of_ble_eq_true rfl, Nat.le_of_ble_eq_true rfl⟩ ⟨Nat.le_refl _, Nat.le_refl _⟩ rfl hl.1 rfl (Nat.le_of_ble_eq_true rfl) dX0_seek_26 (fun H locs G => ?_)
          refine b_ifeq (tgt := 35) hx hb dX0_seek_29 (by decide) (fun c4 => ?_) (fun c4 => ?_)
          · skip
            refine lv_iinc (v := nI (i + 1)) (lv' := [(4, .int (nI (i + 1))), (0, .ref (a 2)), (1, .int ip), (2, .int r), (3, .int rp)]) hx hb dX0_seek_35 hl (k := 4) rfl (nI_inc _) (by decide) rfl (fun ls hl => ?_)
            refine lv_goto (tgt := 3) hx hb dX0_seek_38 (by decide) ?_
            exact ih3 (i + 1)  _ _ ls (by omega) (by rw [← hR]; simp [fF, seekP, oI, c2, c3, c4]) G (lv_sub hl [1, 2, 3, 4, 0] rfl)
          · skip
            refine lv_iload hx hb dX0_seek_32 (lv_at hl 4 rfl) ?_
            exact g_iret X hr G rfl (by rw [← hR]; simp [fF, seekP, oI, c2, c3, c4]) dX0_seek_34
  exact LP3 16 0  _ _ ls (by omega) rfl G (lv_sub hl [1, 2, 3, 4, 0] rfl)
set_option maxHeartbeats 4000000 in
set_option maxRecDepth 100000 in
theorem c_X0_lend (l : Launch) (E : EE) (a : Nat → Nat) (st : St) (w : va_W) (o : Nat) (ho : o < 16) (ip : Int32) (r : Int32) (rp : Int32) : Cv l yX0_lend cX0_lend 6 0 E [.ref (a 2), .int (nI o), .int ip, .int r, .int rp] (wB E a st w) (wB E a (lendC st o ip r rp) w) := by
  refine Cv_mk RX0 rfl (by decide +kernel) (Nat.le_of_ble_eq_true rfl) ?_
  intro p e s m below meth c A ls X hr G hl
  have hl : lv_has ls 6 [(0, .ref (a 2)), (1, .int (nI o)), (2, .int ip), (3, .int r), (4, .int rp)] := hl
  obtain ⟨hx, hb, hml, hown, hts, hK, hA, hlocks⟩ := id X
  refine lv_aload_n hx hb dX0_lend_0 rfl (lv_at hl 0 rfl) ?_
  refine g_get X G fX0_9 2 rfl rfl dX0_lend_1 ?_
  refine lv_iload_n hx hb dX0_lend_4 rfl (lv_at hl 1 rfl) ?_
  refine lv_iload_n hx hb dX0_lend_5 rfl (lv_at hl 2 rfl) ?_
  refine g_iast (j := o) X G 4 rfl rfl (by omega) (by decide) dX0_lend_6 (fun H locs G => ?_)
  have G : Gw E A s (wB E a (sU st 1 o ip) w) H locs := G
  refine lv_aload_n hx hb dX0_lend_7 rfl (lv_at hl 0 rfl) ?_
  refine g_get X G fX0_15 2 rfl rfl dX0_lend_8 ?_
  refine lv_iload_n hx hb dX0_lend_11 rfl (lv_at hl 1 rfl) ?_
  refine lv_iconst (v := 0) hx hb dX0_lend_12 (by decide) ?_
  refine g_iast (j := o) X G 5 rfl rfl (by omega) (by decide) dX0_lend_13 (fun H locs G => ?_)
  have G : Gw E A s (wB E a (sU (sU st 1 o ip) 2 o 0) w) H locs := G
  refine lv_aload_n hx hb dX0_lend_14 rfl (lv_at hl 0 rfl) ?_
  refine g_get X G fX0_21 2 rfl rfl dX0_lend_15 ?_
  refine lv_iload_n hx hb dX0_lend_18 rfl (lv_at hl 1 rfl) ?_
  refine lv_iload_n hx hb dX0_lend_19 rfl (lv_at hl 3 rfl) ?_
  refine g_iast (j := o) X G 7 rfl rfl (by omega) (by decide) dX0_lend_20 (fun H locs G => ?_)
  have G : Gw E A s (wB E a (sU (sU (sU st 1 o ip) 2 o 0) 4 o r) w) H locs := G
  refine lv_aload_n hx hb dX0_lend_21 rfl (lv_at hl 0 rfl) ?_
  refine g_get X G fX0_24 2 rfl rfl dX0_lend_22 ?_
  refine lv_iload_n hx hb dX0_lend_25 rfl (lv_at hl 1 rfl) ?_
  refine lv_iload hx hb dX0_lend_26 (lv_at hl 4 rfl) ?_
  refine g_iast (j := o) X G 8 rfl rfl (by omega) (by decide) dX0_lend_28 (fun H locs G => ?_)
  have G : Gw E A s (wB E a (sU (sU (sU (sU st 1 o ip) 2 o 0) 4 o r) 5 o rp) w) H locs := G
  refine lv_iconst (v := 0) hx hb dX0_lend_29 (by decide) ?_
  refine lv_istore (lv' := [(5, .int 0), (0, .ref (a 2)), (1, .int (nI o)), (2, .int ip), (3, .int r), (4, .int rp)]) hx hb dX0_lend_30 hl (by decide) rfl (fun ls hl => ?_)
  have LP32 : ∀ (n i : Nat) (sx : St) (H : Heap) (locs : List Loc) (ls : Array Slot), (i + n = 5) → (iF (zero5 o) n i sx = lendC st o ip r rp) → Gw E A s (wB E a sx w) H locs → lv_has ls 6 [(0, .ref (a 2)), (1, .int (nI o)), (5, .int (nI i))] → W p l e (rmD 0) s m ([.ref (a 2), .int (nI o), .int ip, .int r, .int rp] : List Value).toArray below meth c H locs 0 0 (MQ below (CvQ E A (wB E a (lendC st o ip r rp) w)) ([.ref (a 2), .int (nI o), .int ip, .int r, .int rp] : List Value).toArray s 0 0 A) (F0 m 32 ls []) := by
    intro n
    induction n with
    | zero =>
      intro i sx H locs ls hi hR G hl
      refine lv_iload hx hb dX0_lend_32 (lv_at hl 2 rfl) ?_
      refine lv_iconst (v := 5) hx hb dX0_lend_34 (by decide) ?_
      refine n_cmp_ge (tgt := 56) i 5 rfl rfl (by omega) (by omega) hx hb dX0_lend_35 (by decide) (fun c1 => ?_) (fun c1 => ?_)
      · skip
        exact g_vret X hr G (congrArg (fun z => wB E a z w) (by rw [← hR]; rfl)) dX0_lend_56
      · skip
        exact absurd c1 (by omega)
    | succ n ih32 =>
      intro i sx H locs ls hi hR G hl
      refine lv_iload hx hb dX0_lend_32 (lv_at hl 2 rfl) ?_
      refine lv_iconst (v := 5) hx hb dX0_lend_34 (by decide) ?_
      refine n_cmp_ge (tgt := 56) i 5 rfl rfl (by omega) (by omega) hx hb dX0_lend_35 (by decide) (fun c2 => ?_) (fun c2 => ?_)
      · skip
        exact absurd c2 (by omega)
      · skip
        refine lv_aload_n hx hb dX0_lend_38 rfl (lv_at hl 0 rfl) ?_
        refine g_get X G fX0_27 2 rfl rfl dX0_lend_39 ?_
        refine lv_iload_n hx hb dX0_lend_42 rfl (lv_at hl 1 rfl) ?_
        refine lv_iconst (v := 5) hx hb dX0_lend_43 (by decide) ?_
        refine n_imul o 5 rfl rfl hx hb dX0_lend_44 ?_
        refine lv_iload hx hb dX0_lend_45 (lv_at hl 2 rfl) ?_
        refine n_iadd (o * 5) i rfl rfl hx hb dX0_lend_47 ?_
        refine lv_iconst (v := 0) hx hb dX0_lend_48 (by decide) ?_
        refine g_iast (j := (o * 5) + i) X G 9 rfl rfl (by omega) (by decide) dX0_lend_49 (fun H locs G => ?_)
        have G : Gw E A s (wB E a (sU sx 6 ((o * 5) + i) 0) w) H locs := G
        refine lv_iinc (v := nI (i + 1)) (lv' := [(5, .int (nI (i + 1))), (0, .ref (a 2)), (1, .int (nI o))]) hx hb dX0_lend_50 hl (k := 2) rfl (nI_inc _) (by decide) rfl (fun ls hl => ?_)
        refine lv_goto (tgt := 32) hx hb dX0_lend_53 (by decide) ?_
        exact ih32 (i + 1) (sU sx 6 ((o * 5) + i) 0) _ _ ls (by omega) (by rw [← hR]; rfl) G (lv_sub hl [1, 2, 0] rfl)
  exact LP32 5 0 (sU (sU (sU (sU st 1 o ip) 2 o 0) 4 o r) 5 o rp) _ _ ls (by omega) rfl G (lv_sub hl [1, 2, 0] rfl)
set_option maxHeartbeats 4000000 in
set_option maxRecDepth 100000 in
theorem c_X0_unlend (l : Launch) (E : EE) (a : Nat → Nat) (st : St) (w : va_W) (o : Nat) (ho : o < 16) : Cv l yX0_unlend cX0_unlend 2 0 E [.ref (a 2), .int (nI o)] (wB E a st w) (wB E a (sU st 1 o (-6)) w) := by
  refine Cv_mk RX0 rfl (by decide +kernel) (Nat.le_of_ble_eq_true rfl) ?_
  intro p e s m below meth c A ls X hr G hl
  have hl : lv_has ls 2 [(0, .ref (a 2)), (1, .int (nI o))] := hl
  obtain ⟨hx, hb, hml, hown, hts, hK, hA, hlocks⟩ := id X
  refine lv_aload_n hx hb dX0_unlend_0 rfl (lv_at hl 0 rfl) ?_
  refine g_get X G fX0_9 2 rfl rfl dX0_unlend_1 ?_
  refine lv_iload_n hx hb dX0_unlend_4 rfl (lv_at hl 1 rfl) ?_
  refine lv_bipush (v := (-6)) hx hb dX0_unlend_5 (by decide) ?_
  refine g_iast (j := o) X G 4 rfl rfl (by omega) (by decide) dX0_unlend_7 (fun H locs G => ?_)
  have G : Gw E A s (wB E a (sU st 1 o (-6)) w) H locs := G
  exact g_vret X hr G rfl dX0_unlend_8
set_option maxHeartbeats 4000000 in
set_option maxRecDepth 100000 in
theorem c_X0_markSent (l : Launch) (E : EE) (a : Nat → Nat) (st : St) (w : va_W) (o : Nat) (ho : o < 16) (r : Nat) (hr : r < 5) (rp : Nat) : Cv l yX0_markSent cX0_markSent 4 0 E [.ref (a 2), .int (nI o), .int (nI r), .int (nI rp)] (wB E a st w) (wB E a (markC st o r rp) w) := by
  refine Cv_mk RX0 rfl (by decide +kernel) (Nat.le_of_ble_eq_true rfl) ?_
  intro p e s m below meth c A ls X hr G hl
  have hl : lv_has ls 4 [(0, .ref (a 2)), (1, .int (nI o)), (2, .int (nI r)), (3, .int (nI rp))] := hl
  obtain ⟨hx, hb, hml, hown, hts, hK, hA, hlocks⟩ := id X
  refine lv_aload_n hx hb dX0_markSent_0 rfl (lv_at hl 0 rfl) ?_
  refine g_get X G fX0_27 2 rfl rfl dX0_markSent_1 ?_
  refine lv_iload_n hx hb dX0_markSent_4 rfl (lv_at hl 1 rfl) ?_
  refine lv_iconst (v := 5) hx hb dX0_markSent_5 (by decide) ?_
  refine n_imul o 5 rfl rfl hx hb dX0_markSent_6 ?_
  refine lv_iload_n hx hb dX0_markSent_7 rfl (lv_at hl 2 rfl) ?_
  refine n_iadd (o * 5) r rfl rfl hx hb dX0_markSent_8 ?_
  refine lv_dup2_11 hx hb dX0_markSent_9 rfl rfl ?_
  refine g_iald (j := (o * 5) + r) X G 9 rfl rfl (by omega) (by decide) dX0_markSent_10 ?_
  refine lv_iconst (v := 1) hx hb dX0_markSent_11 (by decide) ?_
  refine lv_iload_n hx hb dX0_markSent_12 rfl (lv_at hl 3 rfl) ?_
  refine lv_ishl hx hb dX0_markSent_13 ?_
  refine lv_ior hx hb dX0_markSent_14 ?_
  refine g_iast (j := (o * 5) + r) X G 9 rfl rfl (by omega) (by decide) dX0_markSent_15 (fun H locs G => ?_)
  have G : Gw E A s (wB E a (sU st 6 ((o * 5) + r) ((st 6 ((o * 5) + r)) ||| (1 <<< ((nI rp) &&& 31)))) w) H locs := G
  exact g_vret X hr G (congrArg (fun z => wB E a z w) (by rfl)) dX0_markSent_16
set_option maxHeartbeats 4000000 in
set_option maxRecDepth 100000 in
theorem c_X0_isSent (l : Launch) (E : EE) (a : Nat → Nat) (st : St) (w : va_W) (o : Nat) (ho : o < 16) (r : Nat) (hr : r < 5) (rp : Nat) : Ct l yX0_isSent cX0_isSent 4 (some .boolean) 0 E [.ref (a 2), .int (nI o), .int (nI r), .int (nI rp)] (wB E a st w) (bI (isSentC st o r rp)) (wB E a st w) := by
  refine Ct_mk RX0 rfl (by decide +kernel) (Nat.le_of_ble_eq_true rfl) ?_
  intro p e s m below meth c A ls X hr G hl
  have hl : lv_has ls 4 [(0, .ref (a 2)), (1, .int (nI o)), (2, .int (nI r)), (3, .int (nI rp))] := hl
  obtain ⟨hx, hb, hml, hown, hts, hK, hA, hlocks⟩ := id X
  refine lv_aload_n hx hb dX0_isSent_0 rfl (lv_at hl 0 rfl) ?_
  refine g_get X G fX0_27 2 rfl rfl dX0_isSent_1 ?_
  refine lv_iload_n hx hb dX0_isSent_4 rfl (lv_at hl 1 rfl) ?_
  refine lv_iconst (v := 5) hx hb dX0_isSent_5 (by decide) ?_
  refine n_imul o 5 rfl rfl hx hb dX0_isSent_6 ?_
  refine lv_iload_n hx hb dX0_isSent_7 rfl (lv_at hl 2 rfl) ?_
  refine n_iadd (o * 5) r rfl rfl hx hb dX0_isSent_8 ?_
  refine g_iald (j := (o * 5) + r) X G 9 rfl rfl (by omega) (by decide) dX0_isSent_9 ?_
  refine lv_iload_n hx hb dX0_isSent_10 rfl (lv_at hl 3 rfl) ?_
  refine lv_iushr (v := ush (st 6 ((o * 5) + r)) (nI rp)) hx hb dX0_isSent_11 rfl ?_
  refine lv_iconst (v := 1) hx hb dX0_isSent_12 (by decide) ?_
  refine lv_iand hx hb dX0_isSent_13 ?_
  refine lv_iconst (v := 1) hx hb dX0_isSent_14 (by decide) ?_
  refine lv_icmp_ne (tgt := 22) hx hb dX0_isSent_15 (by decide) (fun c1 => ?_) (fun c1 => ?_)
  · skip
    refine lv_iconst (v := 0) hx hb dX0_isSent_22 (by decide) ?_
    exact g_ret X hr rfl G rfl (by simp [isSentC, bI, c1]) dX0_isSent_23
  · skip
    refine lv_iconst (v := 1) hx hb dX0_isSent_18 (by decide) ?_
    refine lv_goto (tgt := 23) hx hb dX0_isSent_19 (by decide) ?_
    exact g_ret X hr rfl G rfl (by simp [isSentC, bI, c1]) dX0_isSent_23
set_option maxHeartbeats 4000000 in
set_option maxRecDepth 100000 in
theorem c_X0_isAnySent (l : Launch) (E : EE) (a : Nat → Nat) (st : St) (w : va_W) (o : Nat) (ho : o < 16) (r : Nat) (hr : r < 5) : Ct l yX0_isAnySent cX0_isAnySent 3 (some .boolean) 0 E [.ref (a 2), .int (nI o), .int (nI r)] (wB E a st w) (bI (isAnyC st o r)) (wB E a st w) := by
  refine Ct_mk RX0 rfl (by decide +kernel) (Nat.le_of_ble_eq_true rfl) ?_
  intro p e s m below meth c A ls X hr G hl
  have hl : lv_has ls 3 [(0, .ref (a 2)), (1, .int (nI o)), (2, .int (nI r))] := hl
  obtain ⟨hx, hb, hml, hown, hts, hK, hA, hlocks⟩ := id X
  refine lv_aload_n hx hb dX0_isAnySent_0 rfl (lv_at hl 0 rfl) ?_
  refine g_get X G fX0_27 2 rfl rfl dX0_isAnySent_1 ?_
  refine lv_iload_n hx hb dX0_isAnySent_4 rfl (lv_at hl 1 rfl) ?_
  refine lv_iconst (v := 5) hx hb dX0_isAnySent_5 (by decide) ?_
  refine n_imul o 5 rfl rfl hx hb dX0_isAnySent_6 ?_
  refine lv_iload_n hx hb dX0_isAnySent_7 rfl (lv_at hl 2 rfl) ?_
  refine n_iadd (o * 5) r rfl rfl hx hb dX0_isAnySent_8 ?_
  refine g_iald (j := (o * 5) + r) X G 9 rfl rfl (by omega) (by decide) dX0_isAnySent_9 ?_
  refine lv_if_eq (tgt := 17) hx hb dX0_isAnySent_10 (by decide) (fun c1 => ?_) (fun c1 => ?_)
  · skip
    refine lv_iconst (v := 0) hx hb dX0_isAnySent_17 (by decide) ?_
    exact g_ret X hr rfl G rfl (by simp [isAnyC, bI, c1]) dX0_isAnySent_18
  · skip
    refine lv_iconst (v := 1) hx hb dX0_isAnySent_13 (by decide) ?_
    refine lv_goto (tgt := 18) hx hb dX0_isAnySent_14 (by decide) ?_
    exact g_ret X hr rfl G rfl (by simp [isAnyC, bI, c1]) dX0_isAnySent_18
set_option maxHeartbeats 4000000 in
set_option maxRecDepth 100000 in
theorem c_X0_countAll (l : Launch) (E : EE) (a : Nat → Nat) (st : St) (w : va_W) : Ct l yX0_countAll cX0_countAll 3 (some .int) 1 E [.ref (a 2)] (wB E a st w) (nI (countAllC st)) (wB E a st w) := by
  refine Ct_mk RX0 rfl (by decide +kernel) (Nat.le_of_ble_eq_true rfl) ?_
  intro p e s m below meth c A ls X hr G hl
  have hl : lv_has ls 3 [(0, .ref (a 2))] := hl
  obtain ⟨hx, hb, hml, hown, hts, hK, hA, hlocks⟩ := id X
  refine lv_iconst (v := 0) hx hb dX0_countAll_0 (by decide) ?_
  refine lv_istore_n (lv' := [(1, .int 0), (0, .ref (a 2))]) hx hb dX0_countAll_1 rfl hl (by decide) rfl (fun ls hl => ?_)
  refine lv_iconst (v := 0) hx hb dX0_countAll_2 (by decide) ?_
  refine lv_istore_n (lv' := [(2, .int 0), (1, .int 0), (0, .ref (a 2))]) hx hb dX0_countAll_3 rfl hl (by decide) rfl (fun ls hl => ?_)
  have LP4 : ∀ (n i : Nat) (k : Nat) (H : Heap) (locs : List Loc) (ls : Array Slot), (i + n = 16) → (k + cF (lentC st) n i = countAllC st) → Gw E A s (wB E a st w) H locs → lv_has ls 3 [(0, .ref (a 2)), (1, .int (nI k)), (2, .int (nI i))] → W p l e (rmD 1) s m ([.ref (a 2)] : List Value).toArray below meth c H locs 0 0 (MQ below (CtQ E A (nI (countAllC st)) (wB E a st w)) ([.ref (a 2)] : List Value).toArray s 0 0 A) (F0 m 4 ls []) := by
    intro n
    induction n with
    | zero =>
      intro i k H locs ls hi hR G hl
      refine lv_iload_n hx hb dX0_countAll_4 rfl (lv_at hl 2 rfl) ?_
      refine lv_bipush (v := 16) hx hb dX0_countAll_5 (by decide) ?_
      refine n_cmp_ge (tgt := 27) i 16 rfl rfl (by omega) (by omega) hx hb dX0_countAll_7 (by decide) (fun c1 => ?_) (fun c1 => ?_)
      · skip
        refine lv_iload_n hx hb dX0_countAll_27 rfl (lv_at hl 1 rfl) ?_
        exact g_iret X hr G rfl (by rw [← hR]; simp [cF]) dX0_countAll_28
      · skip
        exact absurd c1 (by omega)
    | succ n ih4 =>
      intro i k H locs ls hi hR G hl
      refine lv_iload_n hx hb dX0_countAll_4 rfl (lv_at hl 2 rfl) ?_
      refine lv_bipush (v := 16) hx hb dX0_countAll_5 (by decide) ?_
      refine n_cmp_ge (tgt := 27) i 16 rfl rfl (by omega) (by omega) hx hb dX0_countAll_7 (by decide) (fun c2 => ?_) (fun c2 => ?_)
      · skip
        exact absurd c2 (by omega)
      · skip
        refine lv_aload_n hx hb dX0_countAll_10 rfl (lv_at hl 0 rfl) ?_
        refine lv_iload_n hx hb dX0_countAll_11 rfl (lv_at hl 2 rfl) ?_
        refine g_callV (As := [.int (nI i)]) (rest := []) X kX0_46 (c_X0_isLent l E a st w i (by omega)) G 2 rfl rfl ⟨Nat.le_of_ble_eq_true rfl, Nat.le_of_ble_eq_true rfl⟩ ⟨Nat.le_refl _, Nat.le_refl _⟩ rfl hl.1 rfl (Nat.le_of_ble_eq_true rfl) dX0_countAll_12 (fun H locs G => ?_)
        refine b_ifeq (tgt := 21) hx hb dX0_countAll_15 (by decide) (fun c3 => ?_) (fun c3 => ?_)
        · skip
          refine lv_iinc (v := nI (i + 1)) (lv' := [(2, .int (nI (i + 1))), (0, .ref (a 2)), (1, .int (nI k))]) hx hb dX0_countAll_21 hl (k := 2) rfl (nI_inc _) (by decide) rfl (fun ls hl => ?_)
          refine lv_goto (tgt := 4) hx hb dX0_countAll_24 (by decide) ?_
          exact ih4 (i + 1) k _ _ ls (by omega) (by simp [cF, c2, c3] at hR ⊢; omega) G (lv_sub hl [1, 2, 0] rfl)
        · skip
          refine lv_iinc (v := nI (k + 1)) (lv' := [(1, .int (nI (k + 1))), (0, .ref (a 2)), (2, .int (nI i))]) hx hb dX0_countAll_18 hl (k := 1) rfl (nI_inc _) (by decide) rfl (fun ls hl => ?_)
          refine lv_iinc (v := nI (i + 1)) (lv' := [(2, .int (nI (i + 1))), (1, .int (nI (k + 1))), (0, .ref (a 2))]) hx hb dX0_countAll_21 hl (k := 2) rfl (nI_inc _) (by decide) rfl (fun ls hl => ?_)
          refine lv_goto (tgt := 4) hx hb dX0_countAll_24 (by decide) ?_
          exact ih4 (i + 1) (k + 1) _ _ ls (by omega) (by simp [cF, c2, c3] at hR ⊢; omega) G (lv_sub hl [2, 1, 0] rfl)
  exact LP4 16 0 0 _ _ ls (by omega) (by simp [countAllC]) G (lv_sub hl [2, 1, 0] rfl)
set_option maxHeartbeats 4000000 in
set_option maxRecDepth 100000 in
theorem c_X0_countOfHost (l : Launch) (E : EE) (a : Nat → Nat) (st : St) (w : va_W) (h : Int32) : Ct l yX0_countOfHost cX0_countOfHost 4 (some .int) 2 E [.ref (a 2), .int h] (wB E a st w) (nI (countHostC st h)) (wB E a st w) := by
  refine Ct_mk RX0 rfl (by decide +kernel) (Nat.le_of_ble_eq_true rfl) ?_
  intro p e s m below meth c A ls X hr G hl
  have hl : lv_has ls 4 [(0, .ref (a 2)), (1, .int h)] := hl
  obtain ⟨hx, hb, hml, hown, hts, hK, hA, hlocks⟩ := id X
  refine lv_iconst (v := 0) hx hb dX0_countOfHost_0 (by decide) ?_
  refine lv_istore_n (lv' := [(2, .int 0), (0, .ref (a 2)), (1, .int h)]) hx hb dX0_countOfHost_1 rfl hl (by decide) rfl (fun ls hl => ?_)
  refine lv_iconst (v := 0) hx hb dX0_countOfHost_2 (by decide) ?_
  refine lv_istore_n (lv' := [(3, .int 0), (2, .int 0), (0, .ref (a 2)), (1, .int h)]) hx hb dX0_countOfHost_3 rfl hl (by decide) rfl (fun ls hl => ?_)
  have LP4 : ∀ (n i : Nat) (k : Nat) (H : Heap) (locs : List Loc) (ls : Array Slot), (i + n = 16) → (k + cF (fun o => decide (hostC st o = h)) n i = countHostC st h) → Gw E A s (wB E a st w) H locs → lv_has ls 4 [(0, .ref (a 2)), (1, .int h), (2, .int (nI k)), (3, .int (nI i))] → W p l e (rmD 2) s m ([.ref (a 2), .int h] : List Value).toArray below meth c H locs 0 0 (MQ below (CtQ E A (nI (countHostC st h)) (wB E a st w)) ([.ref (a 2), .int h] : List Value).toArray s 0 0 A) (F0 m 4 ls []) := by
    intro n
    induction n with
    | zero =>
      intro i k H locs ls hi hR G hl
      refine lv_iload_n hx hb dX0_countOfHost_4 rfl (lv_at hl 3 rfl) ?_
      refine lv_bipush (v := 16) hx hb dX0_countOfHost_5 (by decide) ?_
      refine n_cmp_ge (tgt := 28) i 16 rfl rfl (by omega) (by omega) hx hb dX0_countOfHost_7 (by decide) (fun c1 => ?_) (fun c1 => ?_)
      · skip
        refine lv_iload_n hx hb dX0_countOfHost_28 rfl (lv_at hl 2 rfl) ?_
        exact g_iret X hr G rfl (by rw [← hR]; simp [cF]) dX0_countOfHost_29
      · skip
        exact absurd c1 (by omega)
    | succ n ih4 =>
      intro i k H locs ls hi hR G hl
      refine lv_iload_n hx hb dX0_countOfHost_4 rfl (lv_at hl 3 rfl) ?_
      refine lv_bipush (v := 16) hx hb dX0_countOfHost_5 (by decide) ?_
      refine n_cmp_ge (tgt := 28) i 16 rfl rfl (by omega) (by omega) hx hb dX0_countOfHost_7 (by decide) (fun c2 => ?_) (fun c2 => ?_)
      · skip
        exact absurd c2 (by omega)
      · skip
        refine lv_aload_n hx hb dX0_countOfHost_10 rfl (lv_at hl 0 rfl) ?_
        refine lv_iload_n hx hb dX0_countOfHost_11 rfl (lv_at hl 3 rfl) ?_
        refine g_callV (As := [.int (nI i)]) (rest := []) X kX0_50 (c_X0_hostOf l E a st w i (by omega)) G 2 rfl rfl ⟨Nat.le_of_ble_eq_true rfl, Nat.le_of_ble_eq_true rfl⟩ ⟨Nat.le_refl _, Nat.le_refl _⟩ rfl hl.1 rfl (Nat.le_of_ble_eq_true rfl) dX0_countOfHost_12 (fun H locs G => ?_)
        refine lv_iload_n hx hb dX0_countOfHost_15 rfl (lv_at hl 1 rfl) ?_
        refine lv_icmp_ne (tgt := 22) hx hb dX0_countOfHost_16 (by decide) (fun c3 => ?_) (fun c3 => ?_)
        · skip
          refine lv_iinc (v := nI (i + 1)) (lv' := [(3, .int (nI (i + 1))), (0, .ref (a 2)), (1, .int h), (2, .int (nI k))]) hx hb dX0_countOfHost_22 hl (k := 3) rfl (nI_inc _) (by decide) rfl (fun ls hl => ?_)
          refine lv_goto (tgt := 4) hx hb dX0_countOfHost_25 (by decide) ?_
          exact ih4 (i + 1) k _ _ ls (by omega) (by simp [cF, c2, c3] at hR ⊢; omega) G (lv_sub hl [1, 2, 3, 0] rfl)
        · skip
          refine lv_iinc (v := nI (k + 1)) (lv' := [(2, .int (nI (k + 1))), (0, .ref (a 2)), (1, .int h), (3, .int (nI i))]) hx hb dX0_countOfHost_19 hl (k := 2) rfl (nI_inc _) (by decide) rfl (fun ls hl => ?_)
          refine lv_iinc (v := nI (i + 1)) (lv' := [(3, .int (nI (i + 1))), (2, .int (nI (k + 1))), (0, .ref (a 2)), (1, .int h)]) hx hb dX0_countOfHost_22 hl (k := 3) rfl (nI_inc _) (by decide) rfl (fun ls hl => ?_)
          refine lv_goto (tgt := 4) hx hb dX0_countOfHost_25 (by decide) ?_
          exact ih4 (i + 1) (k + 1) _ _ ls (by omega) (by simp [cF, c2, c3] at hR ⊢; omega) G (lv_sub hl [2, 3, 1, 0] rfl)
  exact LP4 16 0 0 _ _ ls (by omega) (by simp [countHostC]) G (lv_sub hl [2, 3, 1, 0] rfl)
set_option maxHeartbeats 4000000 in
set_option maxRecDepth 100000 in
theorem c_X0_holderOf (l : Launch) (E : EE) (a : Nat → Nat) (st : St) (w : va_W) (b : Nat) (hb : b < 4) : Ct l yX0_holderOf cX0_holderOf 4 (some .int) 2 E [.ref (a 2), .int (nI b)] (wB E a st w) (holderC st b) (wB E a st w) := by
  refine Ct_mk RX0 rfl (by decide +kernel) (Nat.le_of_ble_eq_true rfl) ?_
  intro p e s m below meth c A ls X hr G hl
  have hl : lv_has ls 4 [(0, .ref (a 2)), (1, .int (nI b))] := hl
  obtain ⟨hx, hb, hml, hown, hts, hK, hA, hlocks⟩ := id X
  refine lv_iconst (v := 0) hx hb dX0_holderOf_0 (by decide) ?_
  refine lv_istore_n (lv' := [(2, .int 0), (0, .ref (a 2)), (1, .int (nI b))]) hx hb dX0_holderOf_1 rfl hl (by decide) rfl (fun ls hl => ?_)
  have LP2 : ∀ (n i : Nat)  (H : Heap) (locs : List Loc) (ls : Array Slot), (i + n = 4) → ((match fF (fun i => !decide (hostC st (b * 4 + i) = -6)) n i with | none => -6 | some i => hostC st (b * 4 + i)) = holderC st b) → Gw E A s (wB E a st w) H locs → lv_has ls 4 [(0, .ref (a 2)), (1, .int (nI b)), (2, .int (nI i))] → W p l e (rmD 2) s m ([.ref (a 2), .int (nI b)] : List Value).toArray below meth c H locs 0 0 (MQ below (CtQ E A (holderC st b) (wB E a st w)) ([.ref (a 2), .int (nI b)] : List Value).toArray s 0 0 A) (F0 m 2 ls []) := by
    intro n
    induction n with
    | zero =>
      intro i  H locs ls hi hR G hl
      refine lv_iload_n hx hb dX0_holderOf_2 rfl (lv_at hl 2 rfl) ?_
      refine lv_iconst (v := 4) hx hb dX0_holderOf_3 (by decide) ?_
      refine n_cmp_ge (tgt := 31) i 4 rfl rfl (by omega) (by omega) hx hb dX0_holderOf_4 (by decide) (fun c1 => ?_) (fun c1 => ?_)
      · skip
        refine lv_bipush (v := (-6)) hx hb dX0_holderOf_31 (by decide) ?_
        exact g_iret X hr G rfl (by rw [← hR]; simp [fF, c1]) dX0_holderOf_33
      · skip
        exact absurd c1 (by omega)
    | succ n ih2 =>
      intro i  H locs ls hi hR G hl
      refine lv_iload_n hx hb dX0_holderOf_2 rfl (lv_at hl 2 rfl) ?_
      refine lv_iconst (v := 4) hx hb dX0_holderOf_3 (by decide) ?_
      refine n_cmp_ge (tgt := 31) i 4 rfl rfl (by omega) (by omega) hx hb dX0_holderOf_4 (by decide) (fun c2 => ?_) (fun c2 => ?_)
      · skip
        exact absurd c2 (by omega)
      · skip
        refine lv_aload_n hx hb dX0_holderOf_7 rfl (lv_at hl 0 rfl) ?_
        refine lv_iload_n hx hb dX0_holderOf_8 rfl (lv_at hl 1 rfl) ?_
        refine lv_iconst (v := 4) hx hb dX0_holderOf_9 (by decide) ?_
        refine n_imul b 4 rfl rfl hx hb dX0_holderOf_10 ?_
        refine lv_iload_n hx hb dX0_holderOf_11 rfl (lv_at hl 2 rfl) ?_
        refine n_iadd (b * 4) i rfl rfl hx hb dX0_holderOf_12 ?_
        refine g_callV (As := [.int (nI ((b * 4) + i))]) (rest := []) X kX0_50 (c_X0_hostOf l E a st w ((b * 4) + i) (by omega)) G 2 rfl rfl ⟨Nat.le_of_ble_eq_true rfl, Nat.le_of_ble_eq_true rfl⟩ ⟨Nat.le_refl _, Nat.le_refl _⟩ rfl hl.1 rfl (Nat.le_of_ble_eq_true rfl) dX0_holderOf_13 (fun H locs G => ?_)
        refine lv_istore_n (lv' := [(3, .int (hostC st ((b * 4) + i))), (0, .ref (a 2)), (1, .int (nI b)), (2, .int (nI i))]) hx hb dX0_holderOf_16 rfl hl (by decide) rfl (fun ls hl => ?_)
        refine lv_iload_n hx hb dX0_holderOf_17 rfl (lv_at hl 0 rfl) ?_
        refine lv_bipush (v := (-6)) hx hb dX0_holderOf_18 (by decide) ?_
        refine lv_icmp_eq (tgt := 25) hx hb dX0_holderOf_20 (by decide) (fun c3 => ?_) (fun c3 => ?_)
        · skip
          refine lv_iinc (v := nI (i + 1)) (lv' := [(2, .int (nI (i + 1))), (3, .int (hostC st ((b * 4) + i))), (0, .ref (a 2)), (1, .int (nI b))]) hx hb dX0_holderOf_25 hl (k := 3) rfl (nI_inc _) (by decide) rfl (fun ls hl => ?_)
          refine lv_goto (tgt := 2) hx hb dX0_holderOf_28 (by decide) ?_
          exact ih2 (i + 1)  _ _ ls (by omega) (by rw [← hR]; simp [fF, c2, c3]) G (lv_sub hl [2, 3, 0] rfl)
        · skip
          refine lv_iload_n hx hb dX0_holderOf_23 rfl (lv_at hl 0 rfl) ?_
          exact g_iret X hr G rfl (by rw [← hR]; simp [fF, c2, c3]) dX0_holderOf_24
  exact LP2 4 0  _ _ ls (by omega) rfl G (lv_sub hl [1, 2, 0] rfl)
set_option maxHeartbeats 4000000 in
set_option maxRecDepth 100000 in
theorem c_X0_blocksOf (l : Launch) (E : EE) (a : Nat → Nat) (st : St) (w : va_W) (h : Int32) : Ct l yX0_blocksOf cX0_blocksOf 4 (some .int) 3 E [.ref (a 2), .int h] (wB E a st w) (blocksC st h) (wB E a st w) := by
  refine Ct_mk RX0 rfl (by decide +kernel) (Nat.le_of_ble_eq_true rfl) ?_
  intro p e s m below meth c A ls X hr G hl
  have hl : lv_has ls 4 [(0, .ref (a 2)), (1, .int h)] := hl
  obtain ⟨hx, hb, hml, hown, hts, hK, hA, hlocks⟩ := id X
  refine lv_iconst (v := 0) hx hb dX0_blocksOf_0 (by decide) ?_
  refine lv_istore_n (lv' := [(2, .int 0), (0, .ref (a 2)), (1, .int h)]) hx hb dX0_blocksOf_1 rfl hl (by decide) rfl (fun ls hl => ?_)
  refine lv_iconst (v := 0) hx hb dX0_blocksOf_2 (by decide) ?_
  refine lv_istore_n (lv' := [(3, .int 0), (2, .int 0), (0, .ref (a 2)), (1, .int h)]) hx hb dX0_blocksOf_3 rfl hl (by decide) rfl (fun ls hl => ?_)
  have LP4 : ∀ (n i : Nat) (k : Int32) (H : Heap) (locs : List Loc) (ls : Array Slot), (i + n = 4) → (orF (fun b => decide (holderC st b = h)) n i k = blocksC st h) → Gw E A s (wB E a st w) H locs → lv_has ls 4 [(0, .ref (a 2)), (1, .int h), (2, .int k), (3, .int (nI i))] → W p l e (rmD 3) s m ([.ref (a 2), .int h] : List Value).toArray below meth c H locs 0 0 (MQ below (CtQ E A (blocksC st h) (wB E a st w)) ([.ref (a 2), .int h] : List Value).toArray s 0 0 A) (F0 m 4 ls []) := by
    intro n
    induction n with
    | zero =>
      intro i k H locs ls hi hR G hl
      refine lv_iload_n hx hb dX0_blocksOf_4 rfl (lv_at hl 3 rfl) ?_
      refine lv_iconst (v := 4) hx hb dX0_blocksOf_5 (by decide) ?_
      refine n_cmp_ge (tgt := 30) i 4 rfl rfl (by omega) (by omega) hx hb dX0_blocksOf_6 (by decide) (fun c1 => ?_) (fun c1 => ?_)
      · skip
        refine lv_iload_n hx hb dX0_blocksOf_30 rfl (lv_at hl 2 rfl) ?_
        exact g_iret X hr G rfl (by rw [← hR]; simp [orF]) dX0_blocksOf_31
      · skip
        exact absurd c1 (by omega)
    | succ n ih4 =>
      intro i k H locs ls hi hR G hl
      refine lv_iload_n hx hb dX0_blocksOf_4 rfl (lv_at hl 3 rfl) ?_
      refine lv_iconst (v := 4) hx hb dX0_blocksOf_5 (by decide) ?_
      refine n_cmp_ge (tgt := 30) i 4 rfl rfl (by omega) (by omega) hx hb dX0_blocksOf_6 (by decide) (fun c2 => ?_) (fun c2 => ?_)
      · skip
        exact absurd c2 (by omega)
      · skip
        refine lv_aload_n hx hb dX0_blocksOf_9 rfl (lv_at hl 0 rfl) ?_
        refine lv_iload_n hx hb dX0_blocksOf_10 rfl (lv_at hl 3 rfl) ?_
        refine g_callV (As := [.int (nI i)]) (rest := []) X kX0_53 (c_X0_holderOf l E a st w i (by omega)) G 2 rfl rfl ⟨Nat.le_of_ble_eq_true rfl, Nat.le_of_ble_eq_true rfl⟩ ⟨Nat.le_refl _, Nat.le_refl _⟩ rfl hl.1 rfl (Nat.le_of_ble_eq_true rfl) dX0_blocksOf_11 (fun H locs G => ?_)
        refine lv_iload_n hx hb dX0_blocksOf_14 rfl (lv_at hl 1 rfl) ?_
        refine lv_icmp_ne (tgt := 24) hx hb dX0_blocksOf_15 (by decide) (fun c3 => ?_) (fun c3 => ?_)
        · skip
          refine lv_iinc (v := nI (i + 1)) (lv' := [(3, .int (nI (i + 1))), (0, .ref (a 2)), (1, .int h), (2, .int k)]) hx hb dX0_blocksOf_24 hl (k := 3) rfl (nI_inc _) (by decide) rfl (fun ls hl => ?_)
          refine lv_goto (tgt := 4) hx hb dX0_blocksOf_27 (by decide) ?_
          exact ih4 (i + 1) k _ _ ls (by omega) (by rw [← hR]; simp [orF, c2, c3]) G (lv_sub hl [1, 2, 3, 0] rfl)
        · skip
          refine lv_iload_n hx hb dX0_blocksOf_18 rfl (lv_at hl 2 rfl) ?_
          refine lv_iconst (v := 1) hx hb dX0_blocksOf_19 (by decide) ?_
          refine lv_iload_n hx hb dX0_blocksOf_20 rfl (lv_at hl 3 rfl) ?_
          refine lv_ishl hx hb dX0_blocksOf_21 ?_
          refine lv_ior hx hb dX0_blocksOf_22 ?_
          refine lv_istore_n (lv' := [(2, .int (k ||| (1 <<< ((nI i) &&& 31)))), (0, .ref (a 2)), (1, .int h), (3, .int (nI i))]) hx hb dX0_blocksOf_23 rfl hl (by decide) rfl (fun ls hl => ?_)
          refine lv_iinc (v := nI (i + 1)) (lv' := [(3, .int (nI (i + 1))), (2, .int (k ||| (1 <<< ((nI i) &&& 31)))), (0, .ref (a 2)), (1, .int h)]) hx hb dX0_blocksOf_24 hl (k := 3) rfl (nI_inc _) (by decide) rfl (fun ls hl => ?_)
          refine lv_goto (tgt := 4) hx hb dX0_blocksOf_27 (by decide) ?_
          exact ih4 (i + 1) (k ||| (1 <<< ((nI i) &&& 31))) _ _ ls (by omega) (by rw [← hR]; simp [orF, c2, c3]) G (lv_sub hl [2, 3, 1, 0] rfl)
  exact LP4 4 0 0 _ _ ls (by omega) rfl G (lv_sub hl [2, 3, 1, 0] rfl)
set_option maxHeartbeats 4000000 in
set_option maxRecDepth 100000 in
theorem c_X2_isKnown (l : Launch) (E : EE) (a : Nat → Nat) (st : St) (w : va_W) (k : Nat) (hk : k < 32) : Ct l yX2_isKnown cX2_isKnown 2 (some .boolean) 0 E [.ref (a 3), .int (nI k)] (wB E a st w) (bI (knownC st k)) (wB E a st w) := by
  refine Ct_mk RX2 rfl (by decide +kernel) (Nat.le_of_ble_eq_true rfl) ?_
  intro p e s m below meth c A ls X hr G hl
  have hl : lv_has ls 2 [(0, .ref (a 3)), (1, .int (nI k))] := hl
  obtain ⟨hx, hb, hml, hown, hts, hK, hA, hlocks⟩ := id X
  refine lv_aload_n hx hb dX2_isKnown_0 rfl (lv_at hl 0 rfl) ?_
  refine g_get X G fX2_9 3 rfl rfl dX2_isKnown_1 ?_
  refine lv_iload_n hx hb dX2_isKnown_4 rfl (lv_at hl 1 rfl) ?_
  refine g_iald (j := k) X G 10 rfl rfl (by omega) (by decide) dX2_isKnown_5 ?_
  refine lv_bipush (v := (-6)) hx hb dX2_isKnown_6 (by decide) ?_
  refine lv_icmp_eq (tgt := 15) hx hb dX2_isKnown_8 (by decide) (fun c1 => ?_) (fun c1 => ?_)
  · skip
    refine lv_iconst (v := 0) hx hb dX2_isKnown_15 (by decide) ?_
    exact g_ret X hr rfl G rfl (by simp [knownC, bI, c1]) dX2_isKnown_16
  · skip
    refine lv_iconst (v := 1) hx hb dX2_isKnown_11 (by decide) ?_
    refine lv_goto (tgt := 16) hx hb dX2_isKnown_12 (by decide) ?_
    exact g_ret X hr rfl G rfl (by simp [knownC, bI, c1]) dX2_isKnown_16
set_option maxHeartbeats 4000000 in
set_option maxRecDepth 100000 in
theorem c_X2_know (l : Launch) (E : EE) (a : Nat → Nat) (st : St) (w : va_W) (k : Nat) (hk : k < 32) (o : Int32) (t : Int32) : Cv l yX2_know cX2_know 4 0 E [.ref (a 3), .int (nI k), .int o, .int t] (wB E a st w) (wB E a (sU (sU st 7 k o) 8 k t) w) := by
  refine Cv_mk RX2 rfl (by decide +kernel) (Nat.le_of_ble_eq_true rfl) ?_
  intro p e s m below meth c A ls X hr G hl
  have hl : lv_has ls 4 [(0, .ref (a 3)), (1, .int (nI k)), (2, .int o), (3, .int t)] := hl
  obtain ⟨hx, hb, hml, hown, hts, hK, hA, hlocks⟩ := id X
  refine lv_aload_n hx hb dX2_know_0 rfl (lv_at hl 0 rfl) ?_
  refine g_get X G fX2_9 3 rfl rfl dX2_know_1 ?_
  refine lv_iload_n hx hb dX2_know_4 rfl (lv_at hl 1 rfl) ?_
  refine lv_iload_n hx hb dX2_know_5 rfl (lv_at hl 2 rfl) ?_
  refine g_iast (j := k) X G 10 rfl rfl (by omega) (by decide) dX2_know_6 (fun H locs G => ?_)
  have G : Gw E A s (wB E a (sU st 7 k o) w) H locs := G
  refine lv_aload_n hx hb dX2_know_7 rfl (lv_at hl 0 rfl) ?_
  refine g_get X G fX2_15 3 rfl rfl dX2_know_8 ?_
  refine lv_iload_n hx hb dX2_know_11 rfl (lv_at hl 1 rfl) ?_
  refine lv_iload_n hx hb dX2_know_12 rfl (lv_at hl 3 rfl) ?_
  refine g_iast (j := k) X G 11 rfl rfl (by omega) (by decide) dX2_know_13 (fun H locs G => ?_)
  have G : Gw E A s (wB E a (sU (sU st 7 k o) 8 k t) w) H locs := G
  exact g_vret X hr G rfl dX2_know_14
set_option maxHeartbeats 4000000 in
set_option maxRecDepth 100000 in
theorem c_X2_forget (l : Launch) (E : EE) (a : Nat → Nat) (st : St) (w : va_W) (k : Nat) (hk : k < 32) : Cv l yX2_forget cX2_forget 2 0 E [.ref (a 3), .int (nI k)] (wB E a st w) (wB E a (sU st 7 k (-6)) w) := by
  refine Cv_mk RX2 rfl (by decide +kernel) (Nat.le_of_ble_eq_true rfl) ?_
  intro p e s m below meth c A ls X hr G hl
  have hl : lv_has ls 2 [(0, .ref (a 3)), (1, .int (nI k))] := hl
  obtain ⟨hx, hb, hml, hown, hts, hK, hA, hlocks⟩ := id X
  refine lv_aload_n hx hb dX2_forget_0 rfl (lv_at hl 0 rfl) ?_
  refine g_get X G fX2_9 3 rfl rfl dX2_forget_1 ?_
  refine lv_iload_n hx hb dX2_forget_4 rfl (lv_at hl 1 rfl) ?_
  refine lv_bipush (v := (-6)) hx hb dX2_forget_5 (by decide) ?_
  refine g_iast (j := k) X G 10 rfl rfl (by omega) (by decide) dX2_forget_7 (fun H locs G => ?_)
  have G : Gw E A s (wB E a (sU st 7 k (-6)) w) H locs := G
  exact g_vret X hr G rfl dX2_forget_8
set_option maxHeartbeats 4000000 in
set_option maxRecDepth 100000 in
theorem c_X2_forgetAllOf (l : Launch) (E : EE) (a : Nat → Nat) (st : St) (w : va_W) (o : Int32) : Cv l yX2_forgetAllOf cX2_forgetAllOf 3 1 E [.ref (a 3), .int o] (wB E a st w) (wB E a (iF (forgetAllC o) 32 0 st) w) := by
  refine Cv_mk RX2 rfl (by decide +kernel) (Nat.le_of_ble_eq_true rfl) ?_
  intro p e s m below meth c A ls X hr G hl
  have hl : lv_has ls 3 [(0, .ref (a 3)), (1, .int o)] := hl
  obtain ⟨hx, hb, hml, hown, hts, hK, hA, hlocks⟩ := id X
  refine lv_iconst (v := 0) hx hb dX2_forgetAllOf_0 (by decide) ?_
  refine lv_istore_n (lv' := [(2, .int 0), (0, .ref (a 3)), (1, .int o)]) hx hb dX2_forgetAllOf_1 rfl hl (by decide) rfl (fun ls hl => ?_)
  have LP2 : ∀ (n i : Nat) (sx : St) (H : Heap) (locs : List Loc) (ls : Array Slot), (i + n = 32) → (iF (forgetAllC o) n i sx = iF (forgetAllC o) 32 0 st) → Gw E A s (wB E a sx w) H locs → lv_has ls 3 [(0, .ref (a 3)), (1, .int o), (2, .int (nI i))] → W p l e (rmD 1) s m ([.ref (a 3), .int o] : List Value).toArray below meth c H locs 0 0 (MQ below (CvQ E A (wB E a (iF (forgetAllC o) 32 0 st) w)) ([.ref (a 3), .int o] : List Value).toArray s 0 0 A) (F0 m 2 ls []) := by
    intro n
    induction n with
    | zero =>
      intro i sx H locs ls hi hR G hl
      refine lv_iload_n hx hb dX2_forgetAllOf_2 rfl (lv_at hl 2 rfl) ?_
      refine lv_bipush (v := 32) hx hb dX2_forgetAllOf_3 (by decide) ?_
      refine n_cmp_ge (tgt := 29) i 32 rfl rfl (by omega) (by omega) hx hb dX2_forgetAllOf_5 (by decide) (fun c1 => ?_) (fun c1 => ?_)
      · skip
        exact g_vret X hr G (congrArg (fun z => wB E a z w) (by rw [← hR]; rfl)) dX2_forgetAllOf_29
      · skip
        exact absurd c1 (by omega)
    | succ n ih2 =>
      intro i sx H locs ls hi hR G hl
      refine lv_iload_n hx hb dX2_forgetAllOf_2 rfl (lv_at hl 2 rfl) ?_
      refine lv_bipush (v := 32) hx hb dX2_forgetAllOf_3 (by decide) ?_
      refine n_cmp_ge (tgt := 29) i 32 rfl rfl (by omega) (by omega) hx hb dX2_forgetAllOf_5 (by decide) (fun c2 => ?_) (fun c2 => ?_)
      · skip
        exact absurd c2 (by omega)
      · skip
        refine lv_aload_n hx hb dX2_forgetAllOf_8 rfl (lv_at hl 0 rfl) ?_
        refine g_get X G fX2_9 3 rfl rfl dX2_forgetAllOf_9 ?_
        refine lv_iload_n hx hb dX2_forgetAllOf_12 rfl (lv_at hl 2 rfl) ?_
        refine g_iald (j := i) X G 10 rfl rfl (by omega) (by decide) dX2_forgetAllOf_13 ?_
        refine lv_iload_n hx hb dX2_forgetAllOf_14 rfl (lv_at hl 1 rfl) ?_
        refine lv_icmp_ne (tgt := 23) hx hb dX2_forgetAllOf_15 (by decide) (fun c3 => ?_) (fun c3 => ?_)
        · skip
          refine lv_iinc (v := nI (i + 1)) (lv' := [(2, .int (nI (i + 1))), (0, .ref (a 3)), (1, .int o)]) hx hb dX2_forgetAllOf_23 hl (k := 2) rfl (nI_inc _) (by decide) rfl (fun ls hl => ?_)
          refine lv_goto (tgt := 2) hx hb dX2_forgetAllOf_26 (by decide) ?_
          exact ih2 (i + 1) sx _ _ ls (by omega) (by rw [← hR]; simp [iF, forgetAllC, c2, c3]) G (lv_sub hl [1, 2, 0] rfl)
        · skip
          refine lv_aload_n hx hb dX2_forgetAllOf_18 rfl (lv_at hl 0 rfl) ?_
          refine lv_iload_n hx hb dX2_forgetAllOf_19 rfl (lv_at hl 2 rfl) ?_
          refine g_callVv (As := [.int (nI i)]) (rest := []) X kX2_30 (c_X2_forget l E a sx w i (by omega)) G 3 rfl rfl ⟨Nat.le_of_ble_eq_true rfl, Nat.le_of_ble_eq_true rfl⟩ ⟨Nat.le_refl _, Nat.le_refl _⟩ rfl hl.1 rfl (Nat.le_of_ble_eq_true rfl) dX2_forgetAllOf_20 (fun H locs G => ?_)
          refine lv_iinc (v := nI (i + 1)) (lv' := [(2, .int (nI (i + 1))), (0, .ref (a 3)), (1, .int o)]) hx hb dX2_forgetAllOf_23 hl (k := 2) rfl (nI_inc _) (by decide) rfl (fun ls hl => ?_)
          refine lv_goto (tgt := 2) hx hb dX2_forgetAllOf_26 (by decide) ?_
          exact ih2 (i + 1) (sU sx 7 i (-6)) _ _ ls (by omega) (by rw [← hR]; simp [iF, forgetAllC, c2, c3]) G (lv_sub hl [1, 2, 0] rfl)
  exact LP2 32 0 st _ _ ls (by omega) rfl G (lv_sub hl [1, 2, 0] rfl)
set_option maxHeartbeats 4000000 in
set_option maxRecDepth 100000 in
theorem c_X2_placeOf (l : Launch) (E : EE) (a : Nat → Nat) (st : St) (w : va_W) (v : Int32) : Ct l yX2_placeOf cX2_placeOf 3 (some .int) 0 E [.ref (a 3), .int v] (wB E a st w) (oI (placeO st v)) (wB E a st w) := by
  refine Ct_mk RX2 rfl (by decide +kernel) (Nat.le_of_ble_eq_true rfl) ?_
  intro p e s m below meth c A ls X hr G hl
  have hl : lv_has ls 3 [(0, .ref (a 3)), (1, .int v)] := hl
  obtain ⟨hx, hb, hml, hown, hts, hK, hA, hlocks⟩ := id X
  refine lv_iconst (v := 0) hx hb dX2_placeOf_0 (by decide) ?_
  refine lv_istore_n (lv' := [(2, .int 0), (0, .ref (a 3)), (1, .int v)]) hx hb dX2_placeOf_1 rfl hl (by decide) rfl (fun ls hl => ?_)
  have LP2 : ∀ (n i : Nat)  (H : Heap) (locs : List Loc) (ls : Array Slot), (i + n = 6) → (oI (fF (placeP st v) n i) = oI (placeO st v)) → Gw E A s (wB E a st w) H locs → lv_has ls 3 [(0, .ref (a 3)), (1, .int v), (2, .int (nI i))] → W p l e (rmD 0) s m ([.ref (a 3), .int v] : List Value).toArray below meth c H locs 0 0 (MQ below (CtQ E A (oI (placeO st v)) (wB E a st w)) ([.ref (a 3), .int v] : List Value).toArray s 0 0 A) (F0 m 2 ls []) := by
    intro n
    induction n with
    | zero =>
      intro i  H locs ls hi hR G hl
      refine lv_iload_n hx hb dX2_placeOf_2 rfl (lv_at hl 2 rfl) ?_
      refine lv_bipush (v := 6) hx hb dX2_placeOf_3 (by decide) ?_
      refine n_cmp_ge (tgt := 26) i 6 rfl rfl (by omega) (by omega) hx hb dX2_placeOf_5 (by decide) (fun c1 => ?_) (fun c1 => ?_)
      · skip
        refine lv_bipush (v := (-6)) hx hb dX2_placeOf_26 (by decide) ?_
        exact g_iret X hr G rfl (by rw [← hR]; simp [fF, placeP, oI, c1]) dX2_placeOf_28
      · skip
        exact absurd c1 (by omega)
    | succ n ih2 =>
      intro i  H locs ls hi hR G hl
      refine lv_iload_n hx hb dX2_placeOf_2 rfl (lv_at hl 2 rfl) ?_
      refine lv_bipush (v := 6) hx hb dX2_placeOf_3 (by decide) ?_
      refine n_cmp_ge (tgt := 26) i 6 rfl rfl (by omega) (by omega) hx hb dX2_placeOf_5 (by decide) (fun c2 => ?_) (fun c2 => ?_)
      · skip
        exact absurd c2 (by omega)
      · skip
        refine lv_aload_n hx hb dX2_placeOf_8 rfl (lv_at hl 0 rfl) ?_
        refine g_get X G fX2_18 3 rfl rfl dX2_placeOf_9 ?_
        refine lv_iload_n hx hb dX2_placeOf_12 rfl (lv_at hl 2 rfl) ?_
        refine g_iald (j := i) X G 12 rfl rfl (by omega) (by decide) dX2_placeOf_13 ?_
        refine lv_iload_n hx hb dX2_placeOf_14 rfl (lv_at hl 1 rfl) ?_
        refine lv_icmp_ne (tgt := 20) hx hb dX2_placeOf_15 (by decide) (fun c3 => ?_) (fun c3 => ?_)
        · skip
          refine lv_iinc (v := nI (i + 1)) (lv' := [(2, .int (nI (i + 1))), (0, .ref (a 3)), (1, .int v)]) hx hb dX2_placeOf_20 hl (k := 2) rfl (nI_inc _) (by decide) rfl (fun ls hl => ?_)
          refine lv_goto (tgt := 2) hx hb dX2_placeOf_23 (by decide) ?_
          exact ih2 (i + 1)  _ _ ls (by omega) (by rw [← hR]; simp [fF, placeP, c2, c3]) G (lv_sub hl [1, 2, 0] rfl)
        · skip
          refine lv_iload_n hx hb dX2_placeOf_18 rfl (lv_at hl 2 rfl) ?_
          exact g_iret X hr G rfl (by rw [← hR]; simp [fF, placeP, oI, c2, c3]) dX2_placeOf_19
  exact LP2 6 0  _ _ ls (by omega) rfl G (lv_sub hl [1, 2, 0] rfl)
set_option maxHeartbeats 4000000 in
set_option maxRecDepth 100000 in
theorem c_X2_hold (l : Launch) (E : EE) (a : Nat → Nat) (st : St) (w : va_W) (k : Nat) (hk : k < 32) (pt : Nat) (hpt : pt < 8) (t : Int32) : Ct l yX2_hold cX2_hold 6 (some .int) 1 E [.ref (a 3), .int (nI k), .int (nI pt), .int t] (wB E a st w) ((holdC st (nI (k * 8 + pt)) t).1) (wB E a ((holdC st (nI (k * 8 + pt)) t).2) w) := by
  refine Ct_mk RX2 rfl (by decide +kernel) (Nat.le_of_ble_eq_true rfl) ?_
  intro p e s m below meth c A ls X hr G hl
  have hl : lv_has ls 6 [(0, .ref (a 3)), (1, .int (nI k)), (2, .int (nI pt)), (3, .int t)] := hl
  obtain ⟨hx, hb, hml, hown, hts, hK, hA, hlocks⟩ := id X
  refine lv_iload_n hx hb dX2_hold_0 rfl (lv_at hl 1 rfl) ?_
  refine lv_bipush (v := 8) hx hb dX2_hold_1 (by decide) ?_
  refine n_imul k 8 rfl rfl hx hb dX2_hold_3 ?_
  refine lv_iload_n hx hb dX2_hold_4 rfl (lv_at hl 2 rfl) ?_
  refine n_iadd (k * 8) pt rfl rfl hx hb dX2_hold_5 ?_
  refine lv_istore (lv' := [(4, .int (nI ((k * 8) + pt))), (0, .ref (a 3)), (1, .int (nI k)), (2, .int (nI pt)), (3, .int t)]) hx hb dX2_hold_6 hl (by decide) rfl (fun ls hl => ?_)
  refine lv_aload_n hx hb dX2_hold_8 rfl (lv_at hl 1 rfl) ?_
  refine lv_iload hx hb dX2_hold_9 (lv_at hl 0 rfl) ?_
  refine g_callV (As := [.int (nI ((k * 8) + pt))]) (rest := []) X kX2_34 (c_X2_placeOf l E a st w (nI ((k * 8) + pt))) G 3 rfl rfl ⟨Nat.le_of_ble_eq_true rfl, Nat.le_of_ble_eq_true rfl⟩ ⟨Nat.le_refl _, Nat.le_refl _⟩ rfl hl.1 rfl (Nat.le_of_ble_eq_true rfl) dX2_hold_11 (fun H locs G => ?_)
  refine o_split (fun c2 => ?_) (fun j1 c3 => ?_)
  · skip
    refine lv_bipush (v := (-6)) hx hb dX2_hold_14 (by decide) ?_
    refine lv_icmp_eq (tgt := 21) hx hb dX2_hold_16 (by decide) (fun c4 => ?_) (fun c4 => ?_)
    · skip
      refine lv_aload_n hx hb dX2_hold_21 rfl (lv_at hl 1 rfl) ?_
      refine lv_bipush (v := (-6)) hx hb dX2_hold_22 (by decide) ?_
      refine g_callV (As := [.int (-6)]) (rest := []) X kX2_34 (c_X2_placeOf l E a st w (-6)) G 3 rfl rfl ⟨Nat.le_of_ble_eq_true rfl, Nat.le_of_ble_eq_true rfl⟩ ⟨Nat.le_refl _, Nat.le_refl _⟩ rfl hl.1 rfl (Nat.le_of_ble_eq_true rfl) dX2_hold_24 (fun H locs G => ?_)
      refine o_split (fun c6 => ?_) (fun j5 c7 => ?_)
      · skip
        refine lv_istore (lv' := [(5, .int (-6)), (4, .int (nI ((k * 8) + pt))), (0, .ref (a 3)), (1, .int (nI k)), (2, .int (nI pt)), (3, .int t)]) hx hb dX2_hold_27 hl (by decide) rfl (fun ls hl => ?_)
        refine lv_iload hx hb dX2_hold_29 (lv_at hl 0 rfl) ?_
        refine lv_bipush (v := (-6)) hx hb dX2_hold_31 (by decide) ?_
        refine lv_icmp_ne (tgt := 39) hx hb dX2_hold_33 (by decide) (fun c8 => ?_) (fun c8 => ?_)
        · skip
          exact absurd c8 (by decide)
        · skip
          refine lv_bipush (v := (-4)) hx hb dX2_hold_36 (by decide) ?_
          exact g_iret X hr G (congrArg (fun z => wB E a z w) (by simp [holdC, c2, c6])) (by simp [holdC, c2, c6]) dX2_hold_38
      · skip
        have bj5 : j5 < 6 := placeO_lt c7
        refine lv_istore (lv' := [(5, .int (nI j5)), (4, .int (nI ((k * 8) + pt))), (0, .ref (a 3)), (1, .int (nI k)), (2, .int (nI pt)), (3, .int t)]) hx hb dX2_hold_27 hl (by decide) rfl (fun ls hl => ?_)
        refine lv_iload hx hb dX2_hold_29 (lv_at hl 0 rfl) ?_
        refine lv_bipush (v := (-6)) hx hb dX2_hold_31 (by decide) ?_
        refine lv_icmp_ne (tgt := 39) hx hb dX2_hold_33 (by decide) (fun c9 => ?_) (fun c9 => ?_)
        · skip
          refine lv_aload_n hx hb dX2_hold_39 rfl (lv_at hl 2 rfl) ?_
          refine g_get X G fX2_18 3 rfl rfl dX2_hold_40 ?_
          refine lv_iload hx hb dX2_hold_43 (lv_at hl 0 rfl) ?_
          refine lv_iload hx hb dX2_hold_45 (lv_at hl 1 rfl) ?_
          refine g_iast (j := j5) X G 12 rfl rfl (by omega) (by decide) dX2_hold_47 (fun H locs G => ?_)
          have G : Gw E A s (wB E a (sU st 9 j5 (nI ((k * 8) + pt))) w) H locs := G
          refine lv_aload_n hx hb dX2_hold_48 rfl (lv_at hl 2 rfl) ?_
          refine g_get X G fX2_21 3 rfl rfl dX2_hold_49 ?_
          refine lv_iload hx hb dX2_hold_52 (lv_at hl 0 rfl) ?_
          refine lv_iload_n hx hb dX2_hold_54 rfl (lv_at hl 5 rfl) ?_
          refine g_iast (j := j5) X G 13 rfl rfl (by omega) (by decide) dX2_hold_55 (fun H locs G => ?_)
          have G : Gw E A s (wB E a (sU (sU st 9 j5 (nI ((k * 8) + pt))) 10 j5 t) w) H locs := G
          refine lv_iconst (v := 0) hx hb dX2_hold_56 (by decide) ?_
          exact g_iret X hr G (congrArg (fun z => wB E a z w) (by simp [holdC, c2, c7])) (by simp [holdC, c2, c7]) dX2_hold_57
        · skip
          exact absurd c9 (nI_m6 (by omega))
    · skip
      exact absurd c4 (by decide)
  · skip
    have bj1 : j1 < 6 := placeO_lt c3
    refine lv_bipush (v := (-6)) hx hb dX2_hold_14 (by decide) ?_
    refine lv_icmp_eq (tgt := 21) hx hb dX2_hold_16 (by decide) (fun c10 => ?_) (fun c10 => ?_)
    · skip
      exact absurd c10 (nI_m6 (by omega))
    · skip
      refine lv_iconst (v := 0) hx hb dX2_hold_19 (by decide) ?_
      exact g_iret X hr G (congrArg (fun z => wB E a z w) (by simp [holdC, c3])) (by simp [holdC, c3]) dX2_hold_20
set_option maxHeartbeats 4000000 in
set_option maxRecDepth 100000 in
theorem c_X2_releaseHeld (l : Launch) (E : EE) (a : Nat → Nat) (st : St) (w : va_W) (k : Int32) : Ct l yX2_releaseHeld cX2_releaseHeld 4 (some .int) 0 E [.ref (a 3), .int k] (wB E a st w) (nI ((iF (relS k) 6 0 (st, 0)).2)) (wB E a ((iF (relS k) 6 0 (st, 0)).1) w) := by
  refine Ct_mk RX2 rfl (by decide +kernel) (Nat.le_of_ble_eq_true rfl) ?_
  intro p e s m below meth c A ls X hr G hl
  have hl : lv_has ls 4 [(0, .ref (a 3)), (1, .int k)] := hl
  obtain ⟨hx, hb, hml, hown, hts, hK, hA, hlocks⟩ := id X
  refine lv_iconst (v := 0) hx hb dX2_releaseHeld_0 (by decide) ?_
  refine lv_istore_n (lv' := [(2, .int 0), (0, .ref (a 3)), (1, .int k)]) hx hb dX2_releaseHeld_1 rfl hl (by decide) rfl (fun ls hl => ?_)
  refine lv_iconst (v := 0) hx hb dX2_releaseHeld_2 (by decide) ?_
  refine lv_istore_n (lv' := [(3, .int 0), (2, .int 0), (0, .ref (a 3)), (1, .int k)]) hx hb dX2_releaseHeld_3 rfl hl (by decide) rfl (fun ls hl => ?_)
  have LP4 : ∀ (n i : Nat) (sx : St) (z : Nat) (H : Heap) (locs : List Loc) (ls : Array Slot), (i + n = 6) → (iF (relS k) n i (sx, z) = iF (relS k) 6 0 (st, 0)) → Gw E A s (wB E a sx w) H locs → lv_has ls 4 [(0, .ref (a 3)), (1, .int k), (2, .int (nI z)), (3, .int (nI i))] → W p l e (rmD 0) s m ([.ref (a 3), .int k] : List Value).toArray below meth c H locs 0 0 (MQ below (CtQ E A (nI ((iF (relS k) 6 0 (st, 0)).2)) (wB E a ((iF (relS k) 6 0 (st, 0)).1) w)) ([.ref (a 3), .int k] : List Value).toArray s 0 0 A) (F0 m 4 ls []) := by
    intro n
    induction n with
    | zero =>
      intro i sx z H locs ls hi hR G hl
      refine lv_iload_n hx hb dX2_releaseHeld_4 rfl (lv_at hl 3 rfl) ?_
      refine lv_bipush (v := 6) hx hb dX2_releaseHeld_5 (by decide) ?_
      refine n_cmp_ge (tgt := 51) i 6 rfl rfl (by omega) (by omega) hx hb dX2_releaseHeld_7 (by decide) (fun c1 => ?_) (fun c1 => ?_)
      · skip
        refine lv_iload_n hx hb dX2_releaseHeld_51 rfl (lv_at hl 2 rfl) ?_
        exact g_iret X hr G (congrArg (fun z => wB E a z w) (by rw [← hR]; rfl)) (by rw [← hR]; rfl) dX2_releaseHeld_52
      · skip
        exact absurd c1 (by omega)
    | succ n ih4 =>
      intro i sx z H locs ls hi hR G hl
      refine lv_iload_n hx hb dX2_releaseHeld_4 rfl (lv_at hl 3 rfl) ?_
      refine lv_bipush (v := 6) hx hb dX2_releaseHeld_5 (by decide) ?_
      refine n_cmp_ge (tgt := 51) i 6 rfl rfl (by omega) (by omega) hx hb dX2_releaseHeld_7 (by decide) (fun c2 => ?_) (fun c2 => ?_)
      · skip
        exact absurd c2 (by omega)
      · skip
        refine lv_aload_n hx hb dX2_releaseHeld_10 rfl (lv_at hl 0 rfl) ?_
        refine g_get X G fX2_18 3 rfl rfl dX2_releaseHeld_11 ?_
        refine lv_iload_n hx hb dX2_releaseHeld_14 rfl (lv_at hl 3 rfl) ?_
        refine g_iald (j := i) X G 12 rfl rfl (by omega) (by decide) dX2_releaseHeld_15 ?_
        refine lv_bipush (v := (-6)) hx hb dX2_releaseHeld_16 (by decide) ?_
        refine lv_icmp_eq (tgt := 45) hx hb dX2_releaseHeld_18 (by decide) (fun c3 => ?_) (fun c3 => ?_)
        · skip
          refine lv_iinc (v := nI (i + 1)) (lv' := [(3, .int (nI (i + 1))), (0, .ref (a 3)), (1, .int k), (2, .int (nI z))]) hx hb dX2_releaseHeld_45 hl (k := 3) rfl (nI_inc _) (by decide) rfl (fun ls hl => ?_)
          refine lv_goto (tgt := 4) hx hb dX2_releaseHeld_48 (by decide) ?_
          exact ih4 (i + 1) sx z _ _ ls (by omega) (by rw [← hR]; simp [iF, relS, relP, c2, c3]) G (lv_sub hl [1, 2, 3, 0] rfl)
        · skip
          refine lv_aload_n hx hb dX2_releaseHeld_21 rfl (lv_at hl 0 rfl) ?_
          refine g_get X G fX2_18 3 rfl rfl dX2_releaseHeld_22 ?_
          refine lv_iload_n hx hb dX2_releaseHeld_25 rfl (lv_at hl 3 rfl) ?_
          refine g_iald (j := i) X G 12 rfl rfl (by omega) (by decide) dX2_releaseHeld_26 ?_
          refine lv_bipush (v := 8) hx hb dX2_releaseHeld_27 (by decide) ?_
          refine lv_idiv hx hb dX2_releaseHeld_29 (by decide) ?_
          refine lv_iload_n hx hb dX2_releaseHeld_30 rfl (lv_at hl 1 rfl) ?_
          refine lv_icmp_ne (tgt := 45) hx hb dX2_releaseHeld_31 (by decide) (fun c4 => ?_) (fun c4 => ?_)
          · skip
            refine lv_iinc (v := nI (i + 1)) (lv' := [(3, .int (nI (i + 1))), (0, .ref (a 3)), (1, .int k), (2, .int (nI z))]) hx hb dX2_releaseHeld_45 hl (k := 3) rfl (nI_inc _) (by decide) rfl (fun ls hl => ?_)
            refine lv_goto (tgt := 4) hx hb dX2_releaseHeld_48 (by decide) ?_
            exact ih4 (i + 1) sx z _ _ ls (by omega) (by rw [← hR]; simp [iF, relS, relP, c2, c3, c4]) G (lv_sub hl [1, 2, 3, 0] rfl)
          · skip
            refine lv_aload_n hx hb dX2_releaseHeld_34 rfl (lv_at hl 0 rfl) ?_
            refine g_get X G fX2_18 3 rfl rfl dX2_releaseHeld_35 ?_
            refine lv_iload_n hx hb dX2_releaseHeld_38 rfl (lv_at hl 3 rfl) ?_
            refine lv_bipush (v := (-6)) hx hb dX2_releaseHeld_39 (by decide) ?_
            refine g_iast (j := i) X G 12 rfl rfl (by omega) (by decide) dX2_releaseHeld_41 (fun H locs G => ?_)
            have G : Gw E A s (wB E a (sU sx 9 i (-6)) w) H locs := G
            refine lv_iinc (v := nI (z + 1)) (lv' := [(2, .int (nI (z + 1))), (0, .ref (a 3)), (1, .int k), (3, .int (nI i))]) hx hb dX2_releaseHeld_42 hl (k := 2) rfl (nI_inc _) (by decide) rfl (fun ls hl => ?_)
            refine lv_iinc (v := nI (i + 1)) (lv' := [(3, .int (nI (i + 1))), (2, .int (nI (z + 1))), (0, .ref (a 3)), (1, .int k)]) hx hb dX2_releaseHeld_45 hl (k := 3) rfl (nI_inc _) (by decide) rfl (fun ls hl => ?_)
            refine lv_goto (tgt := 4) hx hb dX2_releaseHeld_48 (by decide) ?_
            exact ih4 (i + 1) (sU sx 9 i (-6)) (z + 1) _ _ ls (by omega) (by rw [← hR]; simp [iF, relS, relP, c2, c3, c4]) G (lv_sub hl [2, 3, 1, 0] rfl)
  exact LP4 6 0 st 0 _ _ ls (by omega) rfl G (lv_sub hl [2, 3, 1, 0] rfl)
set_option maxHeartbeats 4000000 in
set_option maxRecDepth 100000 in
theorem c_X2_endOld (l : Launch) (E : EE) (a : Nat → Nat) (st : St) (w : va_W) (t : Int32) : Cv l yX2_endOld cX2_endOld 3 1 E [.ref (a 3), .int t] (wB E a st w) (wB E a (endOldC st t) w) := by
  refine Cv_mk RX2 rfl (by decide +kernel) (Nat.le_of_ble_eq_true rfl) ?_
  intro p e s m below meth c A ls X hr G hl
  have hl : lv_has ls 3 [(0, .ref (a 3)), (1, .int t)] := hl
  obtain ⟨hx, hb, hml, hown, hts, hK, hA, hlocks⟩ := id X
  refine lv_iconst (v := 0) hx hb dX2_endOld_0 (by decide) ?_
  refine lv_istore_n (lv' := [(2, .int 0), (0, .ref (a 3)), (1, .int t)]) hx hb dX2_endOld_1 rfl hl (by decide) rfl (fun ls hl => ?_)
  have LP2 : ∀ (n i : Nat) (sx : St) (H : Heap) (locs : List Loc) (ls : Array Slot), (i + n = 32) → (iF (oldK t) n i sx = iF (oldK t) 32 0 st) → Gw E A s (wB E a sx w) H locs → lv_has ls 3 [(0, .ref (a 3)), (1, .int t), (2, .int (nI i))] → W p l e (rmD 1) s m ([.ref (a 3), .int t] : List Value).toArray below meth c H locs 0 0 (MQ below (CvQ E A (wB E a (endOldC st t) w)) ([.ref (a 3), .int t] : List Value).toArray s 0 0 A) (F0 m 2 ls []) := by
    intro n
    induction n with
    | zero =>
      intro i sx H locs ls hi hR G hl
      refine lv_iload_n hx hb dX2_endOld_2 rfl (lv_at hl 2 rfl) ?_
      refine lv_bipush (v := 32) hx hb dX2_endOld_3 (by decide) ?_
      refine n_cmp_ge (tgt := 39) i 32 rfl rfl (by omega) (by omega) hx hb dX2_endOld_5 (by decide) (fun c1 => ?_) (fun c1 => ?_)
      · skip
        refine lv_iconst (v := 0) hx hb dX2_endOld_39 (by decide) ?_
        refine lv_istore_n (lv' := [(2, .int 0), (0, .ref (a 3)), (1, .int t)]) hx hb dX2_endOld_40 rfl hl (by decide) rfl (fun ls hl => ?_)
        have LP41 : ∀ (n2 i2 : Nat) (sy : St) (H : Heap) (locs : List Loc) (ls : Array Slot), (i2 + n2 = 6) → (iF (oldH t) n2 i2 sy = endOldC st t) → Gw E A s (wB E a sy w) H locs → lv_has ls 3 [(0, .ref (a 3)), (1, .int t), (2, .int (nI i2))] → W p l e (rmD 1) s m ([.ref (a 3), .int t] : List Value).toArray below meth c H locs 0 0 (MQ below (CvQ E A (wB E a (endOldC st t) w)) ([.ref (a 3), .int t] : List Value).toArray s 0 0 A) (F0 m 41 ls []) := by
          intro n2
          induction n2 with
          | zero =>
            intro i2 sy H locs ls hi2 hR2 G hl
            refine lv_iload_n hx hb dX2_endOld_41 rfl (lv_at hl 2 rfl) ?_
            refine lv_bipush (v := 6) hx hb dX2_endOld_42 (by decide) ?_
            refine n_cmp_ge (tgt := 84) i2 6 rfl rfl (by omega) (by omega) hx hb dX2_endOld_44 (by decide) (fun c2 => ?_) (fun c2 => ?_)
            · skip
              exact g_vret X hr G (congrArg (fun z => wB E a z w) (by rw [← hR2]; rfl)) dX2_endOld_84
            · skip
              exact absurd c2 (by omega)
          | succ n2 ih41 =>
            intro i2 sy H locs ls hi2 hR2 G hl
            refine lv_iload_n hx hb dX2_endOld_41 rfl (lv_at hl 2 rfl) ?_
            refine lv_bipush (v := 6) hx hb dX2_endOld_42 (by decide) ?_
            refine n_cmp_ge (tgt := 84) i2 6 rfl rfl (by omega) (by omega) hx hb dX2_endOld_44 (by decide) (fun c3 => ?_) (fun c3 => ?_)
            · skip
              exact absurd c3 (by omega)
            · skip
              refine lv_aload_n hx hb dX2_endOld_47 rfl (lv_at hl 0 rfl) ?_
              refine g_get X G fX2_18 3 rfl rfl dX2_endOld_48 ?_
              refine lv_iload_n hx hb dX2_endOld_51 rfl (lv_at hl 2 rfl) ?_
              refine g_iald (j := i2) X G 12 rfl rfl (by omega) (by decide) dX2_endOld_52 ?_
              refine lv_bipush (v := (-6)) hx hb dX2_endOld_53 (by decide) ?_
              refine lv_icmp_eq (tgt := 78) hx hb dX2_endOld_55 (by decide) (fun c4 => ?_) (fun c4 => ?_)
              · skip
                refine lv_iinc (v := nI (i2 + 1)) (lv' := [(2, .int (nI (i2 + 1))), (0, .ref (a 3)), (1, .int t)]) hx hb dX2_endOld_78 hl (k := 2) rfl (nI_inc _) (by decide) rfl (fun ls hl => ?_)
                refine lv_goto (tgt := 41) hx hb dX2_endOld_81 (by decide) ?_
                exact ih41 (i2 + 1) sy _ _ ls (by omega) (by rw [← hR2]; simp [iF, oldH, c3, c4]) G (lv_sub hl [1, 2, 0] rfl)
              · skip
                refine lv_iload_n hx hb dX2_endOld_58 rfl (lv_at hl 1 rfl) ?_
                refine lv_aload_n hx hb dX2_endOld_59 rfl (lv_at hl 0 rfl) ?_
                refine g_get X G fX2_21 3 rfl rfl dX2_endOld_60 ?_
                refine lv_iload_n hx hb dX2_endOld_63 rfl (lv_at hl 2 rfl) ?_
                refine g_iald (j := i2) X G 13 rfl rfl (by omega) (by decide) dX2_endOld_64 ?_
                refine lv_isub hx hb dX2_endOld_65 ?_
                refine lv_iconst (v := 5) hx hb dX2_endOld_66 (by decide) ?_
                refine lv_icmp_lt (tgt := 78) hx hb dX2_endOld_67 (by decide) (fun c5 => ?_) (fun c5 => ?_)
                · skip
                  refine lv_iinc (v := nI (i2 + 1)) (lv' := [(2, .int (nI (i2 + 1))), (0, .ref (a 3)), (1, .int t)]) hx hb dX2_endOld_78 hl (k := 2) rfl (nI_inc _) (by decide) rfl (fun ls hl => ?_)
                  refine lv_goto (tgt := 41) hx hb dX2_endOld_81 (by decide) ?_
                  exact ih41 (i2 + 1) sy _ _ ls (by omega) (by rw [← hR2]; simp [iF, oldH, c3, c4, c5]) G (lv_sub hl [1, 2, 0] rfl)
                · skip
                  refine lv_aload_n hx hb dX2_endOld_70 rfl (lv_at hl 0 rfl) ?_
                  refine g_get X G fX2_18 3 rfl rfl dX2_endOld_71 ?_
                  refine lv_iload_n hx hb dX2_endOld_74 rfl (lv_at hl 2 rfl) ?_
                  refine lv_bipush (v := (-6)) hx hb dX2_endOld_75 (by decide) ?_
                  refine g_iast (j := i2) X G 12 rfl rfl (by omega) (by decide) dX2_endOld_77 (fun H locs G => ?_)
                  have G : Gw E A s (wB E a (sU sy 9 i2 (-6)) w) H locs := G
                  refine lv_iinc (v := nI (i2 + 1)) (lv' := [(2, .int (nI (i2 + 1))), (0, .ref (a 3)), (1, .int t)]) hx hb dX2_endOld_78 hl (k := 2) rfl (nI_inc _) (by decide) rfl (fun ls hl => ?_)
                  refine lv_goto (tgt := 41) hx hb dX2_endOld_81 (by decide) ?_
                  exact ih41 (i2 + 1) (sU sy 9 i2 (-6)) _ _ ls (by omega) (by rw [← hR2]; simp [iF, oldH, c3, c4, c5]) G (lv_sub hl [1, 2, 0] rfl)
        exact LP41 6 0 sx _ _ ls (by omega) (by unfold endOldC; rw [← hR]; rfl) G (lv_sub hl [1, 2, 0] rfl)
      · skip
        exact absurd c1 (by omega)
    | succ n ih2 =>
      intro i sx H locs ls hi hR G hl
      refine lv_iload_n hx hb dX2_endOld_2 rfl (lv_at hl 2 rfl) ?_
      refine lv_bipush (v := 32) hx hb dX2_endOld_3 (by decide) ?_
      refine n_cmp_ge (tgt := 39) i 32 rfl rfl (by omega) (by omega) hx hb dX2_endOld_5 (by decide) (fun c6 => ?_) (fun c6 => ?_)
      · skip
        exact absurd c6 (by omega)
      · skip
        refine lv_aload_n hx hb dX2_endOld_8 rfl (lv_at hl 0 rfl) ?_
        refine lv_iload_n hx hb dX2_endOld_9 rfl (lv_at hl 2 rfl) ?_
        refine g_callV (As := [.int (nI i)]) (rest := []) X kX2_38 (c_X2_isKnown l E a sx w i (by omega)) G 3 rfl rfl ⟨Nat.le_of_ble_eq_true rfl, Nat.le_of_ble_eq_true rfl⟩ ⟨Nat.le_refl _, Nat.le_refl _⟩ rfl hl.1 rfl (Nat.le_of_ble_eq_true rfl) dX2_endOld_10 (fun H locs G => ?_)
        refine b_ifeq (tgt := 33) hx hb dX2_endOld_13 (by decide) (fun c7 => ?_) (fun c7 => ?_)
        · skip
          refine lv_iinc (v := nI (i + 1)) (lv' := [(2, .int (nI (i + 1))), (0, .ref (a 3)), (1, .int t)]) hx hb dX2_endOld_33 hl (k := 2) rfl (nI_inc _) (by decide) rfl (fun ls hl => ?_)
          refine lv_goto (tgt := 2) hx hb dX2_endOld_36 (by decide) ?_
          exact ih2 (i + 1) sx _ _ ls (by omega) (by rw [← hR]; simp [iF, oldK, c6, c7]) G (lv_sub hl [1, 2, 0] rfl)
        · skip
          refine lv_iload_n hx hb dX2_endOld_16 rfl (lv_at hl 1 rfl) ?_
          refine lv_aload_n hx hb dX2_endOld_17 rfl (lv_at hl 0 rfl) ?_
          refine g_get X G fX2_15 3 rfl rfl dX2_endOld_18 ?_
          refine lv_iload_n hx hb dX2_endOld_21 rfl (lv_at hl 2 rfl) ?_
          refine g_iald (j := i) X G 11 rfl rfl (by omega) (by decide) dX2_endOld_22 ?_
          refine lv_isub hx hb dX2_endOld_23 ?_
          refine lv_iconst (v := 5) hx hb dX2_endOld_24 (by decide) ?_
          refine lv_icmp_lt (tgt := 33) hx hb dX2_endOld_25 (by decide) (fun c8 => ?_) (fun c8 => ?_)
          · skip
            refine lv_iinc (v := nI (i + 1)) (lv' := [(2, .int (nI (i + 1))), (0, .ref (a 3)), (1, .int t)]) hx hb dX2_endOld_33 hl (k := 2) rfl (nI_inc _) (by decide) rfl (fun ls hl => ?_)
            refine lv_goto (tgt := 2) hx hb dX2_endOld_36 (by decide) ?_
            exact ih2 (i + 1) sx _ _ ls (by omega) (by rw [← hR]; simp [iF, oldK, c6, c7, c8]) G (lv_sub hl [1, 2, 0] rfl)
          · skip
            refine lv_aload_n hx hb dX2_endOld_28 rfl (lv_at hl 0 rfl) ?_
            refine lv_iload_n hx hb dX2_endOld_29 rfl (lv_at hl 2 rfl) ?_
            refine g_callVv (As := [.int (nI i)]) (rest := []) X kX2_30 (c_X2_forget l E a sx w i (by omega)) G 3 rfl rfl ⟨Nat.le_of_ble_eq_true rfl, Nat.le_of_ble_eq_true rfl⟩ ⟨Nat.le_refl _, Nat.le_refl _⟩ rfl hl.1 rfl (Nat.le_of_ble_eq_true rfl) dX2_endOld_30 (fun H locs G => ?_)
            refine lv_iinc (v := nI (i + 1)) (lv' := [(2, .int (nI (i + 1))), (0, .ref (a 3)), (1, .int t)]) hx hb dX2_endOld_33 hl (k := 2) rfl (nI_inc _) (by decide) rfl (fun ls hl => ?_)
            refine lv_goto (tgt := 2) hx hb dX2_endOld_36 (by decide) ?_
            exact ih2 (i + 1) (sU sx 7 i (-6)) _ _ ls (by omega) (by rw [← hR]; simp [iF, oldK, c6, c7, c8]) G (lv_sub hl [1, 2, 0] rfl)
  exact LP2 32 0 st _ _ ls (by omega) rfl G (lv_sub hl [1, 2, 0] rfl)
set_option maxHeartbeats 4000000 in
set_option maxRecDepth 100000 in
theorem c_X2_countKnown (l : Launch) (E : EE) (a : Nat → Nat) (st : St) (w : va_W) : Ct l yX2_countKnown cX2_countKnown 3 (some .int) 1 E [.ref (a 3)] (wB E a st w) (nI (countKnownC st)) (wB E a st w) := by
  refine Ct_mk RX2 rfl (by decide +kernel) (Nat.le_of_ble_eq_true rfl) ?_
  intro p e s m below meth c A ls X hr G hl
  have hl : lv_has ls 3 [(0, .ref (a 3))] := hl
  obtain ⟨hx, hb, hml, hown, hts, hK, hA, hlocks⟩ := id X
  refine lv_iconst (v := 0) hx hb dX2_countKnown_0 (by decide) ?_
  refine lv_istore_n (lv' := [(1, .int 0), (0, .ref (a 3))]) hx hb dX2_countKnown_1 rfl hl (by decide) rfl (fun ls hl => ?_)
  refine lv_iconst (v := 0) hx hb dX2_countKnown_2 (by decide) ?_
  refine lv_istore_n (lv' := [(2, .int 0), (1, .int 0), (0, .ref (a 3))]) hx hb dX2_countKnown_3 rfl hl (by decide) rfl (fun ls hl => ?_)
  have LP4 : ∀ (n i : Nat) (k : Nat) (H : Heap) (locs : List Loc) (ls : Array Slot), (i + n = 32) → (k + cF (knownC st) n i = countKnownC st) → Gw E A s (wB E a st w) H locs → lv_has ls 3 [(0, .ref (a 3)), (1, .int (nI k)), (2, .int (nI i))] → W p l e (rmD 1) s m ([.ref (a 3)] : List Value).toArray below meth c H locs 0 0 (MQ below (CtQ E A (nI (countKnownC st)) (wB E a st w)) ([.ref (a 3)] : List Value).toArray s 0 0 A) (F0 m 4 ls []) := by
    intro n
    induction n with
    | zero =>
      intro i k H locs ls hi hR G hl
      refine lv_iload_n hx hb dX2_countKnown_4 rfl (lv_at hl 2 rfl) ?_
      refine lv_bipush (v := 32) hx hb dX2_countKnown_5 (by decide) ?_
      refine n_cmp_ge (tgt := 27) i 32 rfl rfl (by omega) (by omega) hx hb dX2_countKnown_7 (by decide) (fun c1 => ?_) (fun c1 => ?_)
      · skip
        refine lv_iload_n hx hb dX2_countKnown_27 rfl (lv_at hl 1 rfl) ?_
        exact g_iret X hr G rfl (by rw [← hR]; simp [cF]) dX2_countKnown_28
      · skip
        exact absurd c1 (by omega)
    | succ n ih4 =>
      intro i k H locs ls hi hR G hl
      refine lv_iload_n hx hb dX2_countKnown_4 rfl (lv_at hl 2 rfl) ?_
      refine lv_bipush (v := 32) hx hb dX2_countKnown_5 (by decide) ?_
      refine n_cmp_ge (tgt := 27) i 32 rfl rfl (by omega) (by omega) hx hb dX2_countKnown_7 (by decide) (fun c2 => ?_) (fun c2 => ?_)
      · skip
        exact absurd c2 (by omega)
      · skip
        refine lv_aload_n hx hb dX2_countKnown_10 rfl (lv_at hl 0 rfl) ?_
        refine lv_iload_n hx hb dX2_countKnown_11 rfl (lv_at hl 2 rfl) ?_
        refine g_callV (As := [.int (nI i)]) (rest := []) X kX2_38 (c_X2_isKnown l E a st w i (by omega)) G 3 rfl rfl ⟨Nat.le_of_ble_eq_true rfl, Nat.le_of_ble_eq_true rfl⟩ ⟨Nat.le_refl _, Nat.le_refl _⟩ rfl hl.1 rfl (Nat.le_of_ble_eq_true rfl) dX2_countKnown_12 (fun H locs G => ?_)
        refine b_ifeq (tgt := 21) hx hb dX2_countKnown_15 (by decide) (fun c3 => ?_) (fun c3 => ?_)
        · skip
          refine lv_iinc (v := nI (i + 1)) (lv' := [(2, .int (nI (i + 1))), (0, .ref (a 3)), (1, .int (nI k))]) hx hb dX2_countKnown_21 hl (k := 2) rfl (nI_inc _) (by decide) rfl (fun ls hl => ?_)
          refine lv_goto (tgt := 4) hx hb dX2_countKnown_24 (by decide) ?_
          exact ih4 (i + 1) k _ _ ls (by omega) (by simp [cF, c2, c3] at hR ⊢; omega) G (lv_sub hl [1, 2, 0] rfl)
        · skip
          refine lv_iinc (v := nI (k + 1)) (lv' := [(1, .int (nI (k + 1))), (0, .ref (a 3)), (2, .int (nI i))]) hx hb dX2_countKnown_18 hl (k := 1) rfl (nI_inc _) (by decide) rfl (fun ls hl => ?_)
          refine lv_iinc (v := nI (i + 1)) (lv' := [(2, .int (nI (i + 1))), (1, .int (nI (k + 1))), (0, .ref (a 3))]) hx hb dX2_countKnown_21 hl (k := 2) rfl (nI_inc _) (by decide) rfl (fun ls hl => ?_)
          refine lv_goto (tgt := 4) hx hb dX2_countKnown_24 (by decide) ?_
          exact ih4 (i + 1) (k + 1) _ _ ls (by omega) (by simp [cF, c2, c3] at hR ⊢; omega) G (lv_sub hl [2, 1, 0] rfl)
  exact LP4 32 0 0 _ _ ls (by omega) (by simp [countKnownC]) G (lv_sub hl [2, 1, 0] rfl)
set_option maxHeartbeats 4000000 in
set_option maxRecDepth 100000 in
theorem c_X2_countHeld (l : Launch) (E : EE) (a : Nat → Nat) (st : St) (w : va_W) : Ct l yX2_countHeld cX2_countHeld 3 (some .int) 0 E [.ref (a 3)] (wB E a st w) (nI (countHeldC st)) (wB E a st w) := by
  refine Ct_mk RX2 rfl (by decide +kernel) (Nat.le_of_ble_eq_true rfl) ?_
  intro p e s m below meth c A ls X hr G hl
  have hl : lv_has ls 3 [(0, .ref (a 3))] := hl
  obtain ⟨hx, hb, hml, hown, hts, hK, hA, hlocks⟩ := id X
  refine lv_iconst (v := 0) hx hb dX2_countHeld_0 (by decide) ?_
  refine lv_istore_n (lv' := [(1, .int 0), (0, .ref (a 3))]) hx hb dX2_countHeld_1 rfl hl (by decide) rfl (fun ls hl => ?_)
  refine lv_iconst (v := 0) hx hb dX2_countHeld_2 (by decide) ?_
  refine lv_istore_n (lv' := [(2, .int 0), (1, .int 0), (0, .ref (a 3))]) hx hb dX2_countHeld_3 rfl hl (by decide) rfl (fun ls hl => ?_)
  have LP4 : ∀ (n i : Nat) (k : Nat) (H : Heap) (locs : List Loc) (ls : Array Slot), (i + n = 6) → (k + cF (fun i => !decide (st 9 i = -6)) n i = countHeldC st) → Gw E A s (wB E a st w) H locs → lv_has ls 3 [(0, .ref (a 3)), (1, .int (nI k)), (2, .int (nI i))] → W p l e (rmD 0) s m ([.ref (a 3)] : List Value).toArray below meth c H locs 0 0 (MQ below (CtQ E A (nI (countHeldC st)) (wB E a st w)) ([.ref (a 3)] : List Value).toArray s 0 0 A) (F0 m 4 ls []) := by
    intro n
    induction n with
    | zero =>
      intro i k H locs ls hi hR G hl
      refine lv_iload_n hx hb dX2_countHeld_4 rfl (lv_at hl 2 rfl) ?_
      refine lv_bipush (v := 6) hx hb dX2_countHeld_5 (by decide) ?_
      refine n_cmp_ge (tgt := 30) i 6 rfl rfl (by omega) (by omega) hx hb dX2_countHeld_7 (by decide) (fun c1 => ?_) (fun c1 => ?_)
      · skip
        refine lv_iload_n hx hb dX2_countHeld_30 rfl (lv_at hl 1 rfl) ?_
        exact g_iret X hr G rfl (by rw [← hR]; simp [cF]) dX2_countHeld_31
      · skip
        exact absurd c1 (by omega)
    | succ n ih4 =>
      intro i k H locs ls hi hR G hl
      refine lv_iload_n hx hb dX2_countHeld_4 rfl (lv_at hl 2 rfl) ?_
      refine lv_bipush (v := 6) hx hb dX2_countHeld_5 (by decide) ?_
      refine n_cmp_ge (tgt := 30) i 6 rfl rfl (by omega) (by omega) hx hb dX2_countHeld_7 (by decide) (fun c2 => ?_) (fun c2 => ?_)
      · skip
        exact absurd c2 (by omega)
      · skip
        refine lv_aload_n hx hb dX2_countHeld_10 rfl (lv_at hl 0 rfl) ?_
        refine g_get X G fX2_18 3 rfl rfl dX2_countHeld_11 ?_
        refine lv_iload_n hx hb dX2_countHeld_14 rfl (lv_at hl 2 rfl) ?_
        refine g_iald (j := i) X G 12 rfl rfl (by omega) (by decide) dX2_countHeld_15 ?_
        refine lv_bipush (v := (-6)) hx hb dX2_countHeld_16 (by decide) ?_
        refine lv_icmp_eq (tgt := 24) hx hb dX2_countHeld_18 (by decide) (fun c3 => ?_) (fun c3 => ?_)
        · skip
          refine lv_iinc (v := nI (i + 1)) (lv' := [(2, .int (nI (i + 1))), (0, .ref (a 3)), (1, .int (nI k))]) hx hb dX2_countHeld_24 hl (k := 2) rfl (nI_inc _) (by decide) rfl (fun ls hl => ?_)
          refine lv_goto (tgt := 4) hx hb dX2_countHeld_27 (by decide) ?_
          exact ih4 (i + 1) k _ _ ls (by omega) (by simp [cF, c2, c3] at hR ⊢; omega) G (lv_sub hl [1, 2, 0] rfl)
        · skip
          refine lv_iinc (v := nI (k + 1)) (lv' := [(1, .int (nI (k + 1))), (0, .ref (a 3)), (2, .int (nI i))]) hx hb dX2_countHeld_21 hl (k := 1) rfl (nI_inc _) (by decide) rfl (fun ls hl => ?_)
          refine lv_iinc (v := nI (i + 1)) (lv' := [(2, .int (nI (i + 1))), (1, .int (nI (k + 1))), (0, .ref (a 3))]) hx hb dX2_countHeld_24 hl (k := 2) rfl (nI_inc _) (by decide) rfl (fun ls hl => ?_)
          refine lv_goto (tgt := 4) hx hb dX2_countHeld_27 (by decide) ?_
          exact ih4 (i + 1) (k + 1) _ _ ls (by omega) (by simp [cF, c2, c3] at hR ⊢; omega) G (lv_sub hl [2, 1, 0] rfl)
  exact LP4 6 0 0 _ _ ls (by omega) (by simp [countHeldC]) G (lv_sub hl [2, 1, 0] rfl)
