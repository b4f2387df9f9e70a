set_option maxHeartbeats 1000000 in
set_option maxRecDepth 100000 in
theorem c_X3_isBelow (l : Launch) (E : EE) (w : va_W) (x : Int32) (n : Nat) (hn : n < 2 ^ 31) : Ct l yX3_isBelow cX3_isBelow 2 (some .boolean) 0 E [.int x, .int (nI n)] (w) (bI (rg x n)) (w) := by
  refine Ct_mk RX3 rfl (by decide +kernel) (Nat.le_of_ble_eq_true rfl) ?_
  intro p e s m below meth c A ls X hr G hl
  have hl : lv_has ls 2 [(0, .int x), (1, .int (nI n))] := hl
  obtain ⟨hx, hb, hml, hown, hts, hK, hA, hlocks⟩ := id X
  refine lv_iload_n hx hb dX3_isBelow_0 rfl (lv_at hl 0 rfl) ?_
  refine lv_if_lt (tgt := 13) hx hb dX3_isBelow_1 (by decide) (fun c1 => ?_) (fun c1 => ?_)
  · skip
    refine lv_iconst (v := 0) hx hb dX3_isBelow_13 (by decide) ?_
    exact g_ret X hr rfl G rfl (by first | (rw [rg_1 c1]; rfl) | (rw [rg_2 hn c2]; rfl) | (rw [rg_3 hn c1 c2]; rfl)) dX3_isBelow_14
  · skip
    refine lv_iload_n hx hb dX3_isBelow_4 rfl (lv_at hl 0 rfl) ?_
    refine lv_iload_n hx hb dX3_isBelow_5 rfl (lv_at hl 1 rfl) ?_
    refine lv_icmp_ge (tgt := 13) hx hb dX3_isBelow_6 (by decide) (fun c2 => ?_) (fun c2 => ?_)
    · skip
      refine lv_iconst (v := 0) hx hb dX3_isBelow_13 (by decide) ?_
      exact g_ret X hr rfl G rfl (by first | (rw [rg_1 c1]; rfl) | (rw [rg_2 hn c2]; rfl) | (rw [rg_3 hn c1 c2]; rfl)) dX3_isBelow_14
    · skip
      refine lv_iconst (v := 1) hx hb dX3_isBelow_9 (by decide) ?_
      refine lv_goto (tgt := 14) hx hb dX3_isBelow_10 (by decide) ?_
      exact g_ret X hr rfl G rfl (by first | (rw [rg_1 c1]; rfl) | (rw [rg_2 hn c2]; rfl) | (rw [rg_3 hn c1 c2]; rfl)) dX3_isBelow_14
set_option maxHeartbeats 1000000 in
set_option maxRecDepth 100000 in
theorem c_X3_isRemotePort (l : Launch) (E : EE) (w : va_W) (r : Int32) (rp : Int32) : Ct l yX3_isRemotePort cX3_isRemotePort 2 (some .boolean) 1 E [.int r, .int rp] (w) (bI (rgR r rp)) (w) := by
  refine Ct_mk RX3 rfl (by decide +kernel) (Nat.le_of_ble_eq_true rfl) ?_
  intro p e s m below meth c A ls X hr G hl
  have hl : lv_has ls 2 [(0, .int r), (1, .int rp)] := hl
  obtain ⟨hx, hb, hml, hown, hts, hK, hA, hlocks⟩ := id X
  refine lv_iload_n hx hb dX3_isRemotePort_0 rfl (lv_at hl 0 rfl) ?_
  refine lv_iconst (v := 5) hx hb dX3_isRemotePort_1 (by decide) ?_
  refine g_callS (As := [.int r, .int 5]) (rest := []) X kX3_24 (c_X3_isBelow l E _ r 5 (by omega)) G ⟨Nat.le_of_ble_eq_true rfl, Nat.le_of_ble_eq_true rfl⟩ ⟨Nat.le_refl _, Nat.le_refl _⟩ rfl hl.1 rfl (Nat.le_of_ble_eq_true rfl) dX3_isRemotePort_2 (fun H locs G => ?_)
  refine b_ifeq (tgt := 31) hx hb dX3_isRemotePort_5 (by decide) (fun c1 => ?_) (fun c1 => ?_)
  · skip
    refine lv_iconst (v := 0) hx hb dX3_isRemotePort_31 (by decide) ?_
    exact g_ret X hr rfl G rfl (by unfold rgR; rw [c1]; simp [bI]) dX3_isRemotePort_32
  · skip
    refine lv_iload_n hx hb dX3_isRemotePort_8 rfl (lv_at hl 1 rfl) ?_
    refine lv_iload_n hx hb dX3_isRemotePort_9 rfl (lv_at hl 0 rfl) ?_
    refine lv_iconst (v := 4) hx hb dX3_isRemotePort_10 (by decide) ?_
    refine lv_icmp_ne (tgt := 19) hx hb dX3_isRemotePort_11 (by decide) (fun c2 => ?_) (fun c2 => ?_)
    · skip
      refine lv_bipush (v := 32) hx hb dX3_isRemotePort_19 (by decide) ?_
      refine g_callS (As := [.int rp, .int 32]) (rest := []) X kX3_24 (c_X3_isBelow l E _ rp 32 (by omega)) G ⟨Nat.le_of_ble_eq_true rfl, Nat.le_of_ble_eq_true rfl⟩ ⟨Nat.le_refl _, Nat.le_refl _⟩ rfl hl.1 rfl (Nat.le_of_ble_eq_true rfl) dX3_isRemotePort_21 (fun H locs G => ?_)
      refine b_ifeq (tgt := 31) hx hb dX3_isRemotePort_24 (by decide) (fun c3 => ?_) (fun c3 => ?_)
      · skip
        refine lv_iconst (v := 0) hx hb dX3_isRemotePort_31 (by decide) ?_
        exact g_ret X hr rfl G rfl (by unfold rgR; rw [c1]; simp [bI, c2, c3]) dX3_isRemotePort_32
      · skip
        refine lv_iconst (v := 1) hx hb dX3_isRemotePort_27 (by decide) ?_
        refine lv_goto (tgt := 32) hx hb dX3_isRemotePort_28 (by decide) ?_
        exact g_ret X hr rfl G rfl (by unfold rgR; rw [c1]; simp [bI, c2, c3]) dX3_isRemotePort_32
    · skip
      refine lv_bipush (v := 16) hx hb dX3_isRemotePort_14 (by decide) ?_
      refine lv_goto (tgt := 21) hx hb dX3_isRemotePort_16 (by decide) ?_
      refine g_callS (As := [.int rp, .int 16]) (rest := []) X kX3_24 (c_X3_isBelow l E _ rp 16 (by omega)) G ⟨Nat.le_of_ble_eq_true rfl, Nat.le_of_ble_eq_true rfl⟩ ⟨Nat.le_refl _, Nat.le_refl _⟩ rfl hl.1 rfl (Nat.le_of_ble_eq_true rfl) dX3_isRemotePort_21 (fun H locs G => ?_)
      refine b_ifeq (tgt := 31) hx hb dX3_isRemotePort_24 (by decide) (fun c4 => ?_) (fun c4 => ?_)
      · skip
        refine lv_iconst (v := 0) hx hb dX3_isRemotePort_31 (by decide) ?_
        exact g_ret X hr rfl G rfl (by unfold rgR; rw [c1]; simp [bI, c2, c4]) dX3_isRemotePort_32
      · skip
        refine lv_iconst (v := 1) hx hb dX3_isRemotePort_27 (by decide) ?_
        refine lv_goto (tgt := 32) hx hb dX3_isRemotePort_28 (by decide) ?_
        exact g_ret X hr rfl G rfl (by unfold rgR; rw [c1]; simp [bI, c2, c4]) dX3_isRemotePort_32
set_option maxHeartbeats 1000000 in
set_option maxRecDepth 100000 in
theorem c_X3_out (l : Launch) (E : EE) (a b0 b1 : Nat → Nat) (h0 g0 k0 : Nat) (fo : Nat → Option Nat) (st i0 i1 : St) (kp : Nat → Int32) (w : va_W) (h : Int32) (pt : Int32) (r : Int32) (rp : Int32) (f : Int32) : Ct l yX3_out cX3_out 6 (some .int) 7 E [.ref h0, .int h, .int pt, .int r, .int rp, .int f] (wB E a st (wT E a b0 b1 h0 g0 k0 fo i0 i1 kp w)) ((xOut st h pt r rp f).1) (wB E a ((xOut st h pt r rp f).2) (wT E a b0 b1 h0 g0 k0 fo i0 i1 kp w)) := by
  refine Ct_mk RX3 rfl (by decide +kernel) (Nat.le_of_ble_eq_true rfl) ?_
  intro p e s m below meth c A ls X hr G hl
  have hl : lv_has ls 6 [(0, .ref h0), (1, .int h), (2, .int pt), (3, .int r), (4, .int rp), (5, .int f)] := hl
  obtain ⟨hx, hb, hml, hown, hts, hK, hA, hlocks⟩ := id X
  refine lv_iload_n hx hb dX3_out_0 rfl (lv_at hl 1 rfl) ?_
  refine lv_iconst (v := 4) hx hb dX3_out_1 (by decide) ?_
  refine g_callS (As := [.int h, .int 4]) (rest := []) X kX3_24 (c_X3_isBelow l E _ h 4 (by omega)) G ⟨Nat.le_of_ble_eq_true rfl, Nat.le_of_ble_eq_true rfl⟩ ⟨Nat.le_refl _, Nat.le_refl _⟩ rfl hl.1 rfl (Nat.le_of_ble_eq_true rfl) dX3_out_2 (fun H locs G => ?_)
  refine b_ifne (tgt := 10) hx hb dX3_out_5 (by decide) (fun c1 => ?_) (fun c1 => ?_)
  · skip
    obtain ⟨hN, hhN, rfl⟩ := rg_nat (by decide) c1
    have ehN : cl (nI hN) = hN := cl_nI (by omega)
    refine lv_iload_n hx hb dX3_out_10 rfl (lv_at hl 2 rfl) ?_
    refine lv_bipush (v := 32) hx hb dX3_out_11 (by decide) ?_
    refine g_callS (As := [.int pt, .int 32]) (rest := []) X kX3_24 (c_X3_isBelow l E _ pt 32 (by omega)) G ⟨Nat.le_of_ble_eq_true rfl, Nat.le_of_ble_eq_true rfl⟩ ⟨Nat.le_refl _, Nat.le_refl _⟩ rfl hl.1 rfl (Nat.le_of_ble_eq_true rfl) dX3_out_13 (fun H locs G => ?_)
    refine b_ifeq (tgt := 37) hx hb dX3_out_16 (by decide) (fun c2 => ?_) (fun c2 => ?_)
    · skip
      refine lv_bipush (v := (-2)) hx hb dX3_out_37 (by decide) ?_
      exact g_iret X hr G (congrArg (fun z => wB E a z (wT E a b0 b1 h0 g0 k0 fo i0 i1 kp w)) (by simp [xOut, oN, c1, ehN, c2])) (by simp [xOut, oN, c1, ehN, c2]) dX3_out_39
    · skip
      obtain ⟨ptN, hptN, rfl⟩ := rg_nat (by decide) c2
      have eptN : cl (nI ptN) = ptN := cl_nI (by omega)
      refine lv_iload_n hx hb dX3_out_19 rfl (lv_at hl 3 rfl) ?_
      refine lv_iload hx hb dX3_out_20 (lv_at hl 4 rfl) ?_
      refine g_callS (As := [.int r, .int rp]) (rest := []) X kX3_39 (c_X3_isRemotePort l E _ r rp) G ⟨Nat.le_of_ble_eq_true rfl, Nat.le_of_ble_eq_true rfl⟩ ⟨Nat.le_refl _, Nat.le_refl _⟩ rfl hl.1 rfl (Nat.le_of_ble_eq_true rfl) dX3_out_22 (fun H locs G => ?_)
      refine b_ifeq (tgt := 37) hx hb dX3_out_25 (by decide) (fun c3 => ?_) (fun c3 => ?_)
      · skip
        refine lv_bipush (v := (-2)) hx hb dX3_out_37 (by decide) ?_
        exact g_iret X hr G (congrArg (fun z => wB E a z (wT E a b0 b1 h0 g0 k0 fo i0 i1 kp w)) (by simp [xOut, oN, c1, ehN, c2, eptN, c3])) (by simp [xOut, oN, c1, ehN, c2, eptN, c3]) dX3_out_39
      · skip
        obtain ⟨rN, rpN, hrN, hrpN, zrpN, rfl, rfl⟩ := rgR_nat c3
        have erN : cl (nI rN) = rN := cl_nI (by omega)
        have erpN : cl (nI rpN) = rpN := cl_nI (by omega)
        refine lv_iload hx hb dX3_out_28 (lv_at hl 5 rfl) ?_
        refine lv_iconst (v := 3) hx hb dX3_out_30 (by decide) ?_
        refine g_callS (As := [.int f, .int 3]) (rest := []) X kX3_24 (c_X3_isBelow l E _ f 3 (by omega)) G ⟨Nat.le_of_ble_eq_true rfl, Nat.le_of_ble_eq_true rfl⟩ ⟨Nat.le_refl _, Nat.le_refl _⟩ rfl hl.1 rfl (Nat.le_of_ble_eq_true rfl) dX3_out_31 (fun H locs G => ?_)
        refine b_ifne (tgt := 40) hx hb dX3_out_34 (by decide) (fun c4 => ?_) (fun c4 => ?_)
        · skip
          obtain ⟨fN, hfN, rfl⟩ := rg_nat (by decide) c4
          have efN : cl (nI fN) = fN := cl_nI (by omega)
          refine lv_aload_n hx hb dX3_out_40 rfl (lv_at hl 0 rfl) ?_
          refine g_get X G fX3_10 14 rfl rfl dX3_out_41 ?_
          refine lv_iload_n hx hb dX3_out_44 rfl (lv_at hl 1 rfl) ?_
          refine lv_iload_n hx hb dX3_out_45 rfl (lv_at hl 2 rfl) ?_
          refine lv_iload_n hx hb dX3_out_46 rfl (lv_at hl 3 rfl) ?_
          refine lv_iload hx hb dX3_out_47 (lv_at hl 4 rfl) ?_
          refine lv_iload hx hb dX3_out_49 (lv_at hl 5 rfl) ?_
          refine g_callV (As := [.int (nI hN), .int (nI ptN), .int (nI rN), .int (nI rpN), .int (nI fN)]) (rest := []) X kX3_42 (c_X1_goOut l E a st (wT E a b0 b1 h0 g0 k0 fo i0 i1 kp w) hN (by omega) ptN (by omega) rN (by omega) rpN (by omega) fN (by omega)) G 0 rfl rfl ⟨Nat.le_of_ble_eq_true rfl, Nat.le_of_ble_eq_true rfl⟩ ⟨Nat.le_refl _, Nat.le_refl _⟩ rfl hl.1 rfl (Nat.le_of_ble_eq_true rfl) dX3_out_51 (fun H locs G => ?_)
          obtain ⟨sv5, esv5⟩ : ∃ z, z = goOutC st hN ptN rN rpN fN := ⟨_, rfl⟩
          rw [← esv5] at G
          refine n_split (fun c7 => ?_) (fun j6 c8 => ?_)
          · skip
            exact g_iret X hr G (congrArg (fun z => wB E a z (wT E a b0 b1 h0 g0 k0 fo i0 i1 kp w)) (by (try rw [esv5]); simp [xOut, oN, c1, ehN, c2, eptN, c3, erN, erpN, c4, efN, c7])) (by (try rw [esv5]); simp [xOut, oN, c1, ehN, c2, eptN, c3, erN, erpN, c4, efN, c7]) dX3_out_54
          · skip
            have bj6 : j6 < 16 := goOutO_lt c8
            exact g_iret X hr G (congrArg (fun z => wB E a z (wT E a b0 b1 h0 g0 k0 fo i0 i1 kp w)) (by (try rw [esv5]); simp [xOut, oN, c1, ehN, c2, eptN, c3, erN, erpN, c4, efN, c8])) (by (try rw [esv5]); simp [xOut, oN, c1, ehN, c2, eptN, c3, erN, erpN, c4, efN, c8]) dX3_out_54
        · skip
          refine lv_bipush (v := (-2)) hx hb dX3_out_37 (by decide) ?_
          exact g_iret X hr G (congrArg (fun z => wB E a z (wT E a b0 b1 h0 g0 k0 fo i0 i1 kp w)) (by simp [xOut, oN, c1, ehN, c2, eptN, c3, erN, erpN, c4])) (by simp [xOut, oN, c1, ehN, c2, eptN, c3, erN, erpN, c4]) dX3_out_39
  · skip
    refine lv_iconst (v := (-1)) hx hb dX3_out_8 (by decide) ?_
    exact g_iret X hr G (congrArg (fun z => wB E a z (wT E a b0 b1 h0 g0 k0 fo i0 i1 kp w)) (by simp [xOut, oN, c1])) (by simp [xOut, oN, c1]) dX3_out_9
set_option maxHeartbeats 1000000 in
set_option maxRecDepth 100000 in
theorem c_X3_in (l : Launch) (E : EE) (a b0 b1 : Nat → Nat) (h0 g0 k0 : Nat) (fo : Nat → Option Nat) (st i0 i1 : St) (kp : Nat → Int32) (w : va_W) (r : Int32) (rp : Int32) (o : Int32) (f : Int32) : Ct l yX3_in cX3_in 5 (some .int) 3 E [.ref h0, .int r, .int rp, .int o, .int f] (wB E a st (wT E a b0 b1 h0 g0 k0 fo i0 i1 kp w)) ((xIn st r rp o f).1) (wB E a ((xIn st r rp o f).2) (wT E a b0 b1 h0 g0 k0 fo i0 i1 kp w)) := by
  refine Ct_mk RX3 rfl (by decide +kernel) (Nat.le_of_ble_eq_true rfl) ?_
  intro p e s m below meth c A ls X hr G hl
  have hl : lv_has ls 5 [(0, .ref h0), (1, .int r), (2, .int rp), (3, .int o), (4, .int f)] := hl
  obtain ⟨hx, hb, hml, hown, hts, hK, hA, hlocks⟩ := id X
  refine lv_iload_n hx hb dX3_in_0 rfl (lv_at hl 1 rfl) ?_
  refine lv_iload_n hx hb dX3_in_1 rfl (lv_at hl 2 rfl) ?_
  refine g_callS (As := [.int r, .int rp]) (rest := []) X kX3_39 (c_X3_isRemotePort l E _ r rp) G ⟨Nat.le_of_ble_eq_true rfl, Nat.le_of_ble_eq_true rfl⟩ ⟨Nat.le_refl _, Nat.le_refl _⟩ rfl hl.1 rfl (Nat.le_of_ble_eq_true rfl) dX3_in_2 (fun H locs G => ?_)
  refine b_ifne (tgt := 11) hx hb dX3_in_5 (by decide) (fun c1 => ?_) (fun c1 => ?_)
  · skip
    obtain ⟨rN, rpN, hrN, hrpN, zrpN, rfl, rfl⟩ := rgR_nat c1
    have erN : cl (nI rN) = rN := cl_nI (by omega)
    have erpN : cl (nI rpN) = rpN := cl_nI (by omega)
    refine lv_iload_n hx hb dX3_in_11 rfl (lv_at hl 3 rfl) ?_
    refine lv_bipush (v := 16) hx hb dX3_in_12 (by decide) ?_
    refine g_callS (As := [.int o, .int 16]) (rest := []) X kX3_24 (c_X3_isBelow l E _ o 16 (by omega)) G ⟨Nat.le_of_ble_eq_true rfl, Nat.le_of_ble_eq_true rfl⟩ ⟨Nat.le_refl _, Nat.le_refl _⟩ rfl hl.1 rfl (Nat.le_of_ble_eq_true rfl) dX3_in_14 (fun H locs G => ?_)
    refine b_ifne (tgt := 22) hx hb dX3_in_17 (by decide) (fun c2 => ?_) (fun c2 => ?_)
    · skip
      obtain ⟨oN, hoN, rfl⟩ := rg_nat (by decide) c2
      have eoN : cl (nI oN) = oN := cl_nI (by omega)
      refine lv_iload hx hb dX3_in_22 (lv_at hl 4 rfl) ?_
      refine lv_iconst (v := 3) hx hb dX3_in_24 (by decide) ?_
      refine g_callS (As := [.int f, .int 3]) (rest := []) X kX3_24 (c_X3_isBelow l E _ f 3 (by omega)) G ⟨Nat.le_of_ble_eq_true rfl, Nat.le_of_ble_eq_true rfl⟩ ⟨Nat.le_refl _, Nat.le_refl _⟩ rfl hl.1 rfl (Nat.le_of_ble_eq_true rfl) dX3_in_25 (fun H locs G => ?_)
      refine b_ifne (tgt := 34) hx hb dX3_in_28 (by decide) (fun c3 => ?_) (fun c3 => ?_)
      · skip
        obtain ⟨fN, hfN, rfl⟩ := rg_nat (by decide) c3
        have efN : cl (nI fN) = fN := cl_nI (by omega)
        refine lv_aload_n hx hb dX3_in_34 rfl (lv_at hl 0 rfl) ?_
        refine g_get X G fX3_10 14 rfl rfl dX3_in_35 ?_
        refine lv_iload_n hx hb dX3_in_38 rfl (lv_at hl 1 rfl) ?_
        refine lv_iload_n hx hb dX3_in_39 rfl (lv_at hl 2 rfl) ?_
        refine lv_iload_n hx hb dX3_in_40 rfl (lv_at hl 3 rfl) ?_
        refine lv_iload hx hb dX3_in_41 (lv_at hl 4 rfl) ?_
        refine g_callV (As := [.int (nI rN), .int (nI rpN), .int (nI oN), .int (nI fN)]) (rest := []) X kX3_46 (c_X1_comeIn l E a st (wT E a b0 b1 h0 g0 k0 fo i0 i1 kp w) rN (by omega) rpN (by omega) oN (by omega) fN (by omega)) G 0 rfl rfl ⟨Nat.le_of_ble_eq_true rfl, Nat.le_of_ble_eq_true rfl⟩ ⟨Nat.le_refl _, Nat.le_refl _⟩ rfl hl.1 rfl (Nat.le_of_ble_eq_true rfl) dX3_in_43 (fun H locs G => ?_)
        obtain ⟨sv4, esv4⟩ : ∃ z, z = comeInC st rN rpN oN fN := ⟨_, rfl⟩
        rw [← esv4] at G
        exact g_iret X hr G (congrArg (fun z => wB E a z (wT E a b0 b1 h0 g0 k0 fo i0 i1 kp w)) (by (try rw [esv4]); simp [xIn, c1, erN, erpN, c2, eoN, c3, efN])) (by (try rw [esv4]); simp [xIn, c1, erN, erpN, c2, eoN, c3, efN]) dX3_in_46
      · skip
        refine lv_bipush (v := (-2)) hx hb dX3_in_31 (by decide) ?_
        exact g_iret X hr G (congrArg (fun z => wB E a z (wT E a b0 b1 h0 g0 k0 fo i0 i1 kp w)) (by simp [xIn, c1, erN, erpN, c2, eoN, c3])) (by simp [xIn, c1, erN, erpN, c2, eoN, c3]) dX3_in_33
    · skip
      refine lv_iconst (v := (-1)) hx hb dX3_in_20 (by decide) ?_
      exact g_iret X hr G (congrArg (fun z => wB E a z (wT E a b0 b1 h0 g0 k0 fo i0 i1 kp w)) (by simp [xIn, c1, erN, erpN, c2])) (by simp [xIn, c1, erN, erpN, c2]) dX3_in_21
  · skip
    refine lv_bipush (v := (-2)) hx hb dX3_in_8 (by decide) ?_
    exact g_iret X hr G (congrArg (fun z => wB E a z (wT E a b0 b1 h0 g0 k0 fo i0 i1 kp w)) (by simp [xIn, c1])) (by simp [xIn, c1]) dX3_in_10
set_option maxHeartbeats 1000000 in
set_option maxRecDepth 100000 in
theorem c_X3_turn (l : Launch) (E : EE) (a b0 b1 : Nat → Nat) (h0 g0 k0 : Nat) (fo : Nat → Option Nat) (st i0 i1 : St) (kp : Nat → Int32) (w : va_W) (h : Int32) (pt : Int32) (o : Int32) (f : Int32) : Ct l yX3_turn cX3_turn 6 (some .int) 7 E [.ref h0, .int h, .int pt, .int o, .int f] (wB E a st (wT E a b0 b1 h0 g0 k0 fo i0 i1 kp w)) ((xTurn st h pt o f).1) (wB E a ((xTurn st h pt o f).2) (wT E a b0 b1 h0 g0 k0 fo i0 i1 kp w)) := by
  refine Ct_mk RX3 rfl (by decide +kernel) (Nat.le_of_ble_eq_true rfl) ?_
  intro p e s m below meth c A ls X hr G hl
  have hl : lv_has ls 6 [(0, .ref h0), (1, .int h), (2, .int pt), (3, .int o), (4, .int f)] := hl
  obtain ⟨hx, hb, hml, hown, hts, hK, hA, hlocks⟩ := id X
  refine lv_iload_n hx hb dX3_turn_0 rfl (lv_at hl 1 rfl) ?_
  refine lv_iconst (v := 4) hx hb dX3_turn_1 (by decide) ?_
  refine g_callS (As := [.int h, .int 4]) (rest := []) X kX3_24 (c_X3_isBelow l E _ h 4 (by omega)) G ⟨Nat.le_of_ble_eq_true rfl, Nat.le_of_ble_eq_true rfl⟩ ⟨Nat.le_refl _, Nat.le_refl _⟩ rfl hl.1 rfl (Nat.le_of_ble_eq_true rfl) dX3_turn_2 (fun H locs G => ?_)
  refine b_ifne (tgt := 10) hx hb dX3_turn_5 (by decide) (fun c1 => ?_) (fun c1 => ?_)
  · skip
    obtain ⟨hN, hhN, rfl⟩ := rg_nat (by decide) c1
    have ehN : cl (nI hN) = hN := cl_nI (by omega)
    refine lv_iload_n hx hb dX3_turn_10 rfl (lv_at hl 2 rfl) ?_
    refine lv_bipush (v := 32) hx hb dX3_turn_11 (by decide) ?_
    refine g_callS (As := [.int pt, .int 32]) (rest := []) X kX3_24 (c_X3_isBelow l E _ pt 32 (by omega)) G ⟨Nat.le_of_ble_eq_true rfl, Nat.le_of_ble_eq_true rfl⟩ ⟨Nat.le_refl _, Nat.le_refl _⟩ rfl hl.1 rfl (Nat.le_of_ble_eq_true rfl) dX3_turn_13 (fun H locs G => ?_)
    refine b_ifne (tgt := 22) hx hb dX3_turn_16 (by decide) (fun c2 => ?_) (fun c2 => ?_)
    · skip
      obtain ⟨ptN, hptN, rfl⟩ := rg_nat (by decide) c2
      have eptN : cl (nI ptN) = ptN := cl_nI (by omega)
      refine lv_iload_n hx hb dX3_turn_22 rfl (lv_at hl 3 rfl) ?_
      refine lv_bipush (v := 16) hx hb dX3_turn_23 (by decide) ?_
      refine g_callS (As := [.int o, .int 16]) (rest := []) X kX3_24 (c_X3_isBelow l E _ o 16 (by omega)) G ⟨Nat.le_of_ble_eq_true rfl, Nat.le_of_ble_eq_true rfl⟩ ⟨Nat.le_refl _, Nat.le_refl _⟩ rfl hl.1 rfl (Nat.le_of_ble_eq_true rfl) dX3_turn_25 (fun H locs G => ?_)
      refine b_ifne (tgt := 33) hx hb dX3_turn_28 (by decide) (fun c3 => ?_) (fun c3 => ?_)
      · skip
        obtain ⟨oN, hoN, rfl⟩ := rg_nat (by decide) c3
        have eoN : cl (nI oN) = oN := cl_nI (by omega)
        refine lv_iload hx hb dX3_turn_33 (lv_at hl 4 rfl) ?_
        refine lv_iconst (v := 3) hx hb dX3_turn_35 (by decide) ?_
        refine g_callS (As := [.int f, .int 3]) (rest := []) X kX3_24 (c_X3_isBelow l E _ f 3 (by omega)) G ⟨Nat.le_of_ble_eq_true rfl, Nat.le_of_ble_eq_true rfl⟩ ⟨Nat.le_refl _, Nat.le_refl _⟩ rfl hl.1 rfl (Nat.le_of_ble_eq_true rfl) dX3_turn_36 (fun H locs G => ?_)
        refine b_ifne (tgt := 45) hx hb dX3_turn_39 (by decide) (fun c4 => ?_) (fun c4 => ?_)
        · skip
          obtain ⟨fN, hfN, rfl⟩ := rg_nat (by decide) c4
          have efN : cl (nI fN) = fN := cl_nI (by omega)
          refine lv_aload_n hx hb dX3_turn_45 rfl (lv_at hl 0 rfl) ?_
          refine g_get X G fX3_10 14 rfl rfl dX3_turn_46 ?_
          refine lv_iload_n hx hb dX3_turn_49 rfl (lv_at hl 1 rfl) ?_
          refine lv_iload_n hx hb dX3_turn_50 rfl (lv_at hl 2 rfl) ?_
          refine lv_iconst (v := 4) hx hb dX3_turn_51 (by decide) ?_
          refine lv_iload_n hx hb dX3_turn_52 rfl (lv_at hl 3 rfl) ?_
          refine lv_iload hx hb dX3_turn_53 (lv_at hl 4 rfl) ?_
          refine g_callV (As := [.int (nI hN), .int (nI ptN), .int 4, .int (nI oN), .int (nI fN)]) (rest := []) X kX3_42 (c_X1_goOut l E a st (wT E a b0 b1 h0 g0 k0 fo i0 i1 kp w) hN (by omega) ptN (by omega) 4 (by omega) oN (by omega) fN (by omega)) G 0 rfl rfl ⟨Nat.le_of_ble_eq_true rfl, Nat.le_of_ble_eq_true rfl⟩ ⟨Nat.le_refl _, Nat.le_refl _⟩ rfl hl.1 rfl (Nat.le_of_ble_eq_true rfl) dX3_turn_55 (fun H locs G => ?_)
          obtain ⟨sv5, esv5⟩ : ∃ z, z = goOutC st hN ptN 4 oN fN := ⟨_, rfl⟩
          rw [← esv5] at G
          refine n_split (fun c7 => ?_) (fun j6 c8 => ?_)
          · skip
            refine lv_istore (lv' := [(5, .int (-5)), (0, .ref h0), (1, .int (nI hN)), (2, .int (nI ptN)), (3, .int (nI oN)), (4, .int (nI fN))]) hx hb dX3_turn_58 hl (by decide) rfl (fun ls hl => ?_)
            refine lv_iload hx hb dX3_turn_60 (lv_at hl 0 rfl) ?_
            refine lv_bipush (v := (-5)) hx hb dX3_turn_62 (by decide) ?_
            refine lv_icmp_ne (tgt := 72) hx hb dX3_turn_64 (by decide) (fun c9 => ?_) (fun c9 => ?_)
            · skip
              exact absurd c9 (by decide)
            · skip
              refine lv_bipush (v := (-5)) hx hb dX3_turn_67 (by decide) ?_
              refine lv_goto (tgt := 85) hx hb dX3_turn_69 (by decide) ?_
              exact g_iret X hr G (congrArg (fun z => wB E a z (wT E a b0 b1 h0 g0 k0 fo i0 i1 kp w)) (by (try rw [esv5]); simp [xTurn, c1, ehN, c2, eptN, c3, eoN, c4, efN, c7])) (by (try rw [esv5]); simp [xTurn, c1, ehN, c2, eptN, c3, eoN, c4, efN, c7]) dX3_turn_85
          · skip
            have bj6 : j6 < 16 := goOutO_lt c8
            refine lv_istore (lv' := [(5, .int (nI j6)), (0, .ref h0), (1, .int (nI hN)), (2, .int (nI ptN)), (3, .int (nI oN)), (4, .int (nI fN))]) hx hb dX3_turn_58 hl (by decide) rfl (fun ls hl => ?_)
            refine lv_iload hx hb dX3_turn_60 (lv_at hl 0 rfl) ?_
            refine lv_bipush (v := (-5)) hx hb dX3_turn_62 (by decide) ?_
            refine lv_icmp_ne (tgt := 72) hx hb dX3_turn_64 (by decide) (fun c10 => ?_) (fun c10 => ?_)
            · skip
              refine lv_aload_n hx hb dX3_turn_72 rfl (lv_at hl 1 rfl) ?_
              refine g_get X G fX3_10 14 rfl rfl dX3_turn_73 ?_
              refine lv_iconst (v := 4) hx hb dX3_turn_76 (by decide) ?_
              refine lv_iload hx hb dX3_turn_77 (lv_at hl 0 rfl) ?_
              refine lv_iload_n hx hb dX3_turn_79 rfl (lv_at hl 4 rfl) ?_
              refine lv_iload hx hb dX3_turn_80 (lv_at hl 5 rfl) ?_
              refine g_callV (As := [.int 4, .int (nI j6), .int (nI oN), .int (nI fN)]) (rest := []) X kX3_46 (c_X1_comeIn l E a sv5 (wT E a b0 b1 h0 g0 k0 fo i0 i1 kp w) 4 (by omega) j6 (by omega) oN (by omega) fN (by omega)) G 0 rfl rfl ⟨Nat.le_of_ble_eq_true rfl, Nat.le_of_ble_eq_true rfl⟩ ⟨Nat.le_refl _, Nat.le_refl _⟩ rfl hl.1 rfl (Nat.le_of_ble_eq_true rfl) dX3_turn_82 (fun H locs G => ?_)
              obtain ⟨sv11, esv11⟩ : ∃ z, z = comeInC sv5 4 j6 oN fN := ⟨_, rfl⟩
              rw [← esv11] at G
              exact g_iret X hr G (congrArg (fun z => wB E a z (wT E a b0 b1 h0 g0 k0 fo i0 i1 kp w)) (by (try rw [esv11]); (try rw [esv5]); simp [xTurn, c1, ehN, c2, eptN, c3, eoN, c4, efN, c8])) (by (try rw [esv11]); (try rw [esv5]); simp [xTurn, c1, ehN, c2, eptN, c3, eoN, c4, efN, c8]) dX3_turn_85
            · skip
              exact absurd c10 (nI_m5 (by omega))
        · skip
          refine lv_bipush (v := (-2)) hx hb dX3_turn_42 (by decide) ?_
          exact g_iret X hr G (congrArg (fun z => wB E a z (wT E a b0 b1 h0 g0 k0 fo i0 i1 kp w)) (by simp [xTurn, c1, ehN, c2, eptN, c3, eoN, c4])) (by simp [xTurn, c1, ehN, c2, eptN, c3, eoN, c4]) dX3_turn_44
      · skip
        refine lv_iconst (v := (-1)) hx hb dX3_turn_31 (by decide) ?_
        exact g_iret X hr G (congrArg (fun z => wB E a z (wT E a b0 b1 h0 g0 k0 fo i0 i1 kp w)) (by simp [xTurn, c1, ehN, c2, eptN, c3])) (by simp [xTurn, c1, ehN, c2, eptN, c3]) dX3_turn_32
    · skip
      refine lv_bipush (v := (-2)) hx hb dX3_turn_19 (by decide) ?_
      exact g_iret X hr G (congrArg (fun z => wB E a z (wT E a b0 b1 h0 g0 k0 fo i0 i1 kp w)) (by simp [xTurn, c1, ehN, c2])) (by simp [xTurn, c1, ehN, c2]) dX3_turn_21
  · skip
    refine lv_iconst (v := (-1)) hx hb dX3_turn_8 (by decide) ?_
    exact g_iret X hr G (congrArg (fun z => wB E a z (wT E a b0 b1 h0 g0 k0 fo i0 i1 kp w)) (by simp [xTurn, c1])) (by simp [xTurn, c1]) dX3_turn_9
set_option maxHeartbeats 1000000 in
set_option maxRecDepth 100000 in
theorem c_X3_part (l : Launch) (E : EE) (a b0 b1 : Nat → Nat) (h0 g0 k0 : Nat) (fo : Nat → Option Nat) (st i0 i1 : St) (kp : Nat → Int32) (w : va_W) (r : Int32) (nm : Int32) (pt : Int32) (rp : Int32) (o : Int32) : Ct l yX3_part cX3_part 7 (some .int) 4 E [.ref h0, .int r, .int nm, .int pt, .int rp, .int o] (wB E a st (wT E a b0 b1 h0 g0 k0 fo i0 i1 kp w)) ((xPart st r nm pt rp o).1) (wB E a ((xPart st r nm pt rp o).2) (wT E a b0 b1 h0 g0 k0 fo i0 i1 kp w)) := by
  refine Ct_mk RX3 rfl (by decide +kernel) (Nat.le_of_ble_eq_true rfl) ?_
  intro p e s m below meth c A ls X hr G hl
  have hl : lv_has ls 7 [(0, .ref h0), (1, .int r), (2, .int nm), (3, .int pt), (4, .int rp), (5, .int o)] := hl
  obtain ⟨hx, hb, hml, hown, hts, hK, hA, hlocks⟩ := id X
  refine lv_iload_n hx hb dX3_part_0 rfl (lv_at hl 1 rfl) ?_
  refine lv_iconst (v := 4) hx hb dX3_part_1 (by decide) ?_
  refine g_callS (As := [.int r, .int 4]) (rest := []) X kX3_24 (c_X3_isBelow l E _ r 4 (by omega)) G ⟨Nat.le_of_ble_eq_true rfl, Nat.le_of_ble_eq_true rfl⟩ ⟨Nat.le_refl _, Nat.le_refl _⟩ rfl hl.1 rfl (Nat.le_of_ble_eq_true rfl) dX3_part_2 (fun H locs G => ?_)
  refine b_ifeq (tgt := 26) hx hb dX3_part_5 (by decide) (fun c1 => ?_) (fun c1 => ?_)
  · skip
    refine lv_bipush (v := (-2)) hx hb dX3_part_26 (by decide) ?_
    exact g_iret X hr G (congrArg (fun z => wB E a z (wT E a b0 b1 h0 g0 k0 fo i0 i1 kp w)) (by first | (simp [xPart, c1]; done) | (simp [xPart, c1, rg_08, cl_00]; done))) (by first | (simp [xPart, c1]; done) | (simp [xPart, c1, rg_08, cl_00]; done)) dX3_part_28
  · skip
    obtain ⟨rN, hrN, rfl⟩ := rg_nat (by decide) c1
    have erN : cl (nI rN) = rN := cl_nI (by omega)
    refine lv_iload_n hx hb dX3_part_8 rfl (lv_at hl 2 rfl) ?_
    refine lv_bipush (v := 8) hx hb dX3_part_9 (by decide) ?_
    refine g_callS (As := [.int nm, .int 8]) (rest := []) X kX3_24 (c_X3_isBelow l E _ nm 8 (by omega)) G ⟨Nat.le_of_ble_eq_true rfl, Nat.le_of_ble_eq_true rfl⟩ ⟨Nat.le_refl _, Nat.le_refl _⟩ rfl hl.1 rfl (Nat.le_of_ble_eq_true rfl) dX3_part_11 (fun H locs G => ?_)
    refine b_ifeq (tgt := 26) hx hb dX3_part_14 (by decide) (fun c2 => ?_) (fun c2 => ?_)
    · skip
      refine lv_bipush (v := (-2)) hx hb dX3_part_26 (by decide) ?_
      exact g_iret X hr G (congrArg (fun z => wB E a z (wT E a b0 b1 h0 g0 k0 fo i0 i1 kp w)) (by first | (simp [xPart, c1, erN, c2]; done) | (simp [xPart, c1, erN, c2, rg_08, cl_00]; done))) (by first | (simp [xPart, c1, erN, c2]; done) | (simp [xPart, c1, erN, c2, rg_08, cl_00]; done)) dX3_part_28
    · skip
      obtain ⟨nmN, hnmN, rfl⟩ := rg_nat (by decide) c2
      have enmN : cl (nI nmN) = nmN := cl_nI (by omega)
      refine lv_iload_n hx hb dX3_part_17 rfl (lv_at hl 3 rfl) ?_
      refine lv_bipush (v := 8) hx hb dX3_part_18 (by decide) ?_
      refine g_callS (As := [.int pt, .int 8]) (rest := []) X kX3_24 (c_X3_isBelow l E _ pt 8 (by omega)) G ⟨Nat.le_of_ble_eq_true rfl, Nat.le_of_ble_eq_true rfl⟩ ⟨Nat.le_refl _, Nat.le_refl _⟩ rfl hl.1 rfl (Nat.le_of_ble_eq_true rfl) dX3_part_20 (fun H locs G => ?_)
      refine b_ifne (tgt := 29) hx hb dX3_part_23 (by decide) (fun c3 => ?_) (fun c3 => ?_)
      · skip
        obtain ⟨ptN, hptN, rfl⟩ := rg_nat (by decide) c3
        have eptN : cl (nI ptN) = ptN := cl_nI (by omega)
        refine lv_iload_n hx hb dX3_part_29 rfl (lv_at hl 1 rfl) ?_
        refine lv_bipush (v := 8) hx hb dX3_part_30 (by decide) ?_
        refine n_imul rN 8 rfl rfl hx hb dX3_part_32 ?_
        refine lv_iload_n hx hb dX3_part_33 rfl (lv_at hl 2 rfl) ?_
        refine n_iadd (rN * 8) nmN rfl rfl hx hb dX3_part_34 ?_
        refine lv_istore (lv' := [(6, .int (nI ((rN * 8) + nmN))), (0, .ref h0), (1, .int (nI rN)), (2, .int (nI nmN)), (3, .int (nI ptN)), (4, .int rp), (5, .int o)]) hx hb dX3_part_35 hl (by decide) rfl (fun ls hl => ?_)
        refine lv_iload_n hx hb dX3_part_37 rfl (lv_at hl 4 rfl) ?_
        refine n_if_eq (tgt := 52) ptN rfl (by omega) hx hb dX3_part_38 (by decide) (fun c4 => ?_) (fun c4 => ?_)
        · skip
          refine lv_iload_n hx hb dX3_part_52 rfl (lv_at hl 2 rfl) ?_
          refine lv_iload hx hb dX3_part_53 (lv_at hl 5 rfl) ?_
          refine g_callS (As := [.int (nI rN), .int rp]) (rest := []) X kX3_39 (c_X3_isRemotePort l E _ (nI rN) rp) G ⟨Nat.le_of_ble_eq_true rfl, Nat.le_of_ble_eq_true rfl⟩ ⟨Nat.le_refl _, Nat.le_refl _⟩ rfl hl.1 rfl (Nat.le_of_ble_eq_true rfl) dX3_part_55 (fun H locs G => ?_)
          refine b_ifne (tgt := 64) hx hb dX3_part_58 (by decide) (fun c5 => ?_) (fun c5 => ?_)
          · skip
            obtain ⟨rpN, hrpN, zrpN, rfl⟩ := rgR_nat2 (by omega) c5
            have erpN : cl (nI rpN) = rpN := cl_nI (by omega)
            refine lv_iload hx hb dX3_part_64 (lv_at hl 6 rfl) ?_
            refine lv_bipush (v := 16) hx hb dX3_part_66 (by decide) ?_
            refine g_callS (As := [.int o, .int 16]) (rest := []) X kX3_24 (c_X3_isBelow l E _ o 16 (by omega)) G ⟨Nat.le_of_ble_eq_true rfl, Nat.le_of_ble_eq_true rfl⟩ ⟨Nat.le_refl _, Nat.le_refl _⟩ rfl hl.1 rfl (Nat.le_of_ble_eq_true rfl) dX3_part_68 (fun H locs G => ?_)
            refine b_ifne (tgt := 76) hx hb dX3_part_71 (by decide) (fun c6 => ?_) (fun c6 => ?_)
            · skip
              obtain ⟨oN, hoN, rfl⟩ := rg_nat (by decide) c6
              have eoN : cl (nI oN) = oN := cl_nI (by omega)
              refine lv_aload_n hx hb dX3_part_76 rfl (lv_at hl 1 rfl) ?_
              refine g_get X G fX3_10 14 rfl rfl dX3_part_77 ?_
              refine lv_iload hx hb dX3_part_80 (lv_at hl 0 rfl) ?_
              refine lv_iload_n hx hb dX3_part_82 rfl (lv_at hl 2 rfl) ?_
              refine lv_iload hx hb dX3_part_83 (lv_at hl 5 rfl) ?_
              refine lv_iload hx hb dX3_part_85 (lv_at hl 6 rfl) ?_
              refine g_callV (As := [.int (nI ((rN * 8) + nmN)), .int (nI rN), .int (nI rpN), .int (nI oN)]) (rest := []) X kX3_53 (c_X1_takeFirstPart l E a st (wT E a b0 b1 h0 g0 k0 fo i0 i1 kp w) ((rN * 8) + nmN) (by omega) rN (by omega) rpN (by omega) oN (by omega)) G 0 rfl rfl ⟨Nat.le_of_ble_eq_true rfl, Nat.le_of_ble_eq_true rfl⟩ ⟨Nat.le_refl _, Nat.le_refl _⟩ rfl hl.1 rfl (Nat.le_of_ble_eq_true rfl) dX3_part_87 (fun H locs G => ?_)
              obtain ⟨sv7, esv7⟩ : ∃ z, z = (tfpC st ((rN * 8) + nmN) rN rpN oN).2 := ⟨_, rfl⟩
              rw [← esv7] at G
              exact g_iret X hr G (congrArg (fun z => wB E a z (wT E a b0 b1 h0 g0 k0 fo i0 i1 kp w)) (by (try rw [esv7]); first | (simp [xPart, c1, erN, c2, enmN, c3, eptN, c4, c5, erpN, c6, eoN]; done) | (simp [xPart, c1, erN, c2, enmN, c3, eptN, c4, c5, erpN, c6, eoN, rg_08, cl_00]; done))) (by (try rw [esv7]); first | (simp [xPart, c1, erN, c2, enmN, c3, eptN, c4, c5, erpN, c6, eoN]; done) | (simp [xPart, c1, erN, c2, enmN, c3, eptN, c4, c5, erpN, c6, eoN, rg_08, cl_00]; done)) dX3_part_90
            · skip
              refine lv_iconst (v := (-1)) hx hb dX3_part_74 (by decide) ?_
              exact g_iret X hr G (congrArg (fun z => wB E a z (wT E a b0 b1 h0 g0 k0 fo i0 i1 kp w)) (by first | (simp [xPart, c1, erN, c2, enmN, c3, eptN, c4, c5, erpN, c6]; done) | (simp [xPart, c1, erN, c2, enmN, c3, eptN, c4, c5, erpN, c6, rg_08, cl_00]; done))) (by first | (simp [xPart, c1, erN, c2, enmN, c3, eptN, c4, c5, erpN, c6]; done) | (simp [xPart, c1, erN, c2, enmN, c3, eptN, c4, c5, erpN, c6, rg_08, cl_00]; done)) dX3_part_75
          · skip
            refine lv_bipush (v := (-2)) hx hb dX3_part_61 (by decide) ?_
            exact g_iret X hr G (congrArg (fun z => wB E a z (wT E a b0 b1 h0 g0 k0 fo i0 i1 kp w)) (by first | (simp [xPart, c1, erN, c2, enmN, c3, eptN, c4, c5]; done) | (simp [xPart, c1, erN, c2, enmN, c3, eptN, c4, c5, rg_08, cl_00]; done))) (by first | (simp [xPart, c1, erN, c2, enmN, c3, eptN, c4, c5]; done) | (simp [xPart, c1, erN, c2, enmN, c3, eptN, c4, c5, rg_08, cl_00]; done)) dX3_part_63
        · skip
          refine lv_aload_n hx hb dX3_part_41 rfl (lv_at hl 1 rfl) ?_
          refine g_get X G fX3_10 14 rfl rfl dX3_part_42 ?_
          refine lv_iload hx hb dX3_part_45 (lv_at hl 0 rfl) ?_
          refine lv_iload_n hx hb dX3_part_47 rfl (lv_at hl 4 rfl) ?_
          refine g_callV (As := [.int (nI ((rN * 8) + nmN)), .int (nI ptN)]) (rest := []) X kX3_50 (c_X1_takeOtherPart l E a st (wT E a b0 b1 h0 g0 k0 fo i0 i1 kp w) ((rN * 8) + nmN) (by omega) ptN (by omega)) G 0 rfl rfl ⟨Nat.le_of_ble_eq_true rfl, Nat.le_of_ble_eq_true rfl⟩ ⟨Nat.le_refl _, Nat.le_refl _⟩ rfl hl.1 rfl (Nat.le_of_ble_eq_true rfl) dX3_part_48 (fun H locs G => ?_)
          obtain ⟨sv8, esv8⟩ : ∃ z, z = (topC st ((rN * 8) + nmN) ptN).2 := ⟨_, rfl⟩
          rw [← esv8] at G
          exact g_iret X hr G (congrArg (fun z => wB E a z (wT E a b0 b1 h0 g0 k0 fo i0 i1 kp w)) (by (try rw [esv8]); first | (simp [xPart, c1, erN, c2, enmN, c3, eptN, c4]; done) | (simp [xPart, c1, erN, c2, enmN, c3, eptN, c4, rg_08, cl_00]; done))) (by (try rw [esv8]); first | (simp [xPart, c1, erN, c2, enmN, c3, eptN, c4]; done) | (simp [xPart, c1, erN, c2, enmN, c3, eptN, c4, rg_08, cl_00]; done)) dX3_part_51
      · skip
        refine lv_bipush (v := (-2)) hx hb dX3_part_26 (by decide) ?_
        exact g_iret X hr G (congrArg (fun z => wB E a z (wT E a b0 b1 h0 g0 k0 fo i0 i1 kp w)) (by first | (simp [xPart, c1, erN, c2, enmN, c3]; done) | (simp [xPart, c1, erN, c2, enmN, c3, rg_08, cl_00]; done))) (by first | (simp [xPart, c1, erN, c2, enmN, c3]; done) | (simp [xPart, c1, erN, c2, enmN, c3, rg_08, cl_00]; done)) dX3_part_28
set_option maxHeartbeats 1000000 in
set_option maxRecDepth 100000 in
theorem c_X3_tick (l : Launch) (E : EE) (a b0 b1 : Nat → Nat) (h0 g0 k0 : Nat) (fo : Nat → Option Nat) (st i0 i1 : St) (kp : Nat → Int32) (w : va_W) (n : Int32) : Ct l yX3_tick cX3_tick 2 (some .int) 5 E [.ref h0, .int n] (wB E a st (wT E a b0 b1 h0 g0 k0 fo i0 i1 kp w)) ((xTick st n).1) (wB E a ((xTick st n).2) (wT E a b0 b1 h0 g0 k0 fo i0 i1 kp w)) := by
  refine Ct_mk RX3 rfl (by decide +kernel) (Nat.le_of_ble_eq_true rfl) ?_
  intro p e s m below meth c A ls X hr G hl
  have hl : lv_has ls 2 [(0, .ref h0), (1, .int n)] := hl
  obtain ⟨hx, hb, hml, hown, hts, hK, hA, hlocks⟩ := id X
  refine lv_iload_n hx hb dX3_tick_0 rfl (lv_at hl 1 rfl) ?_
  refine lv_iconst (v := 1) hx hb dX3_tick_1 (by decide) ?_
  refine lv_icmp_lt (tgt := 11) hx hb dX3_tick_2 (by decide) (fun c1 => ?_) (fun c1 => ?_)
  · skip
    refine lv_bipush (v := (-2)) hx hb dX3_tick_11 (by decide) ?_
    exact g_iret X hr G (congrArg (fun z => wB E a z (wT E a b0 b1 h0 g0 k0 fo i0 i1 kp w)) (by first | (simp [xTick, frB_1 c1]; done) | (simp [xTick, frB_2' c2]; done) | (simp [xTick, frB_3' c1 c2]; done))) (by first | (simp [xTick, frB_1 c1]; done) | (simp [xTick, frB_2' c2]; done) | (simp [xTick, frB_3' c1 c2]; done)) dX3_tick_13
  · skip
    refine lv_iload_n hx hb dX3_tick_5 rfl (lv_at hl 1 rfl) ?_
    refine lv_bipush (v := 100) hx hb dX3_tick_6 (by decide) ?_
    refine lv_icmp_le (tgt := 14) hx hb dX3_tick_8 (by decide) (fun c2 => ?_) (fun c2 => ?_)
    · skip
      refine lv_aload_n hx hb dX3_tick_14 rfl (lv_at hl 0 rfl) ?_
      refine g_get X G fX3_10 14 rfl rfl dX3_tick_15 ?_
      refine lv_iload_n hx hb dX3_tick_18 rfl (lv_at hl 1 rfl) ?_
      refine g_callV (As := [.int n]) (rest := []) X kX3_56 (c_X1_passTicks l E a st (wT E a b0 b1 h0 g0 k0 fo i0 i1 kp w) n) G 0 rfl rfl ⟨Nat.le_of_ble_eq_true rfl, Nat.le_of_ble_eq_true rfl⟩ ⟨Nat.le_refl _, Nat.le_refl _⟩ rfl hl.1 rfl (Nat.le_of_ble_eq_true rfl) dX3_tick_19 (fun H locs G => ?_)
      obtain ⟨sv3, esv3⟩ : ∃ z, z = (passC st n).1 := ⟨_, rfl⟩
      rw [← esv3] at G
      exact g_iret X hr G (congrArg (fun z => wB E a z (wT E a b0 b1 h0 g0 k0 fo i0 i1 kp w)) (by (try rw [esv3]); first | (simp [xTick, frB_1 c1]; done) | (simp [xTick, frB_2' c2]; done) | (simp [xTick, frB_3' c1 c2]; done))) (by (try rw [esv3]); first | (simp [xTick, frB_1 c1]; done) | (simp [xTick, frB_2' c2]; done) | (simp [xTick, frB_3' c1 c2]; done)) dX3_tick_22
    · skip
      refine lv_bipush (v := (-2)) hx hb dX3_tick_11 (by decide) ?_
      exact g_iret X hr G (congrArg (fun z => wB E a z (wT E a b0 b1 h0 g0 k0 fo i0 i1 kp w)) (by first | (simp [xTick, frB_1 c1]; done) | (simp [xTick, frB_2' c2]; done) | (simp [xTick, frB_3' c1 c2]; done))) (by first | (simp [xTick, frB_1 c1]; done) | (simp [xTick, frB_2' c2]; done) | (simp [xTick, frB_3' c1 c2]; done)) dX3_tick_13
set_option maxHeartbeats 1000000 in
set_option maxRecDepth 100000 in
theorem c_X3_drop (l : Launch) (E : EE) (a b0 b1 : Nat → Nat) (h0 g0 k0 : Nat) (fo : Nat → Option Nat) (st i0 i1 : St) (kp : Nat → Int32) (w : va_W) (h : Int32) : Ct l yX3_drop cX3_drop 2 (some .int) 4 E [.ref h0, .int h] (wB E a st (wT E a b0 b1 h0 g0 k0 fo i0 i1 kp w)) ((xDrop st h).1) (wB E a ((xDrop st h).2) (wT E a b0 b1 h0 g0 k0 fo i0 i1 kp w)) := by
  refine Ct_mk RX3 rfl (by decide +kernel) (Nat.le_of_ble_eq_true rfl) ?_
  intro p e s m below meth c A ls X hr G hl
  have hl : lv_has ls 2 [(0, .ref h0), (1, .int h)] := hl
  obtain ⟨hx, hb, hml, hown, hts, hK, hA, hlocks⟩ := id X
  refine lv_iload_n hx hb dX3_drop_0 rfl (lv_at hl 1 rfl) ?_
  refine lv_iconst (v := 4) hx hb dX3_drop_1 (by decide) ?_
  refine g_callS (As := [.int h, .int 4]) (rest := []) X kX3_24 (c_X3_isBelow l E _ h 4 (by omega)) G ⟨Nat.le_of_ble_eq_true rfl, Nat.le_of_ble_eq_true rfl⟩ ⟨Nat.le_refl _, Nat.le_refl _⟩ rfl hl.1 rfl (Nat.le_of_ble_eq_true rfl) dX3_drop_2 (fun H locs G => ?_)
  refine b_ifne (tgt := 10) hx hb dX3_drop_5 (by decide) (fun c1 => ?_) (fun c1 => ?_)
  · skip
    obtain ⟨hN, hhN, rfl⟩ := rg_nat (by decide) c1
    have ehN : cl (nI hN) = hN := cl_nI (by omega)
    refine lv_aload_n hx hb dX3_drop_10 rfl (lv_at hl 0 rfl) ?_
    refine g_get X G fX3_10 14 rfl rfl dX3_drop_11 ?_
    refine lv_iload_n hx hb dX3_drop_14 rfl (lv_at hl 1 rfl) ?_
    refine g_callV (As := [.int (nI hN)]) (rest := []) X kX3_60 (c_X1_endBindingsOf l E a st (wT E a b0 b1 h0 g0 k0 fo i0 i1 kp w) (nI hN)) G 0 rfl rfl ⟨Nat.le_of_ble_eq_true rfl, Nat.le_of_ble_eq_true rfl⟩ ⟨Nat.le_refl _, Nat.le_refl _⟩ rfl hl.1 rfl (Nat.le_of_ble_eq_true rfl) dX3_drop_15 (fun H locs G => ?_)
    obtain ⟨sv2, esv2⟩ : ∃ z, z = (iF (dropS (nI hN)) 16 0 (st, 0)).1 := ⟨_, rfl⟩
    rw [← esv2] at G
    exact g_iret X hr G (congrArg (fun z => wB E a z (wT E a b0 b1 h0 g0 k0 fo i0 i1 kp w)) (by (try rw [esv2]); simp [xDrop, c1, ehN])) (by (try rw [esv2]); simp [xDrop, c1, ehN]) dX3_drop_18
  · skip
    refine lv_iconst (v := (-1)) hx hb dX3_drop_8 (by decide) ?_
    exact g_iret X hr G (congrArg (fun z => wB E a z (wT E a b0 b1 h0 g0 k0 fo i0 i1 kp w)) (by simp [xDrop, c1])) (by simp [xDrop, c1]) dX3_drop_9
set_option maxHeartbeats 1000000 in
set_option maxRecDepth 100000 in
theorem c_X3_of (l : Launch) (E : EE) (a b0 b1 : Nat → Nat) (h0 g0 k0 : Nat) (fo : Nat → Option Nat) (st i0 i1 : St) (kp : Nat → Int32) (w : va_W) (o : Int32) (what : Int32) : Ct l yX3_of cX3_of 3 (some .int) 3 E [.ref h0, .int o, .int what] (wB E a st (wT E a b0 b1 h0 g0 k0 fo i0 i1 kp w)) (xOf st o what) (wB E a st (wT E a b0 b1 h0 g0 k0 fo i0 i1 kp w)) := by
  refine Ct_mk RX3 rfl (by decide +kernel) (Nat.le_of_ble_eq_true rfl) ?_
  intro p e s m below meth c A ls X hr G hl
  have hl : lv_has ls 3 [(0, .ref h0), (1, .int o), (2, .int what)] := hl
  obtain ⟨hx, hb, hml, hown, hts, hK, hA, hlocks⟩ := id X
  refine lv_iload_n hx hb dX3_of_0 rfl (lv_at hl 1 rfl) ?_
  refine lv_bipush (v := 16) hx hb dX3_of_1 (by decide) ?_
  refine g_callS (As := [.int o, .int 16]) (rest := []) X kX3_24 (c_X3_isBelow l E _ o 16 (by omega)) G ⟨Nat.le_of_ble_eq_true rfl, Nat.le_of_ble_eq_true rfl⟩ ⟨Nat.le_refl _, Nat.le_refl _⟩ rfl hl.1 rfl (Nat.le_of_ble_eq_true rfl) dX3_of_3 (fun H locs G => ?_)
  refine b_ifne (tgt := 11) hx hb dX3_of_6 (by decide) (fun c1 => ?_) (fun c1 => ?_)
  · skip
    obtain ⟨oN, hoN, rfl⟩ := rg_nat (by decide) c1
    have eoN : cl (nI oN) = oN := cl_nI (by omega)
    refine lv_iload_n hx hb dX3_of_11 rfl (lv_at hl 2 rfl) ?_
    refine lv_bipush (v := 6) hx hb dX3_of_12 (by decide) ?_
    refine g_callS (As := [.int what, .int 6]) (rest := []) X kX3_24 (c_X3_isBelow l E _ what 6 (by omega)) G ⟨Nat.le_of_ble_eq_true rfl, Nat.le_of_ble_eq_true rfl⟩ ⟨Nat.le_refl _, Nat.le_refl _⟩ rfl hl.1 rfl (Nat.le_of_ble_eq_true rfl) dX3_of_14 (fun H locs G => ?_)
    refine b_ifne (tgt := 23) hx hb dX3_of_17 (by decide) (fun c2 => ?_) (fun c2 => ?_)
    · skip
      obtain ⟨whatN, hwhatN, rfl⟩ := rg_nat (by decide) c2
      have ewhatN : cl (nI whatN) = whatN := cl_nI (by omega)
      refine lv_aload_n hx hb dX3_of_23 rfl (lv_at hl 0 rfl) ?_
      refine g_get X G fX3_10 14 rfl rfl dX3_of_24 ?_
      refine g_get X G fX3_63 0 rfl rfl dX3_of_27 ?_
      refine lv_iload_n hx hb dX3_of_30 rfl (lv_at hl 1 rfl) ?_
      refine g_callV (As := [.int (nI oN)]) (rest := []) X kX3_67 (c_X0_isLent l E a st (wT E a b0 b1 h0 g0 k0 fo i0 i1 kp w) oN (by omega)) G 2 rfl rfl ⟨Nat.le_of_ble_eq_true rfl, Nat.le_of_ble_eq_true rfl⟩ ⟨Nat.le_refl _, Nat.le_refl _⟩ rfl hl.1 rfl (Nat.le_of_ble_eq_true rfl) dX3_of_31 (fun H locs G => ?_)
      refine b_ifeq (tgt := 49) hx hb dX3_of_34 (by decide) (fun c3 => ?_) (fun c3 => ?_)
      · skip
        refine lv_bipush (v := (-6)) hx hb dX3_of_49 (by decide) ?_
        exact g_iret X hr G rfl (by simp [xOf, c1, eoN, c2, ewhatN, c3]) dX3_of_51
      · skip
        refine lv_aload_n hx hb dX3_of_37 rfl (lv_at hl 0 rfl) ?_
        refine g_get X G fX3_10 14 rfl rfl dX3_of_38 ?_
        refine lv_iload_n hx hb dX3_of_41 rfl (lv_at hl 1 rfl) ?_
        refine lv_iload_n hx hb dX3_of_42 rfl (lv_at hl 2 rfl) ?_
        refine g_callV (As := [.int (nI oN), .int (nI whatN)]) (rest := []) X kX3_73 (c_X1_tellOfBinding l E a st (wT E a b0 b1 h0 g0 k0 fo i0 i1 kp w) oN (by omega) (nI whatN)) G 0 rfl rfl ⟨Nat.le_of_ble_eq_true rfl, Nat.le_of_ble_eq_true rfl⟩ ⟨Nat.le_refl _, Nat.le_refl _⟩ rfl hl.1 rfl (Nat.le_of_ble_eq_true rfl) dX3_of_43 (fun H locs G => ?_)
        refine lv_goto (tgt := 51) hx hb dX3_of_46 (by decide) ?_
        exact g_iret X hr G rfl (by simp [xOf, c1, eoN, c2, ewhatN, c3]) dX3_of_51
    · skip
      refine lv_bipush (v := (-2)) hx hb dX3_of_20 (by decide) ?_
      exact g_iret X hr G rfl (by simp [xOf, c1, eoN, c2]) dX3_of_22
  · skip
    refine lv_iconst (v := (-1)) hx hb dX3_of_9 (by decide) ?_
    exact g_iret X hr G rfl (by simp [xOf, c1]) dX3_of_10
set_option maxHeartbeats 1000000 in
set_option maxRecDepth 100000 in
theorem c_X3_sent (l : Launch) (E : EE) (a b0 b1 : Nat → Nat) (h0 g0 k0 : Nat) (fo : Nat → Option Nat) (st i0 i1 : St) (kp : Nat → Int32) (w : va_W) (o : Int32) (r : Int32) (rp : Int32) : Ct l yX3_sent cX3_sent 4 (some .int) 2 E [.ref h0, .int o, .int r, .int rp] (wB E a st (wT E a b0 b1 h0 g0 k0 fo i0 i1 kp w)) (xSent st o r rp) (wB E a st (wT E a b0 b1 h0 g0 k0 fo i0 i1 kp w)) := by
  refine Ct_mk RX3 rfl (by decide +kernel) (Nat.le_of_ble_eq_true rfl) ?_
  intro p e s m below meth c A ls X hr G hl
  have hl : lv_has ls 4 [(0, .ref h0), (1, .int o), (2, .int r), (3, .int rp)] := hl
  obtain ⟨hx, hb, hml, hown, hts, hK, hA, hlocks⟩ := id X
  refine lv_iload_n hx hb dX3_sent_0 rfl (lv_at hl 1 rfl) ?_
  refine lv_bipush (v := 16) hx hb dX3_sent_1 (by decide) ?_
  refine g_callS (As := [.int o, .int 16]) (rest := []) X kX3_24 (c_X3_isBelow l E _ o 16 (by omega)) G ⟨Nat.le_of_ble_eq_true rfl, Nat.le_of_ble_eq_true rfl⟩ ⟨Nat.le_refl _, Nat.le_refl _⟩ rfl hl.1 rfl (Nat.le_of_ble_eq_true rfl) dX3_sent_3 (fun H locs G => ?_)
  refine b_ifne (tgt := 11) hx hb dX3_sent_6 (by decide) (fun c1 => ?_) (fun c1 => ?_)
  · skip
    obtain ⟨oN, hoN, rfl⟩ := rg_nat (by decide) c1
    have eoN : cl (nI oN) = oN := cl_nI (by omega)
    refine lv_iload_n hx hb dX3_sent_11 rfl (lv_at hl 2 rfl) ?_
    refine lv_iload_n hx hb dX3_sent_12 rfl (lv_at hl 3 rfl) ?_
    refine g_callS (As := [.int r, .int rp]) (rest := []) X kX3_39 (c_X3_isRemotePort l E _ r rp) G ⟨Nat.le_of_ble_eq_true rfl, Nat.le_of_ble_eq_true rfl⟩ ⟨Nat.le_refl _, Nat.le_refl _⟩ rfl hl.1 rfl (Nat.le_of_ble_eq_true rfl) dX3_sent_13 (fun H locs G => ?_)
    refine b_ifne (tgt := 22) hx hb dX3_sent_16 (by decide) (fun c2 => ?_) (fun c2 => ?_)
    · skip
      obtain ⟨rN, rpN, hrN, hrpN, zrpN, rfl, rfl⟩ := rgR_nat c2
      have erN : cl (nI rN) = rN := cl_nI (by omega)
      have erpN : cl (nI rpN) = rpN := cl_nI (by omega)
      refine lv_aload_n hx hb dX3_sent_22 rfl (lv_at hl 0 rfl) ?_
      refine g_get X G fX3_10 14 rfl rfl dX3_sent_23 ?_
      refine g_get X G fX3_63 0 rfl rfl dX3_sent_26 ?_
      refine lv_iload_n hx hb dX3_sent_29 rfl (lv_at hl 1 rfl) ?_
      refine g_callV (As := [.int (nI oN)]) (rest := []) X kX3_67 (c_X0_isLent l E a st (wT E a b0 b1 h0 g0 k0 fo i0 i1 kp w) oN (by omega)) G 2 rfl rfl ⟨Nat.le_of_ble_eq_true rfl, Nat.le_of_ble_eq_true rfl⟩ ⟨Nat.le_refl _, Nat.le_refl _⟩ rfl hl.1 rfl (Nat.le_of_ble_eq_true rfl) dX3_sent_30 (fun H locs G => ?_)
      refine b_ifne (tgt := 39) hx hb dX3_sent_33 (by decide) (fun c3 => ?_) (fun c3 => ?_)
      · skip
        refine lv_aload_n hx hb dX3_sent_39 rfl (lv_at hl 0 rfl) ?_
        refine g_get X G fX3_10 14 rfl rfl dX3_sent_40 ?_
        refine g_get X G fX3_63 0 rfl rfl dX3_sent_43 ?_
        refine lv_iload_n hx hb dX3_sent_46 rfl (lv_at hl 1 rfl) ?_
        refine lv_iload_n hx hb dX3_sent_47 rfl (lv_at hl 2 rfl) ?_
        refine lv_iload_n hx hb dX3_sent_48 rfl (lv_at hl 3 rfl) ?_
        refine g_callV (As := [.int (nI oN), .int (nI rN), .int (nI rpN)]) (rest := []) X kX3_76 (c_X0_isSent l E a st (wT E a b0 b1 h0 g0 k0 fo i0 i1 kp w) oN (by omega) rN (by omega) rpN) G 2 rfl rfl ⟨Nat.le_of_ble_eq_true rfl, Nat.le_of_ble_eq_true rfl⟩ ⟨Nat.le_refl _, Nat.le_refl _⟩ rfl hl.1 rfl (Nat.le_of_ble_eq_true rfl) dX3_sent_49 (fun H locs G => ?_)
        refine b_ifeq (tgt := 59) hx hb dX3_sent_52 (by decide) (fun c4 => ?_) (fun c4 => ?_)
        · skip
          refine lv_iconst (v := 0) hx hb dX3_sent_59 (by decide) ?_
          exact g_iret X hr G rfl (by simp [xSent, bI, c1, eoN, c2, erN, erpN, c3, c4]) dX3_sent_60
        · skip
          refine lv_iconst (v := 1) hx hb dX3_sent_55 (by decide) ?_
          refine lv_goto (tgt := 60) hx hb dX3_sent_56 (by decide) ?_
          exact g_iret X hr G rfl (by simp [xSent, bI, c1, eoN, c2, erN, erpN, c3, c4]) dX3_sent_60
      · skip
        refine lv_bipush (v := (-6)) hx hb dX3_sent_36 (by decide) ?_
        exact g_iret X hr G rfl (by simp [xSent, bI, c1, eoN, c2, erN, erpN, c3]) dX3_sent_38
    · skip
      refine lv_bipush (v := (-2)) hx hb dX3_sent_19 (by decide) ?_
      exact g_iret X hr G rfl (by simp [xSent, bI, c1, eoN, c2]) dX3_sent_21
  · skip
    refine lv_iconst (v := (-1)) hx hb dX3_sent_9 (by decide) ?_
    exact g_iret X hr G rfl (by simp [xSent, bI, c1]) dX3_sent_10
set_option maxHeartbeats 1000000 in
set_option maxRecDepth 100000 in
theorem c_X3_find (l : Launch) (E : EE) (a b0 b1 : Nat → Nat) (h0 g0 k0 : Nat) (fo : Nat → Option Nat) (st i0 i1 : St) (kp : Nat → Int32) (w : va_W) (h : Int32) (pt : Int32) (r : Int32) (rp : Int32) : Ct l yX3_find cX3_find 5 (some .int) 2 E [.ref h0, .int h, .int pt, .int r, .int rp] (wB E a st (wT E a b0 b1 h0 g0 k0 fo i0 i1 kp w)) (xFind st h pt r rp) (wB E a st (wT E a b0 b1 h0 g0 k0 fo i0 i1 kp w)) := by
  refine Ct_mk RX3 rfl (by decide +kernel) (Nat.le_of_ble_eq_true rfl) ?_
  intro p e s m below meth c A ls X hr G hl
  have hl : lv_has ls 5 [(0, .ref h0), (1, .int h), (2, .int pt), (3, .int r), (4, .int rp)] := hl
  obtain ⟨hx, hb, hml, hown, hts, hK, hA, hlocks⟩ := id X
  refine lv_iload_n hx hb dX3_find_0 rfl (lv_at hl 1 rfl) ?_
  refine lv_iconst (v := 4) hx hb dX3_find_1 (by decide) ?_
  refine g_callS (As := [.int h, .int 4]) (rest := []) X kX3_24 (c_X3_isBelow l E _ h 4 (by omega)) G ⟨Nat.le_of_ble_eq_true rfl, Nat.le_of_ble_eq_true rfl⟩ ⟨Nat.le_refl _, Nat.le_refl _⟩ rfl hl.1 rfl (Nat.le_of_ble_eq_true rfl) dX3_find_2 (fun H locs G => ?_)
  refine b_ifne (tgt := 10) hx hb dX3_find_5 (by decide) (fun c1 => ?_) (fun c1 => ?_)
  · skip
    obtain ⟨hN, hhN, rfl⟩ := rg_nat (by decide) c1
    have ehN : cl (nI hN) = hN := cl_nI (by omega)
    refine lv_iload_n hx hb dX3_find_10 rfl (lv_at hl 2 rfl) ?_
    refine lv_bipush (v := 32) hx hb dX3_find_11 (by decide) ?_
    refine g_callS (As := [.int pt, .int 32]) (rest := []) X kX3_24 (c_X3_isBelow l E _ pt 32 (by omega)) G ⟨Nat.le_of_ble_eq_true rfl, Nat.le_of_ble_eq_true rfl⟩ ⟨Nat.le_refl _, Nat.le_refl _⟩ rfl hl.1 rfl (Nat.le_of_ble_eq_true rfl) dX3_find_13 (fun H locs G => ?_)
    refine b_ifeq (tgt := 28) hx hb dX3_find_16 (by decide) (fun c2 => ?_) (fun c2 => ?_)
    · skip
      refine lv_bipush (v := (-2)) hx hb dX3_find_28 (by decide) ?_
      exact g_iret X hr G rfl (by simp [xFind, oI, c1, ehN, c2]) dX3_find_30
    · skip
      obtain ⟨ptN, hptN, rfl⟩ := rg_nat (by decide) c2
      have eptN : cl (nI ptN) = ptN := cl_nI (by omega)
      refine lv_iload_n hx hb dX3_find_19 rfl (lv_at hl 3 rfl) ?_
      refine lv_iload hx hb dX3_find_20 (lv_at hl 4 rfl) ?_
      refine g_callS (As := [.int r, .int rp]) (rest := []) X kX3_39 (c_X3_isRemotePort l E _ r rp) G ⟨Nat.le_of_ble_eq_true rfl, Nat.le_of_ble_eq_true rfl⟩ ⟨Nat.le_refl _, Nat.le_refl _⟩ rfl hl.1 rfl (Nat.le_of_ble_eq_true rfl) dX3_find_22 (fun H locs G => ?_)
      refine b_ifne (tgt := 31) hx hb dX3_find_25 (by decide) (fun c3 => ?_) (fun c3 => ?_)
      · skip
        obtain ⟨rN, rpN, hrN, hrpN, zrpN, rfl, rfl⟩ := rgR_nat c3
        have erN : cl (nI rN) = rN := cl_nI (by omega)
        have erpN : cl (nI rpN) = rpN := cl_nI (by omega)
        refine lv_aload_n hx hb dX3_find_31 rfl (lv_at hl 0 rfl) ?_
        refine g_get X G fX3_10 14 rfl rfl dX3_find_32 ?_
        refine g_get X G fX3_63 0 rfl rfl dX3_find_35 ?_
        refine lv_iload_n hx hb dX3_find_38 rfl (lv_at hl 1 rfl) ?_
        refine lv_bipush (v := 32) hx hb dX3_find_39 (by decide) ?_
        refine n_imul hN 32 rfl rfl hx hb dX3_find_41 ?_
        refine lv_iload_n hx hb dX3_find_42 rfl (lv_at hl 2 rfl) ?_
        refine n_iadd (hN * 32) ptN rfl rfl hx hb dX3_find_43 ?_
        refine lv_iload_n hx hb dX3_find_44 rfl (lv_at hl 3 rfl) ?_
        refine lv_iload hx hb dX3_find_45 (lv_at hl 4 rfl) ?_
        refine g_callV (As := [.int (nI ((hN * 32) + ptN)), .int (nI rN), .int (nI rpN)]) (rest := []) X kX3_80 (c_X0_seek l E a st (wT E a b0 b1 h0 g0 k0 fo i0 i1 kp w) (nI ((hN * 32) + ptN)) (nI rN) (nI rpN)) G 2 rfl rfl ⟨Nat.le_of_ble_eq_true rfl, Nat.le_of_ble_eq_true rfl⟩ ⟨Nat.le_refl _, Nat.le_refl _⟩ rfl hl.1 rfl (Nat.le_of_ble_eq_true rfl) dX3_find_47 (fun H locs G => ?_)
        refine o_split (fun c5 => ?_) (fun j4 c6 => ?_)
        · skip
          exact g_iret X hr G rfl (by simp [xFind, oI, c1, ehN, c2, eptN, c3, erN, erpN, c5]) dX3_find_50
        · skip
          have bj4 : j4 < 16 := seekO_lt c6
          exact g_iret X hr G rfl (by simp [xFind, oI, c1, ehN, c2, eptN, c3, erN, erpN, c6]) dX3_find_50
      · skip
        refine lv_bipush (v := (-2)) hx hb dX3_find_28 (by decide) ?_
        exact g_iret X hr G rfl (by simp [xFind, oI, c1, ehN, c2, eptN, c3]) dX3_find_30
  · skip
    refine lv_iconst (v := (-1)) hx hb dX3_find_8 (by decide) ?_
    exact g_iret X hr G rfl (by simp [xFind, oI, c1]) dX3_find_9
set_option maxHeartbeats 1000000 in
set_option maxRecDepth 100000 in
theorem c_X3_next (l : Launch) (E : EE) (a b0 b1 : Nat → Nat) (h0 g0 k0 : Nat) (fo : Nat → Option Nat) (st i0 i1 : St) (kp : Nat → Int32) (w : va_W) (h : Int32) (pt : Int32) : Ct l yX3_next cX3_next 3 (some .int) 5 E [.ref h0, .int h, .int pt] (wB E a st (wT E a b0 b1 h0 g0 k0 fo i0 i1 kp w)) (xNext st h pt) (wB E a st (wT E a b0 b1 h0 g0 k0 fo i0 i1 kp w)) := by
  refine Ct_mk RX3 rfl (by decide +kernel) (Nat.le_of_ble_eq_true rfl) ?_
  intro p e s m below meth c A ls X hr G hl
  have hl : lv_has ls 3 [(0, .ref h0), (1, .int h), (2, .int pt)] := hl
  obtain ⟨hx, hb, hml, hown, hts, hK, hA, hlocks⟩ := id X
  refine lv_iload_n hx hb dX3_next_0 rfl (lv_at hl 1 rfl) ?_
  refine lv_iconst (v := 4) hx hb dX3_next_1 (by decide) ?_
  refine g_callS (As := [.int h, .int 4]) (rest := []) X kX3_24 (c_X3_isBelow l E _ h 4 (by omega)) G ⟨Nat.le_of_ble_eq_true rfl, Nat.le_of_ble_eq_true rfl⟩ ⟨Nat.le_refl _, Nat.le_refl _⟩ rfl hl.1 rfl (Nat.le_of_ble_eq_true rfl) dX3_next_2 (fun H locs G => ?_)
  refine b_ifne (tgt := 10) hx hb dX3_next_5 (by decide) (fun c1 => ?_) (fun c1 => ?_)
  · skip
    obtain ⟨hN, hhN, rfl⟩ := rg_nat (by decide) c1
    have ehN : cl (nI hN) = hN := cl_nI (by omega)
    refine lv_iload_n hx hb dX3_next_10 rfl (lv_at hl 2 rfl) ?_
    refine lv_bipush (v := 32) hx hb dX3_next_11 (by decide) ?_
    refine g_callS (As := [.int pt, .int 32]) (rest := []) X kX3_24 (c_X3_isBelow l E _ pt 32 (by omega)) G ⟨Nat.le_of_ble_eq_true rfl, Nat.le_of_ble_eq_true rfl⟩ ⟨Nat.le_refl _, Nat.le_refl _⟩ rfl hl.1 rfl (Nat.le_of_ble_eq_true rfl) dX3_next_13 (fun H locs G => ?_)
    refine b_ifne (tgt := 22) hx hb dX3_next_16 (by decide) (fun c2 => ?_) (fun c2 => ?_)
    · skip
      obtain ⟨ptN, hptN, rfl⟩ := rg_nat (by decide) c2
      have eptN : cl (nI ptN) = ptN := cl_nI (by omega)
      refine lv_aload_n hx hb dX3_next_22 rfl (lv_at hl 0 rfl) ?_
      refine g_get X G fX3_10 14 rfl rfl dX3_next_23 ?_
      refine lv_iload_n hx hb dX3_next_26 rfl (lv_at hl 1 rfl) ?_
      refine lv_iload_n hx hb dX3_next_27 rfl (lv_at hl 2 rfl) ?_
      refine g_callV (As := [.int (nI hN), .int (nI ptN)]) (rest := []) X kX3_84 (c_X1_choose l E a st (wT E a b0 b1 h0 g0 k0 fo i0 i1 kp w) (nI hN) ptN (by omega)) G 0 rfl rfl ⟨Nat.le_of_ble_eq_true rfl, Nat.le_of_ble_eq_true rfl⟩ ⟨Nat.le_refl _, Nat.le_refl _⟩ rfl hl.1 rfl (Nat.le_of_ble_eq_true rfl) dX3_next_28 (fun H locs G => ?_)
      refine o_split (fun c4 => ?_) (fun j3 c5 => ?_)
      · skip
        exact g_iret X hr G rfl (by simp [xNext, oI, c1, ehN, c2, eptN, c4]) dX3_next_31
      · skip
        have bj3 : j3 < 16 := chooseC_lt c5
        exact g_iret X hr G rfl (by simp [xNext, oI, c1, ehN, c2, eptN, c5]) dX3_next_31
    · skip
      refine lv_bipush (v := (-2)) hx hb dX3_next_19 (by decide) ?_
      exact g_iret X hr G rfl (by simp [xNext, oI, c1, ehN, c2]) dX3_next_21
  · skip
    refine lv_iconst (v := (-1)) hx hb dX3_next_8 (by decide) ?_
    exact g_iret X hr G rfl (by simp [xNext, oI, c1]) dX3_next_9
set_option maxHeartbeats 1000000 in
set_option maxRecDepth 100000 in
theorem c_X3_why (l : Launch) (E : EE) (a b0 b1 : Nat → Nat) (h0 g0 k0 : Nat) (fo : Nat → Option Nat) (st i0 i1 : St) (kp : Nat → Int32) (w : va_W) (r : Int32) (rp : Int32) (o : Int32) : Ct l yX3_why cX3_why 4 (some .int) 2 E [.ref h0, .int r, .int rp, .int o] (wB E a st (wT E a b0 b1 h0 g0 k0 fo i0 i1 kp w)) (xWhy st r rp o) (wB E a st (wT E a b0 b1 h0 g0 k0 fo i0 i1 kp w)) := by
  refine Ct_mk RX3 rfl (by decide +kernel) (Nat.le_of_ble_eq_true rfl) ?_
  intro p e s m below meth c A ls X hr G hl
  have hl : lv_has ls 4 [(0, .ref h0), (1, .int r), (2, .int rp), (3, .int o)] := hl
  obtain ⟨hx, hb, hml, hown, hts, hK, hA, hlocks⟩ := id X
  refine lv_iload_n hx hb dX3_why_0 rfl (lv_at hl 1 rfl) ?_
  refine lv_iload_n hx hb dX3_why_1 rfl (lv_at hl 2 rfl) ?_
  refine g_callS (As := [.int r, .int rp]) (rest := []) X kX3_39 (c_X3_isRemotePort l E _ r rp) G ⟨Nat.le_of_ble_eq_true rfl, Nat.le_of_ble_eq_true rfl⟩ ⟨Nat.le_refl _, Nat.le_refl _⟩ rfl hl.1 rfl (Nat.le_of_ble_eq_true rfl) dX3_why_2 (fun H locs G => ?_)
  refine b_ifne (tgt := 11) hx hb dX3_why_5 (by decide) (fun c1 => ?_) (fun c1 => ?_)
  · skip
    obtain ⟨rN, rpN, hrN, hrpN, zrpN, rfl, rfl⟩ := rgR_nat c1
    have erN : cl (nI rN) = rN := cl_nI (by omega)
    have erpN : cl (nI rpN) = rpN := cl_nI (by omega)
    refine lv_iload_n hx hb dX3_why_11 rfl (lv_at hl 3 rfl) ?_
    refine lv_bipush (v := 16) hx hb dX3_why_12 (by decide) ?_
    refine g_callS (As := [.int o, .int 16]) (rest := []) X kX3_24 (c_X3_isBelow l E _ o 16 (by omega)) G ⟨Nat.le_of_ble_eq_true rfl, Nat.le_of_ble_eq_true rfl⟩ ⟨Nat.le_refl _, Nat.le_refl _⟩ rfl hl.1 rfl (Nat.le_of_ble_eq_true rfl) dX3_why_14 (fun H locs G => ?_)
    refine b_ifne (tgt := 22) hx hb dX3_why_17 (by decide) (fun c2 => ?_) (fun c2 => ?_)
    · skip
      obtain ⟨oN, hoN, rfl⟩ := rg_nat (by decide) c2
      have eoN : cl (nI oN) = oN := cl_nI (by omega)
      refine lv_aload_n hx hb dX3_why_22 rfl (lv_at hl 0 rfl) ?_
      refine g_get X G fX3_10 14 rfl rfl dX3_why_23 ?_
      refine lv_iload_n hx hb dX3_why_26 rfl (lv_at hl 1 rfl) ?_
      refine lv_iload_n hx hb dX3_why_27 rfl (lv_at hl 2 rfl) ?_
      refine lv_iload_n hx hb dX3_why_28 rfl (lv_at hl 3 rfl) ?_
      refine g_callV (As := [.int (nI rN), .int (nI rpN), .int (nI oN)]) (rest := []) X kX3_87 (c_X1_reasonAgainst l E a st (wT E a b0 b1 h0 g0 k0 fo i0 i1 kp w) rN (by omega) rpN (by omega) oN (by omega)) G 0 rfl rfl ⟨Nat.le_of_ble_eq_true rfl, Nat.le_of_ble_eq_true rfl⟩ ⟨Nat.le_refl _, Nat.le_refl _⟩ rfl hl.1 rfl (Nat.le_of_ble_eq_true rfl) dX3_why_29 (fun H locs G => ?_)
      have b3 : (reasonC st rN rpN oN) ≤ 2 := reasonC_le _ _ _ _
      exact g_iret X hr G rfl (by simp [xWhy, c1, erN, erpN, c2, eoN]) dX3_why_32
    · skip
      refine lv_iconst (v := (-1)) hx hb dX3_why_20 (by decide) ?_
      exact g_iret X hr G rfl (by simp [xWhy, c1, erN, erpN, c2]) dX3_why_21
  · skip
    refine lv_bipush (v := (-2)) hx hb dX3_why_8 (by decide) ?_
    exact g_iret X hr G rfl (by simp [xWhy, c1]) dX3_why_10
set_option maxHeartbeats 1000000 in
set_option maxRecDepth 100000 in
theorem c_X3_block (l : Launch) (E : EE) (a b0 b1 : Nat → Nat) (h0 g0 k0 : Nat) (fo : Nat → Option Nat) (st i0 i1 : St) (kp : Nat → Int32) (w : va_W) (b : Int32) : Ct l yX3_block cX3_block 2 (some .int) 3 E [.ref h0, .int b] (wB E a st (wT E a b0 b1 h0 g0 k0 fo i0 i1 kp w)) (xBlock st b) (wB E a st (wT E a b0 b1 h0 g0 k0 fo i0 i1 kp w)) := by
  refine Ct_mk RX3 rfl (by decide +kernel) (Nat.le_of_ble_eq_true rfl) ?_
  intro p e s m below meth c A ls X hr G hl
  have hl : lv_has ls 2 [(0, .ref h0), (1, .int b)] := hl
  obtain ⟨hx, hb, hml, hown, hts, hK, hA, hlocks⟩ := id X
  refine lv_iload_n hx hb dX3_block_0 rfl (lv_at hl 1 rfl) ?_
  refine lv_iconst (v := 4) hx hb dX3_block_1 (by decide) ?_
  refine g_callS (As := [.int b, .int 4]) (rest := []) X kX3_24 (c_X3_isBelow l E _ b 4 (by omega)) G ⟨Nat.le_of_ble_eq_true rfl, Nat.le_of_ble_eq_true rfl⟩ ⟨Nat.le_refl _, Nat.le_refl _⟩ rfl hl.1 rfl (Nat.le_of_ble_eq_true rfl) dX3_block_2 (fun H locs G => ?_)
  refine b_ifne (tgt := 10) hx hb dX3_block_5 (by decide) (fun c1 => ?_) (fun c1 => ?_)
  · skip
    obtain ⟨bN, hbN, rfl⟩ := rg_nat (by decide) c1
    have ebN : cl (nI bN) = bN := cl_nI (by omega)
    refine lv_aload_n hx hb dX3_block_10 rfl (lv_at hl 0 rfl) ?_
    refine g_get X G fX3_10 14 rfl rfl dX3_block_11 ?_
    refine g_get X G fX3_63 0 rfl rfl dX3_block_14 ?_
    refine lv_iload_n hx hb dX3_block_17 rfl (lv_at hl 1 rfl) ?_
    refine g_callV (As := [.int (nI bN)]) (rest := []) X kX3_90 (c_X0_holderOf l E a st (wT E a b0 b1 h0 g0 k0 fo i0 i1 kp w) bN (by omega)) G 2 rfl rfl ⟨Nat.le_of_ble_eq_true rfl, Nat.le_of_ble_eq_true rfl⟩ ⟨Nat.le_refl _, Nat.le_refl _⟩ rfl hl.1 rfl (Nat.le_of_ble_eq_true rfl) dX3_block_18 (fun H locs G => ?_)
    exact g_iret X hr G rfl (by simp [xBlock, c1, ebN]) dX3_block_21
  · skip
    refine lv_iconst (v := (-1)) hx hb dX3_block_8 (by decide) ?_
    exact g_iret X hr G rfl (by simp [xBlock, c1]) dX3_block_9
set_option maxHeartbeats 1000000 in
set_option maxRecDepth 100000 in
theorem c_X3_host (l : Launch) (E : EE) (a b0 b1 : Nat → Nat) (h0 g0 k0 : Nat) (fo : Nat → Option Nat) (st i0 i1 : St) (kp : Nat → Int32) (w : va_W) (h : Int32) (what : Int32) : Ct l yX3_host cX3_host 3 (some .int) 5 E [.ref h0, .int h, .int what] (wB E a st (wT E a b0 b1 h0 g0 k0 fo i0 i1 kp w)) (xHost st h what) (wB E a st (wT E a b0 b1 h0 g0 k0 fo i0 i1 kp w)) := by
  refine Ct_mk RX3 rfl (by decide +kernel) (Nat.le_of_ble_eq_true rfl) ?_
  intro p e s m below meth c A ls X hr G hl
  have hl : lv_has ls 3 [(0, .ref h0), (1, .int h), (2, .int what)] := hl
  obtain ⟨hx, hb, hml, hown, hts, hK, hA, hlocks⟩ := id X
  refine lv_iload_n hx hb dX3_host_0 rfl (lv_at hl 1 rfl) ?_
  refine lv_iconst (v := 4) hx hb dX3_host_1 (by decide) ?_
  refine g_callS (As := [.int h, .int 4]) (rest := []) X kX3_24 (c_X3_isBelow l E _ h 4 (by omega)) G ⟨Nat.le_of_ble_eq_true rfl, Nat.le_of_ble_eq_true rfl⟩ ⟨Nat.le_refl _, Nat.le_refl _⟩ rfl hl.1 rfl (Nat.le_of_ble_eq_true rfl) dX3_host_2 (fun H locs G => ?_)
  refine b_ifne (tgt := 10) hx hb dX3_host_5 (by decide) (fun c1 => ?_) (fun c1 => ?_)
  · skip
    obtain ⟨hN, hhN, rfl⟩ := rg_nat (by decide) c1
    have ehN : cl (nI hN) = hN := cl_nI (by omega)
    refine lv_iload_n hx hb dX3_host_10 rfl (lv_at hl 2 rfl) ?_
    refine lv_iconst (v := 4) hx hb dX3_host_11 (by decide) ?_
    refine g_callS (As := [.int what, .int 4]) (rest := []) X kX3_24 (c_X3_isBelow l E _ what 4 (by omega)) G ⟨Nat.le_of_ble_eq_true rfl, Nat.le_of_ble_eq_true rfl⟩ ⟨Nat.le_refl _, Nat.le_refl _⟩ rfl hl.1 rfl (Nat.le_of_ble_eq_true rfl) dX3_host_12 (fun H locs G => ?_)
    refine b_ifne (tgt := 21) hx hb dX3_host_15 (by decide) (fun c2 => ?_) (fun c2 => ?_)
    · skip
      obtain ⟨whatN, hwhatN, rfl⟩ := rg_nat (by decide) c2
      have ewhatN : cl (nI whatN) = whatN := cl_nI (by omega)
      refine lv_aload_n hx hb dX3_host_21 rfl (lv_at hl 0 rfl) ?_
      refine g_get X G fX3_10 14 rfl rfl dX3_host_22 ?_
      refine lv_iload_n hx hb dX3_host_25 rfl (lv_at hl 1 rfl) ?_
      refine lv_iload_n hx hb dX3_host_26 rfl (lv_at hl 2 rfl) ?_
      refine g_callV (As := [.int (nI hN), .int (nI whatN)]) (rest := []) X kX3_93 (c_X1_tellOfHost l E a st (wT E a b0 b1 h0 g0 k0 fo i0 i1 kp w) (nI hN) (nI whatN)) G 0 rfl rfl ⟨Nat.le_of_ble_eq_true rfl, Nat.le_of_ble_eq_true rfl⟩ ⟨Nat.le_refl _, Nat.le_refl _⟩ rfl hl.1 rfl (Nat.le_of_ble_eq_true rfl) dX3_host_27 (fun H locs G => ?_)
      exact g_iret X hr G rfl (by simp [xHost, c1, ehN, c2, ewhatN]) dX3_host_30
    · skip
      refine lv_bipush (v := (-2)) hx hb dX3_host_18 (by decide) ?_
      exact g_iret X hr G rfl (by simp [xHost, c1, ehN, c2]) dX3_host_20
  · skip
    refine lv_iconst (v := (-1)) hx hb dX3_host_8 (by decide) ?_
    exact g_iret X hr G rfl (by simp [xHost, c1]) dX3_host_9
set_option maxHeartbeats 1000000 in
set_option maxRecDepth 100000 in
theorem c_X3_soon (l : Launch) (E : EE) (a b0 b1 : Nat → Nat) (h0 g0 k0 : Nat) (fo : Nat → Option Nat) (st i0 i1 : St) (kp : Nat → Int32) (w : va_W) : Ct l yX3_soon cX3_soon 1 (some .int) 3 E [.ref h0] (wB E a st (wT E a b0 b1 h0 g0 k0 fo i0 i1 kp w)) (ltF st 16 0 (-6)) (wB E a st (wT E a b0 b1 h0 g0 k0 fo i0 i1 kp w)) := by
  refine Ct_mk RX3 rfl (by decide +kernel) (Nat.le_of_ble_eq_true rfl) ?_
  intro p e s m below meth c A ls X hr G hl
  have hl : lv_has ls 1 [(0, .ref h0)] := hl
  obtain ⟨hx, hb, hml, hown, hts, hK, hA, hlocks⟩ := id X
  refine lv_aload_n hx hb dX3_soon_0 rfl (lv_at hl 0 rfl) ?_
  refine g_get X G fX3_10 14 rfl rfl dX3_soon_1 ?_
  refine g_callV (As := []) (rest := []) X kX3_96 (c_X1_leastTicksLeft l E a st (wT E a b0 b1 h0 g0 k0 fo i0 i1 kp w)) G 0 rfl rfl ⟨Nat.le_of_ble_eq_true rfl, Nat.le_of_ble_eq_true rfl⟩ ⟨Nat.le_refl _, Nat.le_refl _⟩ rfl hl.1 rfl (Nat.le_of_ble_eq_true rfl) dX3_soon_4 (fun H locs G => ?_)
  exact g_iret X hr G rfl rfl dX3_soon_7
set_option maxHeartbeats 1000000 in
set_option maxRecDepth 100000 in
theorem c_X3_ruleAt (l : Launch) (E : EE) (a b0 b1 : Nat → Nat) (h0 g0 k0 : Nat) (fo : Nat → Option Nat) (st i0 i1 : St) (kp : Nat → Int32) (w : va_W) (what : Int32) : Ct l yX3_ruleAt cX3_ruleAt 2 (some .int) 0 E [.ref h0, .int what] (wB E a st (wT E a b0 b1 h0 g0 k0 fo i0 i1 kp w)) (ruleAtC st what) (wB E a st (wT E a b0 b1 h0 g0 k0 fo i0 i1 kp w)) := by
  refine Ct_mk RX3 rfl (by decide +kernel) (Nat.le_of_ble_eq_true rfl) ?_
  intro p e s m below meth c A ls X hr G hl
  have hl : lv_has ls 2 [(0, .ref h0), (1, .int what)] := hl
  obtain ⟨hx, hb, hml, hown, hts, hK, hA, hlocks⟩ := id X
  refine lv_iload_n hx hb dX3_ruleAt_0 rfl (lv_at hl 1 rfl) ?_
  refine lv_bipush (v := 10) hx hb dX3_ruleAt_1 (by decide) ?_
  refine lv_icmp_lt (tgt := 12) hx hb dX3_ruleAt_3 (by decide) (fun c1 => ?_) (fun c1 => ?_)
  · skip
    refine lv_bipush (v := (-2)) hx hb dX3_ruleAt_12 (by decide) ?_
    exact g_iret X hr G rfl (by first | (simp [ruleAtC, frB_1 c1]; done) | (simp [ruleAtC, rat_hi c2]; done) | (simp [ruleAtC, ewhatN, frB_to (a := 10) (b := 15) (k := whatN) (by omega) (by omega) (by decide), show frB (nI whatN) 10 15 = true from frB_to (a := 10) (b := 15) (by omega) (by omega) (by decide)]; done)) dX3_ruleAt_14
  · skip
    refine lv_iload_n hx hb dX3_ruleAt_6 rfl (lv_at hl 1 rfl) ?_
    refine lv_bipush (v := 16) hx hb dX3_ruleAt_7 (by decide) ?_
    refine lv_icmp_lt (tgt := 15) hx hb dX3_ruleAt_9 (by decide) (fun c2 => ?_) (fun c2 => ?_)
    · skip
      obtain ⟨whatN, gwhatN, hwhatN, rfl⟩ := rat_nat c1 c2
      have ewhatN : cl (nI whatN) = whatN := cl_nI (by omega)
      refine lv_aload_n hx hb dX3_ruleAt_15 rfl (lv_at hl 0 rfl) ?_
      refine g_get X G fX3_10 14 rfl rfl dX3_ruleAt_16 ?_
      refine g_get X G fX3_129 0 rfl rfl dX3_ruleAt_19 ?_
      refine lv_iload_n hx hb dX3_ruleAt_22 rfl (lv_at hl 1 rfl) ?_
      refine lv_bipush (v := 10) hx hb dX3_ruleAt_23 (by decide) ?_
      refine n_isub whatN 10 rfl rfl (by omega) hx hb dX3_ruleAt_25 ?_
      refine g_iald (j := whatN - 10) X G 1 rfl rfl (by omega) (by decide) dX3_ruleAt_26 ?_
      exact g_iret X hr G rfl (by first | (simp [ruleAtC, frB_1 c1]; done) | (simp [ruleAtC, rat_hi c2]; done) | (simp [ruleAtC, ewhatN, frB_to (a := 10) (b := 15) (k := whatN) (by omega) (by omega) (by decide), show frB (nI whatN) 10 15 = true from frB_to (a := 10) (b := 15) (by omega) (by omega) (by decide)]; done)) dX3_ruleAt_27
    · skip
      refine lv_bipush (v := (-2)) hx hb dX3_ruleAt_12 (by decide) ?_
      exact g_iret X hr G rfl (by first | (simp [ruleAtC, frB_1 c1]; done) | (simp [ruleAtC, rat_hi c2]; done) | (simp [ruleAtC, ewhatN, frB_to (a := 10) (b := 15) (k := whatN) (by omega) (by omega) (by decide), show frB (nI whatN) 10 15 = true from frB_to (a := 10) (b := 15) (by omega) (by omega) (by decide)]; done)) dX3_ruleAt_14
set_option maxHeartbeats 1000000 in
set_option maxRecDepth 100000 in
theorem c_X3_count (l : Launch) (E : EE) (a b0 b1 : Nat → Nat) (h0 g0 k0 : Nat) (fo : Nat → Option Nat) (st i0 i1 : St) (kp : Nat → Int32) (w : va_W) (what : Int32) : Ct l yX3_count cX3_count 2 (some .int) 5 E [.ref h0, .int what] (wB E a st (wT E a b0 b1 h0 g0 k0 fo i0 i1 kp w)) (xCount st kp what) (wB E a st (wT E a b0 b1 h0 g0 k0 fo i0 i1 kp w)) := by
  refine Ct_mk RX3 rfl (by decide +kernel) (Nat.le_of_ble_eq_true rfl) ?_
  intro p e s m below meth c A ls X hr G hl
  have hl : lv_has ls 2 [(0, .ref h0), (1, .int what)] := hl
  obtain ⟨hx, hb, hml, hown, hts, hK, hA, hlocks⟩ := id X
  refine lv_iload_n hx hb dX3_count_0 rfl (lv_at hl 1 rfl) ?_
  by_cases c1 : what = 0
  · skip
    refine lv_tableIn (off := 39) (tgt := 40) hx hb dX3_count_1 (by rw [c1]; decide) (by rw [c1]; decide) (by rw [c1]; rfl) (by decide) ?_
    refine lv_aload_n hx hb dX3_count_40 rfl (lv_at hl 0 rfl) ?_
    refine g_get X G fX3_10 14 rfl rfl dX3_count_41 ?_
    refine g_get X G fX3_63 0 rfl rfl dX3_count_44 ?_
    refine g_callV (As := []) (rest := []) X kX3_104 (c_X0_countAll l E a st (wT E a b0 b1 h0 g0 k0 fo i0 i1 kp w)) G 2 rfl rfl ⟨Nat.le_of_ble_eq_true rfl, Nat.le_of_ble_eq_true rfl⟩ ⟨Nat.le_refl _, Nat.le_refl _⟩ rfl hl.1 rfl (Nat.le_of_ble_eq_true rfl) dX3_count_47 (fun H locs G => ?_)
    exact g_iret X hr G rfl (by unfold xCount; simp [nI, c1]) dX3_count_50
  by_cases c2 : what = 1
  · skip
    refine lv_tableIn (off := 50) (tgt := 51) hx hb dX3_count_1 (by rw [c2]; decide) (by rw [c2]; decide) (by rw [c2]; rfl) (by decide) ?_
    refine lv_aload_n hx hb dX3_count_51 rfl (lv_at hl 0 rfl) ?_
    refine g_get X G fX3_10 14 rfl rfl dX3_count_52 ?_
    refine g_get X G fX3_107 0 rfl rfl dX3_count_55 ?_
    exact g_iret X hr G rfl (by unfold xCount; simp [nI, c1, c2]) dX3_count_58
  by_cases c3 : what = 2
  · skip
    refine lv_tableIn (off := 58) (tgt := 59) hx hb dX3_count_1 (by rw [c3]; decide) (by rw [c3]; decide) (by rw [c3]; rfl) (by decide) ?_
    refine lv_aload_n hx hb dX3_count_59 rfl (lv_at hl 0 rfl) ?_
    refine g_get X G fX3_10 14 rfl rfl dX3_count_60 ?_
    refine g_get X G fX3_63 0 rfl rfl dX3_count_63 ?_
    refine g_callV (As := []) (rest := []) X kX3_111 (c_X0_countFreeBlocks l E a st (wT E a b0 b1 h0 g0 k0 fo i0 i1 kp w)) G 2 rfl rfl ⟨Nat.le_of_ble_eq_true rfl, Nat.le_of_ble_eq_true rfl⟩ ⟨Nat.le_refl _, Nat.le_refl _⟩ rfl hl.1 rfl (Nat.le_of_ble_eq_true rfl) dX3_count_66 (fun H locs G => ?_)
    exact g_iret X hr G rfl (by unfold xCount; simp [nI, c1, c2, c3]) dX3_count_69
  by_cases c4 : what = 3
  · skip
    refine lv_tableIn (off := 69) (tgt := 70) hx hb dX3_count_1 (by rw [c4]; decide) (by rw [c4]; decide) (by rw [c4]; rfl) (by decide) ?_
    refine lv_aload_n hx hb dX3_count_70 rfl (lv_at hl 0 rfl) ?_
    refine g_get X G fX3_10 14 rfl rfl dX3_count_71 ?_
    refine g_get X G fX3_114 0 rfl rfl dX3_count_74 ?_
    refine g_callV (As := []) (rest := []) X kX3_118 (c_X2_countHeld l E a st (wT E a b0 b1 h0 g0 k0 fo i0 i1 kp w)) G 3 rfl rfl ⟨Nat.le_of_ble_eq_true rfl, Nat.le_of_ble_eq_true rfl⟩ ⟨Nat.le_refl _, Nat.le_refl _⟩ rfl hl.1 rfl (Nat.le_of_ble_eq_true rfl) dX3_count_77 (fun H locs G => ?_)
    exact g_iret X hr G rfl (by unfold xCount; simp [nI, c1, c2, c3, c4]) dX3_count_80
  by_cases c5 : what = 4
  · skip
    refine lv_tableIn (off := 80) (tgt := 81) hx hb dX3_count_1 (by rw [c5]; decide) (by rw [c5]; decide) (by rw [c5]; rfl) (by decide) ?_
    refine lv_aload_n hx hb dX3_count_81 rfl (lv_at hl 0 rfl) ?_
    refine g_get X G fX3_10 14 rfl rfl dX3_count_82 ?_
    refine g_get X G fX3_114 0 rfl rfl dX3_count_85 ?_
    refine g_callV (As := []) (rest := []) X kX3_123 (c_X2_countKnown l E a st (wT E a b0 b1 h0 g0 k0 fo i0 i1 kp w)) G 3 rfl rfl ⟨Nat.le_of_ble_eq_true rfl, Nat.le_of_ble_eq_true rfl⟩ ⟨Nat.le_refl _, Nat.le_refl _⟩ rfl hl.1 rfl (Nat.le_of_ble_eq_true rfl) dX3_count_88 (fun H locs G => ?_)
    exact g_iret X hr G rfl (by unfold xCount; simp [nI, c1, c2, c3, c4, c5]) dX3_count_91
  by_cases c6 : what = 5
  · skip
    refine lv_tableIn (off := 91) (tgt := 92) hx hb dX3_count_1 (by rw [c6]; decide) (by rw [c6]; decide) (by rw [c6]; rfl) (by decide) ?_
    refine lv_aload_n hx hb dX3_count_92 rfl (lv_at hl 0 rfl) ?_
    refine g_get X G fX3_20 14 rfl rfl dX3_count_93 ?_
    refine lv_iconst (v := 0) hx hb dX3_count_96 (by decide) ?_
    refine g_zald (j := 0) X G 16 rfl rfl (by omega) (by decide) dX3_count_97 ?_
    refine lv_if_eq (tgt := 105) hx hb dX3_count_98 (by decide) (fun c7 => ?_) (fun c7 => ?_)
    · skip
      refine lv_iconst (v := 0) hx hb dX3_count_105 (by decide) ?_
      refine lv_aload_n hx hb dX3_count_106 rfl (lv_at hl 0 rfl) ?_
      refine g_get X G fX3_20 14 rfl rfl dX3_count_107 ?_
      refine lv_iconst (v := 1) hx hb dX3_count_110 (by decide) ?_
      refine g_zald (j := 1) X G 16 rfl rfl (by omega) (by decide) dX3_count_111 ?_
      refine lv_if_eq (tgt := 119) hx hb dX3_count_112 (by decide) (fun c8 => ?_) (fun c8 => ?_)
      · skip
        refine lv_iconst (v := 0) hx hb dX3_count_119 (by decide) ?_
        refine n_iadd 0 0 rfl rfl hx hb dX3_count_120 ?_
        exact g_iret X hr G rfl (by unfold xCount; simp [nI, c1, c2, c3, c4, c5, c6, c7, c8]) dX3_count_121
      · skip
        refine lv_iconst (v := 2) hx hb dX3_count_115 (by decide) ?_
        refine lv_goto (tgt := 120) hx hb dX3_count_116 (by decide) ?_
        refine n_iadd 0 2 rfl rfl hx hb dX3_count_120 ?_
        exact g_iret X hr G rfl (by unfold xCount; simp [nI, c1, c2, c3, c4, c5, c6, c7, c8]) dX3_count_121
    · skip
      refine lv_iconst (v := 1) hx hb dX3_count_101 (by decide) ?_
      refine lv_goto (tgt := 106) hx hb dX3_count_102 (by decide) ?_
      refine lv_aload_n hx hb dX3_count_106 rfl (lv_at hl 0 rfl) ?_
      refine g_get X G fX3_20 14 rfl rfl dX3_count_107 ?_
      refine lv_iconst (v := 1) hx hb dX3_count_110 (by decide) ?_
      refine g_zald (j := 1) X G 16 rfl rfl (by omega) (by decide) dX3_count_111 ?_
      refine lv_if_eq (tgt := 119) hx hb dX3_count_112 (by decide) (fun c9 => ?_) (fun c9 => ?_)
      · skip
        refine lv_iconst (v := 0) hx hb dX3_count_119 (by decide) ?_
        refine n_iadd 1 0 rfl rfl hx hb dX3_count_120 ?_
        exact g_iret X hr G rfl (by unfold xCount; simp [nI, c1, c2, c3, c4, c5, c6, c7, c9]) dX3_count_121
      · skip
        refine lv_iconst (v := 2) hx hb dX3_count_115 (by decide) ?_
        refine lv_goto (tgt := 120) hx hb dX3_count_116 (by decide) ?_
        refine n_iadd 1 2 rfl rfl hx hb dX3_count_120 ?_
        exact g_iret X hr G rfl (by unfold xCount; simp [nI, c1, c2, c3, c4, c5, c6, c7, c9]) dX3_count_121
  have c10 : what.toInt < 0 ∨ 5 < what.toInt := tb_out5 c1 c2 c3 c4 c5 c6
  refine lv_tableOut (tgt := 122) hx hb dX3_count_1 c10 (by decide) ?_
  refine lv_aload_n hx hb dX3_count_122 rfl (lv_at hl 0 rfl) ?_
  refine lv_iload_n hx hb dX3_count_123 rfl (lv_at hl 1 rfl) ?_
  refine g_callV (As := [.int what]) (rest := []) X kX3_126 (c_X3_ruleAt l E a b0 b1 h0 g0 k0 fo st i0 i1 kp w what) G 14 rfl rfl ⟨Nat.le_of_ble_eq_true rfl, Nat.le_of_ble_eq_true rfl⟩ ⟨Nat.le_refl _, Nat.le_refl _⟩ rfl hl.1 rfl (Nat.le_of_ble_eq_true rfl) dX3_count_124 (fun H locs G => ?_)
  exact g_iret X hr G rfl (by unfold xCount; simp [nI, c1, c2, c3, c4, c5, c6]) dX3_count_127
