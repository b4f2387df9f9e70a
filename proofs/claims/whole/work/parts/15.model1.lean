set_option maxHeartbeats 1000000 in
set_option maxRecDepth 100000 in
theorem c_X4_isFrom (l : Launch) (E : EE) (w : va_W) (v : Int32) (lo : Int32) (hi : Int32) : Ct l yX4_isFrom cX4_isFrom 3 (some .boolean) 0 E [.int v, .int lo, .int hi] (w) (bI (frB v lo hi)) (w) := by
  refine Ct_mk RX4 rfl (by decide +kernel) (Nat.le_of_ble_eq_true rfl) ?_
  intro p e s m below meth c A ls X hr G hl
  have hl : lv_has ls 3 [(0, .int v), (1, .int lo), (2, .int hi)] := hl
  obtain ⟨hx, hb, hml, hown, hts, hK, hA, hlocks⟩ := id X
  refine lv_iload_n hx hb dX4_isFrom_0 rfl (lv_at hl 0 rfl) ?_
  refine lv_iload_n hx hb dX4_isFrom_1 rfl (lv_at hl 1 rfl) ?_
  refine lv_icmp_lt (tgt := 14) hx hb dX4_isFrom_2 (by decide) (fun c1 => ?_) (fun c1 => ?_)
  · skip
    refine lv_iconst (v := 0) hx hb dX4_isFrom_14 (by decide) ?_
    exact g_ret X hr rfl G rfl (by first | (rw [frB_1 c1]; rfl) | (rw [frB_2 c2]; rfl) | (rw [frB_3 c1 c2]; rfl)) dX4_isFrom_15
  · skip
    refine lv_iload_n hx hb dX4_isFrom_5 rfl (lv_at hl 0 rfl) ?_
    refine lv_iload_n hx hb dX4_isFrom_6 rfl (lv_at hl 2 rfl) ?_
    refine lv_icmp_gt (tgt := 14) hx hb dX4_isFrom_7 (by decide) (fun c2 => ?_) (fun c2 => ?_)
    · skip
      refine lv_iconst (v := 0) hx hb dX4_isFrom_14 (by decide) ?_
      exact g_ret X hr rfl G rfl (by first | (rw [frB_1 c1]; rfl) | (rw [frB_2 c2]; rfl) | (rw [frB_3 c1 c2]; rfl)) dX4_isFrom_15
    · skip
      refine lv_iconst (v := 1) hx hb dX4_isFrom_10 (by decide) ?_
      refine lv_goto (tgt := 15) hx hb dX4_isFrom_11 (by decide) ?_
      exact g_ret X hr rfl G rfl (by first | (rw [frB_1 c1]; rfl) | (rw [frB_2 c2]; rfl) | (rw [frB_3 c1 c2]; rfl)) dX4_isFrom_15
set_option maxHeartbeats 1000000 in
set_option maxRecDepth 100000 in
theorem c_X4_isHost (l : Launch) (E : EE) (w : va_W) (h : Int32) : Ct l yX4_isHost cX4_isHost 1 (some .boolean) 1 E [.int h] (w) (bI (rg h 4)) (w) := by
  refine Ct_mk RX4 rfl (by decide +kernel) (Nat.le_of_ble_eq_true rfl) ?_
  intro p e s m below meth c A ls X hr G hl
  have hl : lv_has ls 1 [(0, .int h)] := hl
  obtain ⟨hx, hb, hml, hown, hts, hK, hA, hlocks⟩ := id X
  refine lv_iload_n hx hb dX4_isHost_0 rfl (lv_at hl 0 rfl) ?_
  refine lv_iconst (v := 0) hx hb dX4_isHost_1 (by decide) ?_
  refine lv_iconst (v := 3) hx hb dX4_isHost_2 (by decide) ?_
  refine g_callS (As := [.int h, .int 0, .int 3]) (rest := []) X kX4_20 (c_X4_isFrom l E _ h 0 3) G ⟨Nat.le_of_ble_eq_true rfl, Nat.le_of_ble_eq_true rfl⟩ ⟨Nat.le_refl _, Nat.le_refl _⟩ rfl hl.1 rfl (Nat.le_of_ble_eq_true rfl) dX4_isHost_3 (fun H locs G => ?_)
  exact g_ret X hr (bI_nar _) G rfl (by exact congrArg bI (frB_rg _ (k := 3) (by decide) rfl)) dX4_isHost_6
set_option maxHeartbeats 1000000 in
set_option maxRecDepth 100000 in
theorem c_X4_isPort (l : Launch) (E : EE) (w : va_W) (h : Int32) : Ct l yX4_isPort cX4_isPort 1 (some .boolean) 1 E [.int h] (w) (bI (rg h 32)) (w) := by
  refine Ct_mk RX4 rfl (by decide +kernel) (Nat.le_of_ble_eq_true rfl) ?_
  intro p e s m below meth c A ls X hr G hl
  have hl : lv_has ls 1 [(0, .int h)] := hl
  obtain ⟨hx, hb, hml, hown, hts, hK, hA, hlocks⟩ := id X
  refine lv_iload_n hx hb dX4_isPort_0 rfl (lv_at hl 0 rfl) ?_
  refine lv_iconst (v := 0) hx hb dX4_isPort_1 (by decide) ?_
  refine lv_bipush (v := 31) hx hb dX4_isPort_2 (by decide) ?_
  refine g_callS (As := [.int h, .int 0, .int 31]) (rest := []) X kX4_20 (c_X4_isFrom l E _ h 0 31) G ⟨Nat.le_of_ble_eq_true rfl, Nat.le_of_ble_eq_true rfl⟩ ⟨Nat.le_refl _, Nat.le_refl _⟩ rfl hl.1 rfl (Nat.le_of_ble_eq_true rfl) dX4_isPort_4 (fun H locs G => ?_)
  exact g_ret X hr (bI_nar _) G rfl (by exact congrArg bI (frB_rg _ (k := 31) (by decide) rfl)) dX4_isPort_7
set_option maxHeartbeats 1000000 in
set_option maxRecDepth 100000 in
theorem c_X4_isOuter (l : Launch) (E : EE) (w : va_W) (h : Int32) : Ct l yX4_isOuter cX4_isOuter 1 (some .boolean) 1 E [.int h] (w) (bI (rg h 16)) (w) := by
  refine Ct_mk RX4 rfl (by decide +kernel) (Nat.le_of_ble_eq_true rfl) ?_
  intro p e s m below meth c A ls X hr G hl
  have hl : lv_has ls 1 [(0, .int h)] := hl
  obtain ⟨hx, hb, hml, hown, hts, hK, hA, hlocks⟩ := id X
  refine lv_iload_n hx hb dX4_isOuter_0 rfl (lv_at hl 0 rfl) ?_
  refine lv_iconst (v := 0) hx hb dX4_isOuter_1 (by decide) ?_
  refine lv_bipush (v := 15) hx hb dX4_isOuter_2 (by decide) ?_
  refine g_callS (As := [.int h, .int 0, .int 15]) (rest := []) X kX4_20 (c_X4_isFrom l E _ h 0 15) G ⟨Nat.le_of_ble_eq_true rfl, Nat.le_of_ble_eq_true rfl⟩ ⟨Nat.le_refl _, Nat.le_refl _⟩ rfl hl.1 rfl (Nat.le_of_ble_eq_true rfl) dX4_isOuter_4 (fun H locs G => ?_)
  exact g_ret X hr (bI_nar _) G rfl (by exact congrArg bI (frB_rg _ (k := 15) (by decide) rfl)) dX4_isOuter_7
set_option maxHeartbeats 1000000 in
set_option maxRecDepth 100000 in
theorem c_X4_isFlag (l : Launch) (E : EE) (w : va_W) (h : Int32) : Ct l yX4_isFlag cX4_isFlag 1 (some .boolean) 1 E [.int h] (w) (bI (rg h 3)) (w) := by
  refine Ct_mk RX4 rfl (by decide +kernel) (Nat.le_of_ble_eq_true rfl) ?_
  intro p e s m below meth c A ls X hr G hl
  have hl : lv_has ls 1 [(0, .int h)] := hl
  obtain ⟨hx, hb, hml, hown, hts, hK, hA, hlocks⟩ := id X
  refine lv_iload_n hx hb dX4_isFlag_0 rfl (lv_at hl 0 rfl) ?_
  refine lv_iconst (v := 0) hx hb dX4_isFlag_1 (by decide) ?_
  refine lv_iconst (v := 2) hx hb dX4_isFlag_2 (by decide) ?_
  refine g_callS (As := [.int h, .int 0, .int 2]) (rest := []) X kX4_20 (c_X4_isFrom l E _ h 0 2) G ⟨Nat.le_of_ble_eq_true rfl, Nat.le_of_ble_eq_true rfl⟩ ⟨Nat.le_refl _, Nat.le_refl _⟩ rfl hl.1 rfl (Nat.le_of_ble_eq_true rfl) dX4_isFlag_3 (fun H locs G => ?_)
  exact g_ret X hr (bI_nar _) G rfl (by exact congrArg bI (frB_rg _ (k := 2) (by decide) rfl)) dX4_isFlag_6
set_option maxHeartbeats 1000000 in
set_option maxRecDepth 100000 in
theorem c_X4_isRemote (l : Launch) (E : EE) (w : va_W) (r : Int32) (rp : Int32) : Ct l yX4_isRemote cX4_isRemote 2 (some .boolean) 1 E [.int r, .int rp] (w) (bI (rgR r rp)) (w) := by
  refine Ct_mk RX4 rfl (by decide +kernel) (Nat.le_of_ble_eq_true rfl) ?_
  intro p e s m below meth c A ls X hr G hl
  have hl : lv_has ls 2 [(0, .int r), (1, .int rp)] := hl
  obtain ⟨hx, hb, hml, hown, hts, hK, hA, hlocks⟩ := id X
  refine lv_iload_n hx hb dX4_isRemote_0 rfl (lv_at hl 0 rfl) ?_
  refine lv_iconst (v := 0) hx hb dX4_isRemote_1 (by decide) ?_
  refine lv_iconst (v := 4) hx hb dX4_isRemote_2 (by decide) ?_
  refine g_callS (As := [.int r, .int 0, .int 4]) (rest := []) X kX4_20 (c_X4_isFrom l E _ r 0 4) G ⟨Nat.le_of_ble_eq_true rfl, Nat.le_of_ble_eq_true rfl⟩ ⟨Nat.le_refl _, Nat.le_refl _⟩ rfl hl.1 rfl (Nat.le_of_ble_eq_true rfl) dX4_isRemote_3 (fun H locs G => ?_)
  refine b_ifeq (tgt := 33) hx hb dX4_isRemote_6 (by decide) (fun c1 => ?_) (fun c1 => ?_)
  · skip
    refine lv_iconst (v := 0) hx hb dX4_isRemote_33 (by decide) ?_
    exact g_ret X hr rfl G rfl (by rw [rgR_fr, c1]; simp [bI]) dX4_isRemote_34
  · skip
    refine lv_iload_n hx hb dX4_isRemote_9 rfl (lv_at hl 1 rfl) ?_
    refine lv_iconst (v := 0) hx hb dX4_isRemote_10 (by decide) ?_
    refine lv_iload_n hx hb dX4_isRemote_11 rfl (lv_at hl 0 rfl) ?_
    refine lv_iconst (v := 4) hx hb dX4_isRemote_12 (by decide) ?_
    refine lv_icmp_ne (tgt := 21) hx hb dX4_isRemote_13 (by decide) (fun c2 => ?_) (fun c2 => ?_)
    · skip
      refine lv_bipush (v := 31) hx hb dX4_isRemote_21 (by decide) ?_
      refine g_callS (As := [.int rp, .int 0, .int 31]) (rest := []) X kX4_20 (c_X4_isFrom l E _ rp 0 31) G ⟨Nat.le_of_ble_eq_true rfl, Nat.le_of_ble_eq_true rfl⟩ ⟨Nat.le_refl _, Nat.le_refl _⟩ rfl hl.1 rfl (Nat.le_of_ble_eq_true rfl) dX4_isRemote_23 (fun H locs G => ?_)
      refine b_ifeq (tgt := 33) hx hb dX4_isRemote_26 (by decide) (fun c3 => ?_) (fun c3 => ?_)
      · skip
        refine lv_iconst (v := 0) hx hb dX4_isRemote_33 (by decide) ?_
        exact g_ret X hr rfl G rfl (by rw [rgR_fr, c1]; simp [bI, c2, c3]) dX4_isRemote_34
      · skip
        refine lv_iconst (v := 1) hx hb dX4_isRemote_29 (by decide) ?_
        refine lv_goto (tgt := 34) hx hb dX4_isRemote_30 (by decide) ?_
        exact g_ret X hr rfl G rfl (by rw [rgR_fr, c1]; simp [bI, c2, c3]) dX4_isRemote_34
    · skip
      refine lv_bipush (v := 15) hx hb dX4_isRemote_16 (by decide) ?_
      refine lv_goto (tgt := 23) hx hb dX4_isRemote_18 (by decide) ?_
      refine g_callS (As := [.int rp, .int 0, .int 15]) (rest := []) X kX4_20 (c_X4_isFrom l E _ rp 0 15) G ⟨Nat.le_of_ble_eq_true rfl, Nat.le_of_ble_eq_true rfl⟩ ⟨Nat.le_refl _, Nat.le_refl _⟩ rfl hl.1 rfl (Nat.le_of_ble_eq_true rfl) dX4_isRemote_23 (fun H locs G => ?_)
      refine b_ifeq (tgt := 33) hx hb dX4_isRemote_26 (by decide) (fun c4 => ?_) (fun c4 => ?_)
      · skip
        refine lv_iconst (v := 0) hx hb dX4_isRemote_33 (by decide) ?_
        exact g_ret X hr rfl G rfl (by rw [rgR_fr, c1]; simp [bI, c2, c4]) dX4_isRemote_34
      · skip
        refine lv_iconst (v := 1) hx hb dX4_isRemote_29 (by decide) ?_
        refine lv_goto (tgt := 34) hx hb dX4_isRemote_30 (by decide) ?_
        exact g_ret X hr rfl G rfl (by rw [rgR_fr, c1]; simp [bI, c2, c4]) dX4_isRemote_34
set_option maxHeartbeats 1000000 in
set_option maxRecDepth 100000 in
theorem c_X4_isLent (l : Launch) (E : EE) (a : Nat → Nat) (st : St) (w : va_W) (o : Nat) (ho : o < 16) : Ct l yX4_isLent cX4_isLent 2 (some .boolean) 0 E [.ref (a 0), .int (nI o)] (wM E a st w) (bI (mLent st o)) (wM E a st w) := by
  refine Ct_mk RX4 rfl (by decide +kernel) (Nat.le_of_ble_eq_true rfl) ?_
  intro p e s m below meth c A ls X hr G hl
  have hl : lv_has ls 2 [(0, .ref (a 0)), (1, .int (nI o))] := hl
  obtain ⟨hx, hb, hml, hown, hts, hK, hA, hlocks⟩ := id X
  refine lv_aload_n hx hb dX4_isLent_0 rfl (lv_at hl 0 rfl) ?_
  refine g_get X G fX4_7 0 rfl rfl dX4_isLent_1 ?_
  refine lv_bipush (v := 7) hx hb dX4_isLent_4 (by decide) ?_
  refine lv_iload_n hx hb dX4_isLent_6 rfl (lv_at hl 1 rfl) ?_
  refine n_iadd 7 o rfl rfl hx hb dX4_isLent_7 ?_
  refine g_iald (j := 7 + o) X G 1 rfl rfl (by omega) (by decide) dX4_isLent_8 ?_
  refine lv_if_lt (tgt := 16) hx hb dX4_isLent_9 (by decide) (fun c1 => ?_) (fun c1 => ?_)
  · skip
    refine lv_iconst (v := 0) hx hb dX4_isLent_16 (by decide) ?_
    exact g_ret X hr rfl G rfl (by simp [mLent, bI, c1]) dX4_isLent_17
  · skip
    refine lv_iconst (v := 1) hx hb dX4_isLent_12 (by decide) ?_
    refine lv_goto (tgt := 17) hx hb dX4_isLent_13 (by decide) ?_
    exact g_ret X hr rfl G rfl (by simp [mLent, bI, c1]) dX4_isLent_17
set_option maxHeartbeats 1000000 in
set_option maxRecDepth 100000 in
theorem c_X4_end (l : Launch) (E : EE) (a : Nat → Nat) (st : St) (w : va_W) (o : Nat) (ho : o < 16) : Cv l yX4_end cX4_end 3 0 E [.ref (a 0), .int (nI o)] (wM E a st w) (wM E a (mEnd o st) w) := by
  refine Cv_mk RX4 rfl (by decide +kernel) (Nat.le_of_ble_eq_true rfl) ?_
  intro p e s m below meth c A ls X hr G hl
  have hl : lv_has ls 3 [(0, .ref (a 0)), (1, .int (nI o))] := hl
  obtain ⟨hx, hb, hml, hown, hts, hK, hA, hlocks⟩ := id X
  refine lv_aload_n hx hb dX4_end_0 rfl (lv_at hl 0 rfl) ?_
  refine g_get X G fX4_7 0 rfl rfl dX4_end_1 ?_
  refine lv_bipush (v := 7) hx hb dX4_end_4 (by decide) ?_
  refine lv_iload_n hx hb dX4_end_6 rfl (lv_at hl 1 rfl) ?_
  refine n_iadd 7 o rfl rfl hx hb dX4_end_7 ?_
  refine lv_bipush (v := (-6)) hx hb dX4_end_8 (by decide) ?_
  refine g_iast (j := 7 + o) X G 1 rfl rfl (by omega) (by decide) dX4_end_10 (fun H locs G => ?_)
  have G : Gw E A s (wM E a (sU st 0 (7 + o) (-6)) w) H locs := G
  refine lv_iconst (v := 0) hx hb dX4_end_11 (by decide) ?_
  refine lv_istore_n (lv' := [(2, .int 0), (0, .ref (a 0)), (1, .int (nI o))]) hx hb dX4_end_12 rfl hl (by decide) rfl (fun ls hl => ?_)
  have LP13 : ∀ (n i : Nat) (sx : St) (H : Heap) (locs : List Loc) (ls : Array Slot), (i + n = 32) → (iF (mEndK (nI o)) n i sx = mEnd o st) → Gw E A s (wM E a sx w) H locs → lv_has ls 3 [(0, .ref (a 0)), (1, .int (nI o)), (2, .int (nI i))] → W p l e (rmD 0) s m ([.ref (a 0), .int (nI o)] : List Value).toArray below meth c H locs 0 0 (MQ below (CvQ E A (wM E a (mEnd o st) w)) ([.ref (a 0), .int (nI o)] : List Value).toArray s 0 0 A) (F0 m 13 ls []) := by
    intro n
    induction n with
    | zero =>
      intro i sx H locs ls hi hR G hl
      refine lv_iload_n hx hb dX4_end_13 rfl (lv_at hl 2 rfl) ?_
      refine lv_bipush (v := 32) hx hb dX4_end_14 (by decide) ?_
      refine n_cmp_ge (tgt := 70) i 32 rfl rfl (by omega) (by omega) hx hb dX4_end_16 (by decide) (fun c1 => ?_) (fun c1 => ?_)
      · skip
        exact g_vret X hr G (congrArg (fun z => wM E a z w) (by rw [← hR]; rfl)) dX4_end_70
      · skip
        exact absurd c1 (by omega)
    | succ n ih13 =>
      intro i sx H locs ls hi hR G hl
      refine lv_iload_n hx hb dX4_end_13 rfl (lv_at hl 2 rfl) ?_
      refine lv_bipush (v := 32) hx hb dX4_end_14 (by decide) ?_
      refine n_cmp_ge (tgt := 70) i 32 rfl rfl (by omega) (by omega) hx hb dX4_end_16 (by decide) (fun c2 => ?_) (fun c2 => ?_)
      · skip
        exact absurd c2 (by omega)
      · skip
        refine lv_aload_n hx hb dX4_end_19 rfl (lv_at hl 0 rfl) ?_
        refine g_get X G fX4_7 0 rfl rfl dX4_end_20 ?_
        refine lv_sipush (v := 183) hx hb dX4_end_23 (by decide) ?_
        refine lv_iload_n hx hb dX4_end_26 rfl (lv_at hl 2 rfl) ?_
        refine n_iadd 183 i rfl rfl hx hb dX4_end_27 ?_
        refine g_iald (j := 183 + i) X G 1 rfl rfl (by omega) (by decide) dX4_end_28 ?_
        refine lv_aload_n hx hb dX4_end_29 rfl (lv_at hl 0 rfl) ?_
        refine g_get X G fX4_7 0 rfl rfl dX4_end_30 ?_
        refine lv_bipush (v := 6) hx hb dX4_end_33 (by decide) ?_
        refine g_iald (j := 6) X G 1 rfl rfl (by omega) (by decide) dX4_end_35 ?_
        refine lv_icmp_le (tgt := 64) hx hb dX4_end_36 (by decide) (fun c3 => ?_) (fun c3 => ?_)
        · skip
          refine lv_iinc (v := nI (i + 1)) (lv' := [(2, .int (nI (i + 1))), (0, .ref (a 0)), (1, .int (nI o))]) hx hb dX4_end_64 hl (k := 2) rfl (nI_inc _) (by decide) rfl (fun ls hl => ?_)
          refine lv_goto (tgt := 13) hx hb dX4_end_67 (by decide) ?_
          exact ih13 (i + 1) sx _ _ ls (by omega) (by rw [← hR]; simp [iF, mEndK, c2, c3]) G (lv_sub hl [1, 2, 0] rfl)
        · skip
          refine lv_aload_n hx hb dX4_end_39 rfl (lv_at hl 0 rfl) ?_
          refine g_get X G fX4_7 0 rfl rfl dX4_end_40 ?_
          refine lv_sipush (v := 215) hx hb dX4_end_43 (by decide) ?_
          refine lv_iload_n hx hb dX4_end_46 rfl (lv_at hl 2 rfl) ?_
          refine n_iadd 215 i rfl rfl hx hb dX4_end_47 ?_
          refine g_iald (j := 215 + i) X G 1 rfl rfl (by omega) (by decide) dX4_end_48 ?_
          refine lv_iload_n hx hb dX4_end_49 rfl (lv_at hl 1 rfl) ?_
          refine lv_icmp_ne (tgt := 64) hx hb dX4_end_50 (by decide) (fun c4 => ?_) (fun c4 => ?_)
          · skip
            refine lv_iinc (v := nI (i + 1)) (lv' := [(2, .int (nI (i + 1))), (0, .ref (a 0)), (1, .int (nI o))]) hx hb dX4_end_64 hl (k := 2) rfl (nI_inc _) (by decide) rfl (fun ls hl => ?_)
            refine lv_goto (tgt := 13) hx hb dX4_end_67 (by decide) ?_
            exact ih13 (i + 1) sx _ _ ls (by omega) (by rw [← hR]; simp [iF, mEndK, c2, c3, c4]) G (lv_sub hl [1, 2, 0] rfl)
          · skip
            refine lv_aload_n hx hb dX4_end_53 rfl (lv_at hl 0 rfl) ?_
            refine g_get X G fX4_7 0 rfl rfl dX4_end_54 ?_
            refine lv_sipush (v := 183) hx hb dX4_end_57 (by decide) ?_
            refine lv_iload_n hx hb dX4_end_60 rfl (lv_at hl 2 rfl) ?_
            refine n_iadd 183 i rfl rfl hx hb dX4_end_61 ?_
            refine lv_iconst (v := 0) hx hb dX4_end_62 (by decide) ?_
            refine g_iast (j := 183 + i) X G 1 rfl rfl (by omega) (by decide) dX4_end_63 (fun H locs G => ?_)
            have G : Gw E A s (wM E a (sU sx 0 (183 + i) 0) w) H locs := G
            refine lv_iinc (v := nI (i + 1)) (lv' := [(2, .int (nI (i + 1))), (0, .ref (a 0)), (1, .int (nI o))]) hx hb dX4_end_64 hl (k := 2) rfl (nI_inc _) (by decide) rfl (fun ls hl => ?_)
            refine lv_goto (tgt := 13) hx hb dX4_end_67 (by decide) ?_
            exact ih13 (i + 1) (sU sx 0 (183 + i) 0) _ _ ls (by omega) (by rw [← hR]; simp [iF, mEndK, c2, c3, c4]) G (lv_sub hl [1, 2, 0] rfl)
  exact LP13 32 0 (sU st 0 (7 + o) (-6)) _ _ ls (by omega) rfl G (lv_sub hl [1, 2, 0] rfl)
set_option maxHeartbeats 1000000 in
set_option maxRecDepth 100000 in
theorem c_X4_endOf (l : Launch) (E : EE) (a : Nat → Nat) (st : St) (w : va_W) (o : Nat) (ho : o < 16) (hI : isOk st) : Ct l yX4_endOf cX4_endOf 2 (some .int) 0 E [.ref (a 0), .int (nI o)] (wM E a st w) (endOfM st o) (wM E a st w) := by
  refine Ct_mk RX4 rfl (by decide +kernel) (Nat.le_of_ble_eq_true rfl) ?_
  intro p e s m below meth c A ls X hr G hl
  have hl : lv_has ls 2 [(0, .ref (a 0)), (1, .int (nI o))] := hl
  obtain ⟨hx, hb, hml, hown, hts, hK, hA, hlocks⟩ := id X
  refine lv_aload_n hx hb dX4_endOf_0 rfl (lv_at hl 0 rfl) ?_
  refine g_get X G fX4_7 0 rfl rfl dX4_endOf_1 ?_
  refine lv_bipush (v := 87) hx hb dX4_endOf_4 (by decide) ?_
  refine lv_iload_n hx hb dX4_endOf_6 rfl (lv_at hl 1 rfl) ?_
  refine n_iadd 87 o rfl rfl hx hb dX4_endOf_7 ?_
  refine g_iald (j := 87 + o) X G 1 rfl rfl (by omega) (by decide) dX4_endOf_8 ?_
  refine lv_aload_n hx hb dX4_endOf_9 rfl (lv_at hl 0 rfl) ?_
  refine g_get X G fX4_7 0 rfl rfl dX4_endOf_10 ?_
  refine lv_iconst (v := 3) hx hb dX4_endOf_13 (by decide) ?_
  refine lv_aload_n hx hb dX4_endOf_14 rfl (lv_at hl 0 rfl) ?_
  refine g_get X G fX4_7 0 rfl rfl dX4_endOf_15 ?_
  refine lv_bipush (v := 71) hx hb dX4_endOf_18 (by decide) ?_
  refine lv_iload_n hx hb dX4_endOf_20 rfl (lv_at hl 1 rfl) ?_
  refine n_iadd 71 o rfl rfl hx hb dX4_endOf_21 ?_
  refine g_iald (j := 71 + o) X G 1 rfl rfl (by omega) (by decide) dX4_endOf_22 ?_
  obtain ⟨z, hz, ez⟩ := hI o ho
  rw [ez]
  refine n_iadd 3 z rfl rfl hx hb dX4_endOf_23 ?_
  refine g_iald (j := 3 + z) X G 1 rfl rfl (by omega) (by decide) dX4_endOf_24 ?_
  refine lv_iadd hx hb dX4_endOf_25 ?_
  exact g_iret X hr G rfl (by unfold endOfM; rw [ez, cl_nI (by omega)]) dX4_endOf_26
set_option maxHeartbeats 1000000 in
set_option maxRecDepth 100000 in
theorem c_X4_lapse (l : Launch) (E : EE) (a : Nat → Nat) (st : St) (w : va_W) (hI : isOk st) : Ct l yX4_lapse cX4_lapse 3 (some .int) 1 E [.ref (a 0)] (wM E a st w) (nI ((lapseC st).2)) (wM E a ((lapseC st).1) w) := by
  refine Ct_mk RX4 rfl (by decide +kernel) (Nat.le_of_ble_eq_true rfl) ?_
  intro p e s m below meth c A ls X hr G hl
  have hl : lv_has ls 3 [(0, .ref (a 0))] := hl
  obtain ⟨hx, hb, hml, hown, hts, hK, hA, hlocks⟩ := id X
  refine lv_iconst (v := 0) hx hb dX4_lapse_0 (by decide) ?_
  refine lv_istore_n (lv' := [(1, .int 0), (0, .ref (a 0))]) hx hb dX4_lapse_1 rfl hl (by decide) rfl (fun ls hl => ?_)
  refine lv_iconst (v := 0) hx hb dX4_lapse_2 (by decide) ?_
  refine lv_istore_n (lv' := [(2, .int 0), (1, .int 0), (0, .ref (a 0))]) hx hb dX4_lapse_3 rfl hl (by decide) rfl (fun ls hl => ?_)
  have LP4 : ∀ (n i : Nat) (sx : St) (z : Nat) (H : Heap) (locs : List Loc) (ls : Array Slot), (i + n = 16) → (isOk sx) → (iF mLap n i (sx, z) = lapseC st) → Gw E A s (wM E a sx w) H locs → lv_has ls 3 [(0, .ref (a 0)), (1, .int (nI z)), (2, .int (nI i))] → W p l e (rmD 1) s m ([.ref (a 0)] : List Value).toArray below meth c H locs 0 0 (MQ below (CtQ E A (nI ((lapseC st).2)) (wM E a ((lapseC st).1) w)) ([.ref (a 0)] : List Value).toArray s 0 0 A) (F0 m 4 ls []) := by
    intro n
    induction n with
    | zero =>
      intro i sx z H locs ls hi hJ hR G hl
      refine lv_iload_n hx hb dX4_lapse_4 rfl (lv_at hl 2 rfl) ?_
      refine lv_bipush (v := 16) hx hb dX4_lapse_5 (by decide) ?_
      refine n_cmp_ge (tgt := 47) i 16 rfl rfl (by omega) (by omega) hx hb dX4_lapse_7 (by decide) (fun c1 => ?_) (fun c1 => ?_)
      · skip
        refine lv_iload_n hx hb dX4_lapse_47 rfl (lv_at hl 1 rfl) ?_
        exact g_iret X hr G (congrArg (fun z => wM E a z w) (by rw [← hR]; rfl)) (by rw [← hR]; rfl) dX4_lapse_48
      · skip
        exact absurd c1 (by omega)
    | succ n ih4 =>
      intro i sx z H locs ls hi hJ hR G hl
      refine lv_iload_n hx hb dX4_lapse_4 rfl (lv_at hl 2 rfl) ?_
      refine lv_bipush (v := 16) hx hb dX4_lapse_5 (by decide) ?_
      refine n_cmp_ge (tgt := 47) i 16 rfl rfl (by omega) (by omega) hx hb dX4_lapse_7 (by decide) (fun c2 => ?_) (fun c2 => ?_)
      · skip
        exact absurd c2 (by omega)
      · skip
        refine lv_aload_n hx hb dX4_lapse_10 rfl (lv_at hl 0 rfl) ?_
        refine lv_iload_n hx hb dX4_lapse_11 rfl (lv_at hl 2 rfl) ?_
        refine g_callV (As := [.int (nI i)]) (rest := []) X kX4_24 (c_X4_isLent l E a sx w i (by omega)) G 0 rfl rfl ⟨Nat.le_of_ble_eq_true rfl, Nat.le_of_ble_eq_true rfl⟩ ⟨Nat.le_refl _, Nat.le_refl _⟩ rfl hl.1 rfl (Nat.le_of_ble_eq_true rfl) dX4_lapse_12 (fun H locs G => ?_)
        refine b_ifeq (tgt := 41) hx hb dX4_lapse_15 (by decide) (fun c3 => ?_) (fun c3 => ?_)
        · skip
          refine lv_iinc (v := nI (i + 1)) (lv' := [(2, .int (nI (i + 1))), (0, .ref (a 0)), (1, .int (nI z))]) hx hb dX4_lapse_41 hl (k := 2) rfl (nI_inc _) (by decide) rfl (fun ls hl => ?_)
          refine lv_goto (tgt := 4) hx hb dX4_lapse_44 (by decide) ?_
          exact ih4 (i + 1) sx z _ _ ls (by omega) (by first | with_reducible exact hJ | with_reducible exact isOk_mEnd (by omega) hJ) (by rw [← hR]; simp [iF, mLap, c2, c3]) G (lv_sub hl [1, 2, 0] rfl)
        · skip
          refine lv_aload_n hx hb dX4_lapse_18 rfl (lv_at hl 0 rfl) ?_
          refine g_get X G fX4_7 0 rfl rfl dX4_lapse_19 ?_
          refine lv_bipush (v := 6) hx hb dX4_lapse_22 (by decide) ?_
          refine g_iald (j := 6) X G 1 rfl rfl (by omega) (by decide) dX4_lapse_24 ?_
          refine lv_aload_n hx hb dX4_lapse_25 rfl (lv_at hl 0 rfl) ?_
          refine lv_iload_n hx hb dX4_lapse_26 rfl (lv_at hl 2 rfl) ?_
          refine g_callV (As := [.int (nI i)]) (rest := [.int (sx 0 6)]) X kX4_28 (c_X4_endOf l E a sx w i (by omega) hJ) G 0 rfl rfl ⟨Nat.le_of_ble_eq_true rfl, Nat.le_of_ble_eq_true rfl⟩ ⟨Nat.le_refl _, Nat.le_refl _⟩ rfl hl.1 rfl (Nat.le_of_ble_eq_true rfl) dX4_lapse_27 (fun H locs G => ?_)
          refine lv_icmp_lt (tgt := 41) hx hb dX4_lapse_30 (by decide) (fun c4 => ?_) (fun c4 => ?_)
          · skip
            refine lv_iinc (v := nI (i + 1)) (lv' := [(2, .int (nI (i + 1))), (0, .ref (a 0)), (1, .int (nI z))]) hx hb dX4_lapse_41 hl (k := 2) rfl (nI_inc _) (by decide) rfl (fun ls hl => ?_)
            refine lv_goto (tgt := 4) hx hb dX4_lapse_44 (by decide) ?_
            exact ih4 (i + 1) sx z _ _ ls (by omega) (by first | with_reducible exact hJ | with_reducible exact isOk_mEnd (by omega) hJ) (by rw [← hR]; simp [iF, mLap, c2, c3, c4]) G (lv_sub hl [1, 2, 0] rfl)
          · skip
            refine lv_aload_n hx hb dX4_lapse_33 rfl (lv_at hl 0 rfl) ?_
            refine lv_iload_n hx hb dX4_lapse_34 rfl (lv_at hl 2 rfl) ?_
            refine g_callVv (As := [.int (nI i)]) (rest := []) X kX4_32 (c_X4_end l E a sx w i (by omega)) G 0 rfl rfl ⟨Nat.le_of_ble_eq_true rfl, Nat.le_of_ble_eq_true rfl⟩ ⟨Nat.le_refl _, Nat.le_refl _⟩ rfl hl.1 rfl (Nat.le_of_ble_eq_true rfl) dX4_lapse_35 (fun H locs G => ?_)
            obtain ⟨sv5, esv5⟩ : ∃ z, z = mEnd i sx := ⟨_, rfl⟩
            rw [← esv5] at G
            refine lv_iinc (v := nI (z + 1)) (lv' := [(1, .int (nI (z + 1))), (0, .ref (a 0)), (2, .int (nI i))]) hx hb dX4_lapse_38 hl (k := 1) rfl (nI_inc _) (by decide) rfl (fun ls hl => ?_)
            refine lv_iinc (v := nI (i + 1)) (lv' := [(2, .int (nI (i + 1))), (1, .int (nI (z + 1))), (0, .ref (a 0))]) hx hb dX4_lapse_41 hl (k := 2) rfl (nI_inc _) (by decide) rfl (fun ls hl => ?_)
            refine lv_goto (tgt := 4) hx hb dX4_lapse_44 (by decide) ?_
            exact ih4 (i + 1) sv5 (z + 1) _ _ ls (by omega) (by (try rw [esv5]); first | with_reducible exact hJ | with_reducible exact isOk_mEnd (by omega) hJ) (by (try rw [esv5]); rw [← hR]; simp [iF, mLap, c2, c3, c4]) G (lv_sub hl [2, 1, 0] rfl)
  exact LP4 16 0 st 0 _ _ ls (by omega) hI rfl G (lv_sub hl [2, 1, 0] rfl)
set_option maxHeartbeats 1000000 in
set_option maxRecDepth 100000 in
theorem c_X4_least (l : Launch) (E : EE) (w : va_W) (k : Nat) (hk : k < 2 ^ 31) : Ct l yX4_least cX4_least 1 (some .int) 0 E [.int (nI k)] (w) (nI (leastN k)) (w) := by
  refine Ct_mk RX4 rfl (by decide +kernel) (Nat.le_of_ble_eq_true rfl) ?_
  intro p e s m below meth c A ls X hr G hl
  have hl : lv_has ls 1 [(0, .int (nI k))] := hl
  obtain ⟨hx, hb, hml, hown, hts, hK, hA, hlocks⟩ := id X
  refine lv_iload_n hx hb dX4_least_0 rfl (lv_at hl 0 rfl) ?_
  refine lv_iconst (v := 3) hx hb dX4_least_1 (by decide) ?_
  refine n_cmp_ge (tgt := 9) k 3 rfl rfl (by omega) (by omega) hx hb dX4_least_2 (by decide) (fun c1 => ?_) (fun c1 => ?_)
  · skip
    refine lv_iconst (v := 1) hx hb dX4_least_9 (by decide) ?_
    exact g_iret X hr G rfl (by first | (rw [leastN_a c1]; rfl) | (rw [leastN_b c1]; rfl)) dX4_least_10
  · skip
    refine lv_iconst (v := 0) hx hb dX4_least_5 (by decide) ?_
    refine lv_goto (tgt := 10) hx hb dX4_least_6 (by decide) ?_
    exact g_iret X hr G rfl (by first | (rw [leastN_a c1]; rfl) | (rw [leastN_b c1]; rfl)) dX4_least_10
set_option maxHeartbeats 1000000 in
set_option maxRecDepth 100000 in
theorem c_X4_most (l : Launch) (E : EE) (w : va_W) (k : Nat) (hk : k < 2 ^ 31) : Ct l yX4_most cX4_most 1 (some .int) 0 E [.int (nI k)] (w) (nI (mostN k)) (w) := by
  refine Ct_mk RX4 rfl (by decide +kernel) (Nat.le_of_ble_eq_true rfl) ?_
  intro p e s m below meth c A ls X hr G hl
  have hl : lv_has ls 1 [(0, .int (nI k))] := hl
  obtain ⟨hx, hb, hml, hown, hts, hK, hA, hlocks⟩ := id X
  refine lv_iload_n hx hb dX4_most_0 rfl (lv_at hl 0 rfl) ?_
  refine lv_iconst (v := 2) hx hb dX4_most_1 (by decide) ?_
  refine n_cmp_ge (tgt := 9) k 2 rfl rfl (by omega) (by omega) hx hb dX4_most_2 (by decide) (fun c1 => ?_) (fun c1 => ?_)
  · skip
    refine lv_iload_n hx hb dX4_most_9 rfl (lv_at hl 0 rfl) ?_
    refine lv_iconst (v := 2) hx hb dX4_most_10 (by decide) ?_
    refine n_cmp_ne (tgt := 18) k 2 rfl rfl (by omega) (by omega) hx hb dX4_most_11 (by decide) (fun c2 => ?_) (fun c2 => ?_)
    · skip
      refine lv_bipush (v := 60) hx hb dX4_most_18 (by decide) ?_
      exact g_iret X hr G rfl (by first | (rw [mostN_a c1]; rfl) | (rw [mostN_b c2]; rfl) | (rw [mostN_c c1 c2]; rfl)) dX4_most_20
    · skip
      refine lv_iconst (v := 1) hx hb dX4_most_14 (by decide) ?_
      refine lv_goto (tgt := 20) hx hb dX4_most_15 (by decide) ?_
      exact g_iret X hr G rfl (by first | (rw [mostN_a c1]; rfl) | (rw [mostN_b c2]; rfl) | (rw [mostN_c c1 c2]; rfl)) dX4_most_20
  · skip
    refine lv_iconst (v := 2) hx hb dX4_most_5 (by decide) ?_
    refine lv_goto (tgt := 20) hx hb dX4_most_6 (by decide) ?_
    exact g_iret X hr G rfl (by first | (rw [mostN_a c1]; rfl) | (rw [mostN_b c2]; rfl) | (rw [mostN_c c1 c2]; rfl)) dX4_most_20
set_option maxHeartbeats 1000000 in
set_option maxRecDepth 100000 in
theorem c_X4_rule (l : Launch) (E : EE) (a : Nat → Nat) (st : St) (w : va_W) (what : Int32) (v : Int32) (hI : isOk st) : Ct l yX4_rule cX4_rule 5 (some .int) 2 E [.ref (a 0), .int what, .int v] (wM E a st w) ((mRule st what v).1) (wM E a ((mRule st what v).2) w) := by
  refine Ct_mk RX4 rfl (by decide +kernel) (Nat.le_of_ble_eq_true rfl) ?_
  intro p e s m below meth c A ls X hr G hl
  have hl : lv_has ls 5 [(0, .ref (a 0)), (1, .int what), (2, .int v)] := hl
  obtain ⟨hx, hb, hml, hown, hts, hK, hA, hlocks⟩ := id X
  refine lv_iload_n hx hb dX4_rule_0 rfl (lv_at hl 1 rfl) ?_
  refine lv_iconst (v := 0) hx hb dX4_rule_1 (by decide) ?_
  refine lv_iconst (v := 5) hx hb dX4_rule_2 (by decide) ?_
  refine g_callS (As := [.int what, .int 0, .int 5]) (rest := []) X kX4_20 (c_X4_isFrom l E _ what 0 5) G ⟨Nat.le_of_ble_eq_true rfl, Nat.le_of_ble_eq_true rfl⟩ ⟨Nat.le_refl _, Nat.le_refl _⟩ rfl hl.1 rfl (Nat.le_of_ble_eq_true rfl) dX4_rule_3 (fun H locs G => ?_)
  refine b_ifeq (tgt := 24) hx hb dX4_rule_6 (by decide) (fun c1 => ?_) (fun c1 => ?_)
  · skip
    refine lv_bipush (v := (-2)) hx hb dX4_rule_24 (by decide) ?_
    exact g_iret X hr G (congrArg (fun z => wM E a z w) (by simp [mRule, c1])) (by simp [mRule, c1]) dX4_rule_26
  · skip
    obtain ⟨whatN, gwhatN, hwhatN, rfl⟩ := frB_nat 0 5 (by decide) (by decide) rfl rfl c1
    have ewhatN : cl (nI whatN) = whatN := cl_nI (by omega)
    refine lv_iload_n hx hb dX4_rule_9 rfl (lv_at hl 2 rfl) ?_
    refine lv_iload_n hx hb dX4_rule_10 rfl (lv_at hl 1 rfl) ?_
    refine g_callS (As := [.int (nI whatN)]) (rest := [.int v]) X kX4_36 (c_X4_least l E _ whatN (by omega)) G ⟨Nat.le_of_ble_eq_true rfl, Nat.le_of_ble_eq_true rfl⟩ ⟨Nat.le_refl _, Nat.le_refl _⟩ rfl hl.1 rfl (Nat.le_of_ble_eq_true rfl) dX4_rule_11 (fun H locs G => ?_)
    have b2 : (leastN whatN) ≤ 1 := leastN_le _
    refine lv_iload_n hx hb dX4_rule_14 rfl (lv_at hl 1 rfl) ?_
    refine g_callS (As := [.int (nI whatN)]) (rest := [.int (nI (leastN whatN)), .int v]) X kX4_39 (c_X4_most l E _ whatN (by omega)) G ⟨Nat.le_of_ble_eq_true rfl, Nat.le_of_ble_eq_true rfl⟩ ⟨Nat.le_refl _, Nat.le_refl _⟩ rfl hl.1 rfl (Nat.le_of_ble_eq_true rfl) dX4_rule_15 (fun H locs G => ?_)
    have b3 : (mostN whatN) ≤ 60 := mostN_le _
    refine g_callS (As := [.int v, .int (nI (leastN whatN)), .int (nI (mostN whatN))]) (rest := []) X kX4_20 (c_X4_isFrom l E _ v (nI (leastN whatN)) (nI (mostN whatN))) G ⟨Nat.le_of_ble_eq_true rfl, Nat.le_of_ble_eq_true rfl⟩ ⟨Nat.le_refl _, Nat.le_refl _⟩ rfl hl.1 rfl (Nat.le_of_ble_eq_true rfl) dX4_rule_18 (fun H locs G => ?_)
    refine b_ifne (tgt := 27) hx hb dX4_rule_21 (by decide) (fun c4 => ?_) (fun c4 => ?_)
    · skip
      refine lv_aload_n hx hb dX4_rule_27 rfl (lv_at hl 0 rfl) ?_
      refine g_get X G fX4_7 0 rfl rfl dX4_rule_28 ?_
      refine lv_iload_n hx hb dX4_rule_31 rfl (lv_at hl 1 rfl) ?_
      refine g_iald (j := whatN) X G 1 rfl rfl (by omega) (by decide) dX4_rule_32 ?_
      refine lv_istore_n (lv' := [(3, .int (st 0 whatN)), (0, .ref (a 0)), (1, .int (nI whatN)), (2, .int v)]) hx hb dX4_rule_33 rfl hl (by decide) rfl (fun ls hl => ?_)
      refine lv_aload_n hx hb dX4_rule_34 rfl (lv_at hl 1 rfl) ?_
      refine g_get X G fX4_7 0 rfl rfl dX4_rule_35 ?_
      refine lv_iload_n hx hb dX4_rule_38 rfl (lv_at hl 2 rfl) ?_
      refine lv_iload_n hx hb dX4_rule_39 rfl (lv_at hl 3 rfl) ?_
      refine g_iast (j := whatN) X G 1 rfl rfl (by omega) (by decide) dX4_rule_40 (fun H locs G => ?_)
      have G : Gw E A s (wM E a (sU st 0 whatN v) w) H locs := G
      refine lv_iconst (v := 0) hx hb dX4_rule_41 (by decide) ?_
      refine lv_istore (lv' := [(4, .int 0), (3, .int (st 0 whatN)), (0, .ref (a 0)), (1, .int (nI whatN)), (2, .int v)]) hx hb dX4_rule_42 hl (by decide) rfl (fun ls hl => ?_)
      have LP44 : ∀ (n i : Nat) (sx : St) (H : Heap) (locs : List Loc) (ls : Array Slot), (i + n = 16) → (isOk sx) → (iF (ruleS (decide (whatN = 0) && !decide (v = st 0 whatN))) n i sx = iF (ruleS (decide (whatN = 0) && !decide (v = st 0 whatN))) 16 0 (sU st 0 whatN v)) → Gw E A s (wM E a sx w) H locs → lv_has ls 5 [(0, .ref (a 0)), (1, .int (nI whatN)), (2, .int v), (3, .int (st 0 whatN)), (4, .int (nI i))] → W p l e (rmD 2) s m ([.ref (a 0), .int (nI whatN), .int v] : List Value).toArray below meth c H locs 0 0 (MQ below (CtQ E A ((mRule st (nI whatN) v).1) (wM E a ((mRule st (nI whatN) v).2) w)) ([.ref (a 0), .int (nI whatN), .int v] : List Value).toArray s 0 0 A) (F0 m 44 ls []) := by
        intro n
        induction n with
        | zero =>
          intro i sx H locs ls hi hJ hR G hl
          refine lv_iload hx hb dX4_rule_44 (lv_at hl 4 rfl) ?_
          refine lv_bipush (v := 16) hx hb dX4_rule_46 (by decide) ?_
          refine n_cmp_ge (tgt := 81) i 16 rfl rfl (by omega) (by omega) hx hb dX4_rule_48 (by decide) (fun c5 => ?_) (fun c5 => ?_)
          · skip
            refine lv_aload_n hx hb dX4_rule_81 rfl (lv_at hl 0 rfl) ?_
            refine g_callV (As := []) (rest := []) X kX4_42 (c_X4_lapse l E a sx w hJ) G 0 rfl rfl ⟨Nat.le_of_ble_eq_true rfl, Nat.le_of_ble_eq_true rfl⟩ ⟨Nat.le_refl _, Nat.le_refl _⟩ rfl hl.1 rfl (Nat.le_of_ble_eq_true rfl) dX4_rule_82 (fun H locs G => ?_)
            obtain ⟨sv6, esv6⟩ : ∃ z, z = (lapseC sx).1 := ⟨_, rfl⟩
            rw [← esv6] at G
            have b7 : ((lapseC sx).2) ≤ 16 := lapseC_le _
            refine lv_pop hx hb dX4_rule_85 rfl ?_
            refine lv_iload_n hx hb dX4_rule_86 rfl (lv_at hl 3 rfl) ?_
            exact g_iret X hr G (congrArg (fun z => wM E a z w) (by (try rw [esv6]); have hq : sx = iF (ruleS (decide (whatN = 0) && !decide (v = st 0 whatN))) 16 0 (sU st 0 whatN v) := (by first | exact hR | (rw [iF_ruleF (b := (decide (whatN = 0) && !decide (v = st 0 whatN))) (by simp [c1, ewhatN, c4, c5])] at hR; exact hR)); rw [mRule_2 st v whatN (by omega) (by assumption), hq])) (by (try rw [esv6]); rw [mRule_1 st v whatN (by omega) (by assumption)]) dX4_rule_87
          · skip
            exact absurd c5 (by omega)
        | succ n ih44 =>
          intro i sx H locs ls hi hJ hR G hl
          refine lv_iload hx hb dX4_rule_44 (lv_at hl 4 rfl) ?_
          refine lv_bipush (v := 16) hx hb dX4_rule_46 (by decide) ?_
          refine n_cmp_ge (tgt := 81) i 16 rfl rfl (by omega) (by omega) hx hb dX4_rule_48 (by decide) (fun c8 => ?_) (fun c8 => ?_)
          · skip
            exact absurd c8 (by omega)
          · skip
            refine lv_iload_n hx hb dX4_rule_51 rfl (lv_at hl 1 rfl) ?_
            refine n_if_ne (tgt := 81) whatN rfl (by omega) hx hb dX4_rule_52 (by decide) (fun c9 => ?_) (fun c9 => ?_)
            · skip
              refine lv_aload_n hx hb dX4_rule_81 rfl (lv_at hl 0 rfl) ?_
              refine g_callV (As := []) (rest := []) X kX4_42 (c_X4_lapse l E a sx w hJ) G 0 rfl rfl ⟨Nat.le_of_ble_eq_true rfl, Nat.le_of_ble_eq_true rfl⟩ ⟨Nat.le_refl _, Nat.le_refl _⟩ rfl hl.1 rfl (Nat.le_of_ble_eq_true rfl) dX4_rule_82 (fun H locs G => ?_)
              obtain ⟨sv10, esv10⟩ : ∃ z, z = (lapseC sx).1 := ⟨_, rfl⟩
              rw [← esv10] at G
              have b11 : ((lapseC sx).2) ≤ 16 := lapseC_le _
              refine lv_pop hx hb dX4_rule_85 rfl ?_
              refine lv_iload_n hx hb dX4_rule_86 rfl (lv_at hl 3 rfl) ?_
              exact g_iret X hr G (congrArg (fun z => wM E a z w) (by (try rw [esv10]); have hq : sx = iF (ruleS (decide (whatN = 0) && !decide (v = st 0 whatN))) 16 0 (sU st 0 whatN v) := (by first | exact hR | (rw [iF_ruleF (b := (decide (whatN = 0) && !decide (v = st 0 whatN))) (by simp [c1, ewhatN, c4, c8, c9])] at hR; exact hR)); rw [mRule_2 st v whatN (by omega) (by assumption), hq])) (by (try rw [esv10]); rw [mRule_1 st v whatN (by omega) (by assumption)]) dX4_rule_87
            · skip
              refine lv_iload_n hx hb dX4_rule_55 rfl (lv_at hl 2 rfl) ?_
              refine lv_iload_n hx hb dX4_rule_56 rfl (lv_at hl 3 rfl) ?_
              refine lv_icmp_eq (tgt := 81) hx hb dX4_rule_57 (by decide) (fun c12 => ?_) (fun c12 => ?_)
              · skip
                refine lv_aload_n hx hb dX4_rule_81 rfl (lv_at hl 0 rfl) ?_
                refine g_callV (As := []) (rest := []) X kX4_42 (c_X4_lapse l E a sx w hJ) G 0 rfl rfl ⟨Nat.le_of_ble_eq_true rfl, Nat.le_of_ble_eq_true rfl⟩ ⟨Nat.le_refl _, Nat.le_refl _⟩ rfl hl.1 rfl (Nat.le_of_ble_eq_true rfl) dX4_rule_82 (fun H locs G => ?_)
                obtain ⟨sv13, esv13⟩ : ∃ z, z = (lapseC sx).1 := ⟨_, rfl⟩
                rw [← esv13] at G
                have b14 : ((lapseC sx).2) ≤ 16 := lapseC_le _
                refine lv_pop hx hb dX4_rule_85 rfl ?_
                refine lv_iload_n hx hb dX4_rule_86 rfl (lv_at hl 3 rfl) ?_
                exact g_iret X hr G (congrArg (fun z => wM E a z w) (by (try rw [esv13]); have hq : sx = iF (ruleS (decide (whatN = 0) && !decide (v = st 0 whatN))) 16 0 (sU st 0 whatN v) := (by first | exact hR | (rw [iF_ruleF (b := (decide (whatN = 0) && !decide (v = st 0 whatN))) (by simp [c1, ewhatN, c4, c8, c9, c12])] at hR; exact hR)); rw [mRule_2 st v whatN (by omega) (by assumption), hq])) (by (try rw [esv13]); rw [mRule_1 st v whatN (by omega) (by assumption)]) dX4_rule_87
              · skip
                refine lv_aload_n hx hb dX4_rule_60 rfl (lv_at hl 0 rfl) ?_
                refine lv_iload hx hb dX4_rule_61 (lv_at hl 4 rfl) ?_
                refine g_callV (As := [.int (nI i)]) (rest := []) X kX4_24 (c_X4_isLent l E a sx w i (by omega)) G 0 rfl rfl ⟨Nat.le_of_ble_eq_true rfl, Nat.le_of_ble_eq_true rfl⟩ ⟨Nat.le_refl _, Nat.le_refl _⟩ rfl hl.1 rfl (Nat.le_of_ble_eq_true rfl) dX4_rule_63 (fun H locs G => ?_)
                refine b_ifeq (tgt := 75) hx hb dX4_rule_66 (by decide) (fun c15 => ?_) (fun c15 => ?_)
                · skip
                  refine lv_iinc (v := nI (i + 1)) (lv' := [(4, .int (nI (i + 1))), (0, .ref (a 0)), (1, .int (nI whatN)), (2, .int v), (3, .int (st 0 whatN))]) hx hb dX4_rule_75 hl (k := 4) rfl (nI_inc _) (by decide) rfl (fun ls hl => ?_)
                  refine lv_goto (tgt := 44) hx hb dX4_rule_78 (by decide) ?_
                  exact ih44 (i + 1) sx _ _ ls (by omega) (by first | with_reducible exact hJ | with_reducible exact isOk_mEnd (by omega) hJ) (by rw [← hR, iF_s]; first | rw [ruleS_n (by assumption)] | rw [ruleS_t (by rw [decide_eq_true (by assumption), decide_eq_false (by assumption)]; rfl) (by assumption)]) G (lv_sub hl [1, 2, 3, 4, 0] rfl)
                · skip
                  refine lv_aload_n hx hb dX4_rule_69 rfl (lv_at hl 0 rfl) ?_
                  refine lv_iload hx hb dX4_rule_70 (lv_at hl 4 rfl) ?_
                  refine g_callVv (As := [.int (nI i)]) (rest := []) X kX4_32 (c_X4_end l E a sx w i (by omega)) G 0 rfl rfl ⟨Nat.le_of_ble_eq_true rfl, Nat.le_of_ble_eq_true rfl⟩ ⟨Nat.le_refl _, Nat.le_refl _⟩ rfl hl.1 rfl (Nat.le_of_ble_eq_true rfl) dX4_rule_72 (fun H locs G => ?_)
                  obtain ⟨sv16, esv16⟩ : ∃ z, z = mEnd i sx := ⟨_, rfl⟩
                  rw [← esv16] at G
                  refine lv_iinc (v := nI (i + 1)) (lv' := [(4, .int (nI (i + 1))), (0, .ref (a 0)), (1, .int (nI whatN)), (2, .int v), (3, .int (st 0 whatN))]) hx hb dX4_rule_75 hl (k := 4) rfl (nI_inc _) (by decide) rfl (fun ls hl => ?_)
                  refine lv_goto (tgt := 44) hx hb dX4_rule_78 (by decide) ?_
                  exact ih44 (i + 1) sv16 _ _ ls (by omega) (by (try rw [esv16]); first | with_reducible exact hJ | with_reducible exact isOk_mEnd (by omega) hJ) (by (try rw [esv16]); rw [← hR, iF_s]; first | rw [ruleS_n (by assumption)] | rw [ruleS_t (by rw [decide_eq_true (by assumption), decide_eq_false (by assumption)]; rfl) (by assumption)]) G (lv_sub hl [1, 2, 3, 4, 0] rfl)
      exact LP44 16 0 (sU st 0 whatN v) _ _ ls (by omega) (isOk_sU (by omega) hI) rfl G (lv_sub hl [2, 3, 4, 1, 0] rfl)
    · skip
      refine lv_bipush (v := (-2)) hx hb dX4_rule_24 (by decide) ?_
      exact g_iret X hr G (congrArg (fun z => wM E a z w) (by simp [mRule, c1, ewhatN, c4])) (by simp [mRule, c1, ewhatN, c4]) dX4_rule_26
set_option maxHeartbeats 1000000 in
set_option maxRecDepth 100000 in
theorem c_X4_bindingOf (l : Launch) (E : EE) (a : Nat → Nat) (st : St) (w : va_W) (h : Int32) (pt : Int32) (r : Int32) (rp : Int32) : Ct l yX4_bindingOf cX4_bindingOf 8 (some .int) 0 E [.ref (a 0), .int h, .int pt, .int r, .int rp] (wM E a st w) (oI (bindO st h pt r rp)) (wM E a st w) := by
  refine Ct_mk RX4 rfl (by decide +kernel) (Nat.le_of_ble_eq_true rfl) ?_
  intro p e s m below meth c A ls X hr G hl
  have hl : lv_has ls 8 [(0, .ref (a 0)), (1, .int h), (2, .int pt), (3, .int r), (4, .int rp)] := hl
  obtain ⟨hx, hb, hml, hown, hts, hK, hA, hlocks⟩ := id X
  refine lv_bipush (v := (-6)) hx hb dX4_bindingOf_0 (by decide) ?_
  refine lv_istore (lv' := [(5, .int (-6)), (0, .ref (a 0)), (1, .int h), (2, .int pt), (3, .int r), (4, .int rp)]) hx hb dX4_bindingOf_2 hl (by decide) rfl (fun ls hl => ?_)
  refine lv_iconst (v := 0) hx hb dX4_bindingOf_4 (by decide) ?_
  refine lv_istore (lv' := [(6, .int 0), (5, .int (-6)), (0, .ref (a 0)), (1, .int h), (2, .int pt), (3, .int r), (4, .int rp)]) hx hb dX4_bindingOf_5 hl (by decide) rfl (fun ls hl => ?_)
  have LP7 : ∀ (n i : Nat) (f : Option Nat) (H : Heap) (locs : List Loc) (ls : Array Slot), (i + n = 16) → (lF (bindP st h pt r rp) n i f = bindO st h pt r rp) → Gw E A s (wM E a st w) H locs → lv_has ls 8 [(0, .ref (a 0)), (1, .int h), (2, .int pt), (3, .int r), (4, .int rp), (5, .int (oI f)), (6, .int (nI i))] → W p l e (rmD 0) s m ([.ref (a 0), .int h, .int pt, .int r, .int rp] : List Value).toArray below meth c H locs 0 0 (MQ below (CtQ E A (oI (bindO st h pt r rp)) (wM E a st w)) ([.ref (a 0), .int h, .int pt, .int r, .int rp] : List Value).toArray s 0 0 A) (F0 m 7 ls []) := by
    intro n
    induction n with
    | zero =>
      intro i f H locs ls hi hR G hl
      refine lv_iload hx hb dX4_bindingOf_7 (lv_at hl 6 rfl) ?_
      refine lv_bipush (v := 16) hx hb dX4_bindingOf_9 (by decide) ?_
      refine n_cmp_ge (tgt := 141) i 16 rfl rfl (by omega) (by omega) hx hb dX4_bindingOf_11 (by decide) (fun c1 => ?_) (fun c1 => ?_)
      · skip
        refine lv_iload hx hb dX4_bindingOf_141 (lv_at hl 5 rfl) ?_
        exact g_iret X hr G rfl (by rw [← hR]; rfl) dX4_bindingOf_143
      · skip
        exact absurd c1 (by omega)
    | succ n ih7 =>
      intro i f H locs ls hi hR G hl
      refine lv_iload hx hb dX4_bindingOf_7 (lv_at hl 6 rfl) ?_
      refine lv_bipush (v := 16) hx hb dX4_bindingOf_9 (by decide) ?_
      refine n_cmp_ge (tgt := 141) i 16 rfl rfl (by omega) (by omega) hx hb dX4_bindingOf_11 (by decide) (fun c2 => ?_) (fun c2 => ?_)
      · skip
        exact absurd c2 (by omega)
      · skip
        refine lv_aload_n hx hb dX4_bindingOf_14 rfl (lv_at hl 0 rfl) ?_
        refine g_get X G fX4_7 0 rfl rfl dX4_bindingOf_15 ?_
        refine lv_bipush (v := 7) hx hb dX4_bindingOf_18 (by decide) ?_
        refine lv_iload hx hb dX4_bindingOf_20 (lv_at hl 6 rfl) ?_
        refine n_iadd 7 i rfl rfl hx hb dX4_bindingOf_22 ?_
        refine g_iald (j := 7 + i) X G 1 rfl rfl (by omega) (by decide) dX4_bindingOf_23 ?_
        refine lv_iload_n hx hb dX4_bindingOf_24 rfl (lv_at hl 1 rfl) ?_
        refine lv_icmp_ne (tgt := 46) hx hb dX4_bindingOf_25 (by decide) (fun c3 => ?_) (fun c3 => ?_)
        · skip
          refine lv_iconst (v := 0) hx hb dX4_bindingOf_46 (by decide) ?_
          refine lv_istore (lv' := [(7, .int 0), (0, .ref (a 0)), (1, .int h), (2, .int pt), (3, .int r), (4, .int rp), (5, .int (oI f)), (6, .int (nI i))]) hx hb dX4_bindingOf_47 hl (by decide) rfl (fun ls hl => ?_)
          refine lv_iload hx hb dX4_bindingOf_49 (lv_at hl 0 rfl) ?_
          refine lv_if_eq (tgt := 81) hx hb dX4_bindingOf_51 (by decide) (fun c4 => ?_) (fun c4 => ?_)
          · skip
            refine lv_iconst (v := 0) hx hb dX4_bindingOf_81 (by decide) ?_
            refine lv_istore (lv' := [(7, .int 0), (0, .ref (a 0)), (1, .int h), (2, .int pt), (3, .int r), (4, .int rp), (5, .int (oI f)), (6, .int (nI i))]) hx hb dX4_bindingOf_82 hl (by decide) rfl (fun ls hl => ?_)
            refine lv_iload hx hb dX4_bindingOf_84 (lv_at hl 0 rfl) ?_
            refine lv_if_eq (tgt := 118) hx hb dX4_bindingOf_86 (by decide) (fun c5 => ?_) (fun c5 => ?_)
            · skip
              refine lv_iconst (v := 0) hx hb dX4_bindingOf_118 (by decide) ?_
              refine lv_istore (lv' := [(7, .int 0), (0, .ref (a 0)), (1, .int h), (2, .int pt), (3, .int r), (4, .int rp), (5, .int (oI f)), (6, .int (nI i))]) hx hb dX4_bindingOf_119 hl (by decide) rfl (fun ls hl => ?_)
              refine lv_iload hx hb dX4_bindingOf_121 (lv_at hl 0 rfl) ?_
              refine lv_if_eq (tgt := 131) hx hb dX4_bindingOf_123 (by decide) (fun c6 => ?_) (fun c6 => ?_)
              · skip
                refine lv_iload hx hb dX4_bindingOf_131 (lv_at hl 6 rfl) ?_
                refine lv_istore (lv' := [(5, .int (oI f)), (7, .int 0), (0, .ref (a 0)), (1, .int h), (2, .int pt), (3, .int r), (4, .int rp), (6, .int (nI i))]) hx hb dX4_bindingOf_133 hl (by decide) rfl (fun ls hl => ?_)
                refine lv_iinc (v := nI (i + 1)) (lv' := [(6, .int (nI (i + 1))), (5, .int (oI f)), (7, .int 0), (0, .ref (a 0)), (1, .int h), (2, .int pt), (3, .int r), (4, .int rp)]) hx hb dX4_bindingOf_135 hl (k := 7) rfl (nI_inc _) (by decide) rfl (fun ls hl => ?_)
                refine lv_goto (tgt := 7) hx hb dX4_bindingOf_138 (by decide) ?_
                exact ih7 (i + 1) f _ _ ls (by omega) (by first | (rw [← hR]; simp [lF, bindP, c2, c3]; done) | exact absurd (bind_no (x := st 0 0) (by assumption) (by assumption)) id) G (lv_sub hl [3, 4, 5, 6, 7, 1, 0] rfl)
              · skip
                exact absurd c6 (by decide)
            · skip
              exact absurd c5 (by decide)
          · skip
            exact absurd c4 (by decide)
        · skip
          refine lv_aload_n hx hb dX4_bindingOf_28 rfl (lv_at hl 0 rfl) ?_
          refine g_get X G fX4_7 0 rfl rfl dX4_bindingOf_29 ?_
          refine lv_bipush (v := 23) hx hb dX4_bindingOf_32 (by decide) ?_
          refine lv_iload hx hb dX4_bindingOf_34 (lv_at hl 6 rfl) ?_
          refine n_iadd 23 i rfl rfl hx hb dX4_bindingOf_36 ?_
          refine g_iald (j := 23 + i) X G 1 rfl rfl (by omega) (by decide) dX4_bindingOf_37 ?_
          refine lv_iload_n hx hb dX4_bindingOf_38 rfl (lv_at hl 2 rfl) ?_
          refine lv_icmp_ne (tgt := 46) hx hb dX4_bindingOf_39 (by decide) (fun c7 => ?_) (fun c7 => ?_)
          · skip
            refine lv_iconst (v := 0) hx hb dX4_bindingOf_46 (by decide) ?_
            refine lv_istore (lv' := [(7, .int 0), (0, .ref (a 0)), (1, .int h), (2, .int pt), (3, .int r), (4, .int rp), (5, .int (oI f)), (6, .int (nI i))]) hx hb dX4_bindingOf_47 hl (by decide) rfl (fun ls hl => ?_)
            refine lv_iload hx hb dX4_bindingOf_49 (lv_at hl 0 rfl) ?_
            refine lv_if_eq (tgt := 81) hx hb dX4_bindingOf_51 (by decide) (fun c8 => ?_) (fun c8 => ?_)
            · skip
              refine lv_iconst (v := 0) hx hb dX4_bindingOf_81 (by decide) ?_
              refine lv_istore (lv' := [(7, .int 0), (0, .ref (a 0)), (1, .int h), (2, .int pt), (3, .int r), (4, .int rp), (5, .int (oI f)), (6, .int (nI i))]) hx hb dX4_bindingOf_82 hl (by decide) rfl (fun ls hl => ?_)
              refine lv_iload hx hb dX4_bindingOf_84 (lv_at hl 0 rfl) ?_
              refine lv_if_eq (tgt := 118) hx hb dX4_bindingOf_86 (by decide) (fun c9 => ?_) (fun c9 => ?_)
              · skip
                refine lv_iconst (v := 0) hx hb dX4_bindingOf_118 (by decide) ?_
                refine lv_istore (lv' := [(7, .int 0), (0, .ref (a 0)), (1, .int h), (2, .int pt), (3, .int r), (4, .int rp), (5, .int (oI f)), (6, .int (nI i))]) hx hb dX4_bindingOf_119 hl (by decide) rfl (fun ls hl => ?_)
                refine lv_iload hx hb dX4_bindingOf_121 (lv_at hl 0 rfl) ?_
                refine lv_if_eq (tgt := 131) hx hb dX4_bindingOf_123 (by decide) (fun c10 => ?_) (fun c10 => ?_)
                · skip
                  refine lv_iload hx hb dX4_bindingOf_131 (lv_at hl 6 rfl) ?_
                  refine lv_istore (lv' := [(5, .int (oI f)), (7, .int 0), (0, .ref (a 0)), (1, .int h), (2, .int pt), (3, .int r), (4, .int rp), (6, .int (nI i))]) hx hb dX4_bindingOf_133 hl (by decide) rfl (fun ls hl => ?_)
                  refine lv_iinc (v := nI (i + 1)) (lv' := [(6, .int (nI (i + 1))), (5, .int (oI f)), (7, .int 0), (0, .ref (a 0)), (1, .int h), (2, .int pt), (3, .int r), (4, .int rp)]) hx hb dX4_bindingOf_135 hl (k := 7) rfl (nI_inc _) (by decide) rfl (fun ls hl => ?_)
                  refine lv_goto (tgt := 7) hx hb dX4_bindingOf_138 (by decide) ?_
                  exact ih7 (i + 1) f _ _ ls (by omega) (by first | (rw [← hR]; simp [lF, bindP, c2, c3, c7]; done) | exact absurd (bind_no (x := st 0 0) (by assumption) (by assumption)) id) G (lv_sub hl [3, 4, 5, 6, 7, 1, 0] rfl)
                · skip
                  exact absurd c10 (by decide)
              · skip
                exact absurd c9 (by decide)
            · skip
              exact absurd c8 (by decide)
          · skip
            refine lv_iconst (v := 1) hx hb dX4_bindingOf_42 (by decide) ?_
            refine lv_goto (tgt := 47) hx hb dX4_bindingOf_43 (by decide) ?_
            refine lv_istore (lv' := [(7, .int 1), (0, .ref (a 0)), (1, .int h), (2, .int pt), (3, .int r), (4, .int rp), (5, .int (oI f)), (6, .int (nI i))]) hx hb dX4_bindingOf_47 hl (by decide) rfl (fun ls hl => ?_)
            refine lv_iload hx hb dX4_bindingOf_49 (lv_at hl 0 rfl) ?_
            refine lv_if_eq (tgt := 81) hx hb dX4_bindingOf_51 (by decide) (fun c11 => ?_) (fun c11 => ?_)
            · skip
              exact absurd c11 (by decide)
            · skip
              refine lv_aload_n hx hb dX4_bindingOf_54 rfl (lv_at hl 1 rfl) ?_
              refine g_get X G fX4_7 0 rfl rfl dX4_bindingOf_55 ?_
              refine lv_iconst (v := 0) hx hb dX4_bindingOf_58 (by decide) ?_
              refine g_iald (j := 0) X G 1 rfl rfl (by omega) (by decide) dX4_bindingOf_59 ?_
              refine lv_if_eq (tgt := 77) hx hb dX4_bindingOf_60 (by decide) (fun c12 => ?_) (fun c12 => ?_)
              · skip
                refine lv_iconst (v := 1) hx hb dX4_bindingOf_77 (by decide) ?_
                refine lv_goto (tgt := 82) hx hb dX4_bindingOf_78 (by decide) ?_
                refine lv_istore (lv' := [(7, .int 1), (0, .ref (a 0)), (1, .int h), (2, .int pt), (3, .int r), (4, .int rp), (5, .int (oI f)), (6, .int (nI i))]) hx hb dX4_bindingOf_82 hl (by decide) rfl (fun ls hl => ?_)
                refine lv_iload hx hb dX4_bindingOf_84 (lv_at hl 0 rfl) ?_
                refine lv_if_eq (tgt := 118) hx hb dX4_bindingOf_86 (by decide) (fun c13 => ?_) (fun c13 => ?_)
                · skip
                  exact absurd c13 (by decide)
                · skip
                  refine lv_aload_n hx hb dX4_bindingOf_89 rfl (lv_at hl 1 rfl) ?_
                  refine g_get X G fX4_7 0 rfl rfl dX4_bindingOf_90 ?_
                  refine lv_iconst (v := 0) hx hb dX4_bindingOf_93 (by decide) ?_
                  refine g_iald (j := 0) X G 1 rfl rfl (by omega) (by decide) dX4_bindingOf_94 ?_
                  refine lv_iconst (v := 2) hx hb dX4_bindingOf_95 (by decide) ?_
                  refine lv_icmp_lt (tgt := 114) hx hb dX4_bindingOf_96 (by decide) (fun c14 => ?_) (fun c14 => ?_)
                  · skip
                    refine lv_iconst (v := 1) hx hb dX4_bindingOf_114 (by decide) ?_
                    refine lv_goto (tgt := 119) hx hb dX4_bindingOf_115 (by decide) ?_
                    refine lv_istore (lv' := [(7, .int 1), (0, .ref (a 0)), (1, .int h), (2, .int pt), (3, .int r), (4, .int rp), (5, .int (oI f)), (6, .int (nI i))]) hx hb dX4_bindingOf_119 hl (by decide) rfl (fun ls hl => ?_)
                    refine lv_iload hx hb dX4_bindingOf_121 (lv_at hl 0 rfl) ?_
                    refine lv_if_eq (tgt := 131) hx hb dX4_bindingOf_123 (by decide) (fun c15 => ?_) (fun c15 => ?_)
                    · skip
                      exact absurd c15 (by decide)
                    · skip
                      refine lv_iload hx hb dX4_bindingOf_126 (lv_at hl 7 rfl) ?_
                      refine lv_goto (tgt := 133) hx hb dX4_bindingOf_128 (by decide) ?_
                      refine lv_istore (lv' := [(5, .int (nI i)), (7, .int 1), (0, .ref (a 0)), (1, .int h), (2, .int pt), (3, .int r), (4, .int rp), (6, .int (nI i))]) hx hb dX4_bindingOf_133 hl (by decide) rfl (fun ls hl => ?_)
                      refine lv_iinc (v := nI (i + 1)) (lv' := [(6, .int (nI (i + 1))), (5, .int (nI i)), (7, .int 1), (0, .ref (a 0)), (1, .int h), (2, .int pt), (3, .int r), (4, .int rp)]) hx hb dX4_bindingOf_135 hl (k := 7) rfl (nI_inc _) (by decide) rfl (fun ls hl => ?_)
                      refine lv_goto (tgt := 7) hx hb dX4_bindingOf_138 (by decide) ?_
                      exact ih7 (i + 1) (some i) _ _ ls (by omega) (by first | (rw [← hR]; simp [lF, bindP, c2, c3, c7, c12, c14]; done) | exact absurd (bind_no (x := st 0 0) (by assumption) (by assumption)) id) G (lv_sub hl [3, 4, 5, 6, 7, 1, 0] rfl)
                  · skip
                    refine lv_aload_n hx hb dX4_bindingOf_99 rfl (lv_at hl 1 rfl) ?_
                    refine g_get X G fX4_7 0 rfl rfl dX4_bindingOf_100 ?_
                    refine lv_bipush (v := 55) hx hb dX4_bindingOf_103 (by decide) ?_
                    refine lv_iload hx hb dX4_bindingOf_105 (lv_at hl 7 rfl) ?_
                    refine n_iadd 55 i rfl rfl hx hb dX4_bindingOf_107 ?_
                    refine g_iald (j := 55 + i) X G 1 rfl rfl (by omega) (by decide) dX4_bindingOf_108 ?_
                    refine lv_iload hx hb dX4_bindingOf_109 (lv_at hl 5 rfl) ?_
                    refine lv_icmp_ne (tgt := 118) hx hb dX4_bindingOf_111 (by decide) (fun c16 => ?_) (fun c16 => ?_)
                    · skip
                      refine lv_iconst (v := 0) hx hb dX4_bindingOf_118 (by decide) ?_
                      refine lv_istore (lv' := [(7, .int 0), (0, .ref (a 0)), (1, .int h), (2, .int pt), (3, .int r), (4, .int rp), (5, .int (oI f)), (6, .int (nI i))]) hx hb dX4_bindingOf_119 hl (by decide) rfl (fun ls hl => ?_)
                      refine lv_iload hx hb dX4_bindingOf_121 (lv_at hl 0 rfl) ?_
                      refine lv_if_eq (tgt := 131) hx hb dX4_bindingOf_123 (by decide) (fun c17 => ?_) (fun c17 => ?_)
                      · skip
                        refine lv_iload hx hb dX4_bindingOf_131 (lv_at hl 6 rfl) ?_
                        refine lv_istore (lv' := [(5, .int (oI f)), (7, .int 0), (0, .ref (a 0)), (1, .int h), (2, .int pt), (3, .int r), (4, .int rp), (6, .int (nI i))]) hx hb dX4_bindingOf_133 hl (by decide) rfl (fun ls hl => ?_)
                        refine lv_iinc (v := nI (i + 1)) (lv' := [(6, .int (nI (i + 1))), (5, .int (oI f)), (7, .int 0), (0, .ref (a 0)), (1, .int h), (2, .int pt), (3, .int r), (4, .int rp)]) hx hb dX4_bindingOf_135 hl (k := 7) rfl (nI_inc _) (by decide) rfl (fun ls hl => ?_)
                        refine lv_goto (tgt := 7) hx hb dX4_bindingOf_138 (by decide) ?_
                        exact ih7 (i + 1) f _ _ ls (by omega) (by first | (rw [← hR]; simp [lF, bindP, c2, c3, c7, c12, c14, c16]; done) | exact absurd (bind_no (x := st 0 0) (by assumption) (by assumption)) id) G (lv_sub hl [3, 4, 5, 6, 7, 1, 0] rfl)
                      · skip
                        exact absurd c17 (by decide)
                    · skip
                      refine lv_iconst (v := 1) hx hb dX4_bindingOf_114 (by decide) ?_
                      refine lv_goto (tgt := 119) hx hb dX4_bindingOf_115 (by decide) ?_
                      refine lv_istore (lv' := [(7, .int 1), (0, .ref (a 0)), (1, .int h), (2, .int pt), (3, .int r), (4, .int rp), (5, .int (oI f)), (6, .int (nI i))]) hx hb dX4_bindingOf_119 hl (by decide) rfl (fun ls hl => ?_)
                      refine lv_iload hx hb dX4_bindingOf_121 (lv_at hl 0 rfl) ?_
                      refine lv_if_eq (tgt := 131) hx hb dX4_bindingOf_123 (by decide) (fun c18 => ?_) (fun c18 => ?_)
                      · skip
                        exact absurd c18 (by decide)
                      · skip
                        refine lv_iload hx hb dX4_bindingOf_126 (lv_at hl 7 rfl) ?_
                        refine lv_goto (tgt := 133) hx hb dX4_bindingOf_128 (by decide) ?_
                        refine lv_istore (lv' := [(5, .int (nI i)), (7, .int 1), (0, .ref (a 0)), (1, .int h), (2, .int pt), (3, .int r), (4, .int rp), (6, .int (nI i))]) hx hb dX4_bindingOf_133 hl (by decide) rfl (fun ls hl => ?_)
                        refine lv_iinc (v := nI (i + 1)) (lv' := [(6, .int (nI (i + 1))), (5, .int (nI i)), (7, .int 1), (0, .ref (a 0)), (1, .int h), (2, .int pt), (3, .int r), (4, .int rp)]) hx hb dX4_bindingOf_135 hl (k := 7) rfl (nI_inc _) (by decide) rfl (fun ls hl => ?_)
                        refine lv_goto (tgt := 7) hx hb dX4_bindingOf_138 (by decide) ?_
                        exact ih7 (i + 1) (some i) _ _ ls (by omega) (by first | (rw [← hR]; simp [lF, bindP, c2, c3, c7, c12, c14, c16]; done) | exact absurd (bind_no (x := st 0 0) (by assumption) (by assumption)) id) G (lv_sub hl [3, 4, 5, 6, 7, 1, 0] rfl)
              · skip
                refine lv_aload_n hx hb dX4_bindingOf_63 rfl (lv_at hl 1 rfl) ?_
                refine g_get X G fX4_7 0 rfl rfl dX4_bindingOf_64 ?_
                refine lv_bipush (v := 39) hx hb dX4_bindingOf_67 (by decide) ?_
                refine lv_iload hx hb dX4_bindingOf_69 (lv_at hl 7 rfl) ?_
                refine n_iadd 39 i rfl rfl hx hb dX4_bindingOf_71 ?_
                refine g_iald (j := 39 + i) X G 1 rfl rfl (by omega) (by decide) dX4_bindingOf_72 ?_
                refine lv_iload_n hx hb dX4_bindingOf_73 rfl (lv_at hl 4 rfl) ?_
                refine lv_icmp_ne (tgt := 81) hx hb dX4_bindingOf_74 (by decide) (fun c19 => ?_) (fun c19 => ?_)
                · skip
                  refine lv_iconst (v := 0) hx hb dX4_bindingOf_81 (by decide) ?_
                  refine lv_istore (lv' := [(7, .int 0), (0, .ref (a 0)), (1, .int h), (2, .int pt), (3, .int r), (4, .int rp), (5, .int (oI f)), (6, .int (nI i))]) hx hb dX4_bindingOf_82 hl (by decide) rfl (fun ls hl => ?_)
                  refine lv_iload hx hb dX4_bindingOf_84 (lv_at hl 0 rfl) ?_
                  refine lv_if_eq (tgt := 118) hx hb dX4_bindingOf_86 (by decide) (fun c20 => ?_) (fun c20 => ?_)
                  · skip
                    refine lv_iconst (v := 0) hx hb dX4_bindingOf_118 (by decide) ?_
                    refine lv_istore (lv' := [(7, .int 0), (0, .ref (a 0)), (1, .int h), (2, .int pt), (3, .int r), (4, .int rp), (5, .int (oI f)), (6, .int (nI i))]) hx hb dX4_bindingOf_119 hl (by decide) rfl (fun ls hl => ?_)
                    refine lv_iload hx hb dX4_bindingOf_121 (lv_at hl 0 rfl) ?_
                    refine lv_if_eq (tgt := 131) hx hb dX4_bindingOf_123 (by decide) (fun c21 => ?_) (fun c21 => ?_)
                    · skip
                      refine lv_iload hx hb dX4_bindingOf_131 (lv_at hl 6 rfl) ?_
                      refine lv_istore (lv' := [(5, .int (oI f)), (7, .int 0), (0, .ref (a 0)), (1, .int h), (2, .int pt), (3, .int r), (4, .int rp), (6, .int (nI i))]) hx hb dX4_bindingOf_133 hl (by decide) rfl (fun ls hl => ?_)
                      refine lv_iinc (v := nI (i + 1)) (lv' := [(6, .int (nI (i + 1))), (5, .int (oI f)), (7, .int 0), (0, .ref (a 0)), (1, .int h), (2, .int pt), (3, .int r), (4, .int rp)]) hx hb dX4_bindingOf_135 hl (k := 7) rfl (nI_inc _) (by decide) rfl (fun ls hl => ?_)
                      refine lv_goto (tgt := 7) hx hb dX4_bindingOf_138 (by decide) ?_
                      exact ih7 (i + 1) f _ _ ls (by omega) (by first | (rw [← hR]; simp [lF, bindP, c2, c3, c7, c12, c19]; done) | exact absurd (bind_no (x := st 0 0) (by assumption) (by assumption)) id) G (lv_sub hl [3, 4, 5, 6, 7, 1, 0] rfl)
                    · skip
                      exact absurd c21 (by decide)
                  · skip
                    exact absurd c20 (by decide)
                · skip
                  refine lv_iconst (v := 1) hx hb dX4_bindingOf_77 (by decide) ?_
                  refine lv_goto (tgt := 82) hx hb dX4_bindingOf_78 (by decide) ?_
                  refine lv_istore (lv' := [(7, .int 1), (0, .ref (a 0)), (1, .int h), (2, .int pt), (3, .int r), (4, .int rp), (5, .int (oI f)), (6, .int (nI i))]) hx hb dX4_bindingOf_82 hl (by decide) rfl (fun ls hl => ?_)
                  refine lv_iload hx hb dX4_bindingOf_84 (lv_at hl 0 rfl) ?_
                  refine lv_if_eq (tgt := 118) hx hb dX4_bindingOf_86 (by decide) (fun c22 => ?_) (fun c22 => ?_)
                  · skip
                    exact absurd c22 (by decide)
                  · skip
                    refine lv_aload_n hx hb dX4_bindingOf_89 rfl (lv_at hl 1 rfl) ?_
                    refine g_get X G fX4_7 0 rfl rfl dX4_bindingOf_90 ?_
                    refine lv_iconst (v := 0) hx hb dX4_bindingOf_93 (by decide) ?_
                    refine g_iald (j := 0) X G 1 rfl rfl (by omega) (by decide) dX4_bindingOf_94 ?_
                    refine lv_iconst (v := 2) hx hb dX4_bindingOf_95 (by decide) ?_
                    refine lv_icmp_lt (tgt := 114) hx hb dX4_bindingOf_96 (by decide) (fun c23 => ?_) (fun c23 => ?_)
                    · skip
                      refine lv_iconst (v := 1) hx hb dX4_bindingOf_114 (by decide) ?_
                      refine lv_goto (tgt := 119) hx hb dX4_bindingOf_115 (by decide) ?_
                      refine lv_istore (lv' := [(7, .int 1), (0, .ref (a 0)), (1, .int h), (2, .int pt), (3, .int r), (4, .int rp), (5, .int (oI f)), (6, .int (nI i))]) hx hb dX4_bindingOf_119 hl (by decide) rfl (fun ls hl => ?_)
                      refine lv_iload hx hb dX4_bindingOf_121 (lv_at hl 0 rfl) ?_
                      refine lv_if_eq (tgt := 131) hx hb dX4_bindingOf_123 (by decide) (fun c24 => ?_) (fun c24 => ?_)
                      · skip
                        exact absurd c24 (by decide)
                      · skip
                        refine lv_iload hx hb dX4_bindingOf_126 (lv_at hl 7 rfl) ?_
                        refine lv_goto (tgt := 133) hx hb dX4_bindingOf_128 (by decide) ?_
                        refine lv_istore (lv' := [(5, .int (nI i)), (7, .int 1), (0, .ref (a 0)), (1, .int h), (2, .int pt), (3, .int r), (4, .int rp), (6, .int (nI i))]) hx hb dX4_bindingOf_133 hl (by decide) rfl (fun ls hl => ?_)
                        refine lv_iinc (v := nI (i + 1)) (lv' := [(6, .int (nI (i + 1))), (5, .int (nI i)), (7, .int 1), (0, .ref (a 0)), (1, .int h), (2, .int pt), (3, .int r), (4, .int rp)]) hx hb dX4_bindingOf_135 hl (k := 7) rfl (nI_inc _) (by decide) rfl (fun ls hl => ?_)
                        refine lv_goto (tgt := 7) hx hb dX4_bindingOf_138 (by decide) ?_
                        exact ih7 (i + 1) (some i) _ _ ls (by omega) (by first | (rw [← hR]; simp [lF, bindP, c2, c3, c7, c12, c19, c23]; done) | exact absurd (bind_no (x := st 0 0) (by assumption) (by assumption)) id) G (lv_sub hl [3, 4, 5, 6, 7, 1, 0] rfl)
                    · skip
                      refine lv_aload_n hx hb dX4_bindingOf_99 rfl (lv_at hl 1 rfl) ?_
                      refine g_get X G fX4_7 0 rfl rfl dX4_bindingOf_100 ?_
                      refine lv_bipush (v := 55) hx hb dX4_bindingOf_103 (by decide) ?_
                      refine lv_iload hx hb dX4_bindingOf_105 (lv_at hl 7 rfl) ?_
                      refine n_iadd 55 i rfl rfl hx hb dX4_bindingOf_107 ?_
                      refine g_iald (j := 55 + i) X G 1 rfl rfl (by omega) (by decide) dX4_bindingOf_108 ?_
                      refine lv_iload hx hb dX4_bindingOf_109 (lv_at hl 5 rfl) ?_
                      refine lv_icmp_ne (tgt := 118) hx hb dX4_bindingOf_111 (by decide) (fun c25 => ?_) (fun c25 => ?_)
                      · skip
                        refine lv_iconst (v := 0) hx hb dX4_bindingOf_118 (by decide) ?_
                        refine lv_istore (lv' := [(7, .int 0), (0, .ref (a 0)), (1, .int h), (2, .int pt), (3, .int r), (4, .int rp), (5, .int (oI f)), (6, .int (nI i))]) hx hb dX4_bindingOf_119 hl (by decide) rfl (fun ls hl => ?_)
                        refine lv_iload hx hb dX4_bindingOf_121 (lv_at hl 0 rfl) ?_
                        refine lv_if_eq (tgt := 131) hx hb dX4_bindingOf_123 (by decide) (fun c26 => ?_) (fun c26 => ?_)
                        · skip
                          refine lv_iload hx hb dX4_bindingOf_131 (lv_at hl 6 rfl) ?_
                          refine lv_istore (lv' := [(5, .int (oI f)), (7, .int 0), (0, .ref (a 0)), (1, .int h), (2, .int pt), (3, .int r), (4, .int rp), (6, .int (nI i))]) hx hb dX4_bindingOf_133 hl (by decide) rfl (fun ls hl => ?_)
                          refine lv_iinc (v := nI (i + 1)) (lv' := [(6, .int (nI (i + 1))), (5, .int (oI f)), (7, .int 0), (0, .ref (a 0)), (1, .int h), (2, .int pt), (3, .int r), (4, .int rp)]) hx hb dX4_bindingOf_135 hl (k := 7) rfl (nI_inc _) (by decide) rfl (fun ls hl => ?_)
                          refine lv_goto (tgt := 7) hx hb dX4_bindingOf_138 (by decide) ?_
                          exact ih7 (i + 1) f _ _ ls (by omega) (by first | (rw [← hR]; simp [lF, bindP, c2, c3, c7, c12, c19, c23, c25]; done) | exact absurd (bind_no (x := st 0 0) (by assumption) (by assumption)) id) G (lv_sub hl [3, 4, 5, 6, 7, 1, 0] rfl)
                        · skip
                          exact absurd c26 (by decide)
                      · skip
                        refine lv_iconst (v := 1) hx hb dX4_bindingOf_114 (by decide) ?_
                        refine lv_goto (tgt := 119) hx hb dX4_bindingOf_115 (by decide) ?_
                        refine lv_istore (lv' := [(7, .int 1), (0, .ref (a 0)), (1, .int h), (2, .int pt), (3, .int r), (4, .int rp), (5, .int (oI f)), (6, .int (nI i))]) hx hb dX4_bindingOf_119 hl (by decide) rfl (fun ls hl => ?_)
                        refine lv_iload hx hb dX4_bindingOf_121 (lv_at hl 0 rfl) ?_
                        refine lv_if_eq (tgt := 131) hx hb dX4_bindingOf_123 (by decide) (fun c27 => ?_) (fun c27 => ?_)
                        · skip
                          exact absurd c27 (by decide)
                        · skip
                          refine lv_iload hx hb dX4_bindingOf_126 (lv_at hl 7 rfl) ?_
                          refine lv_goto (tgt := 133) hx hb dX4_bindingOf_128 (by decide) ?_
                          refine lv_istore (lv' := [(5, .int (nI i)), (7, .int 1), (0, .ref (a 0)), (1, .int h), (2, .int pt), (3, .int r), (4, .int rp), (6, .int (nI i))]) hx hb dX4_bindingOf_133 hl (by decide) rfl (fun ls hl => ?_)
                          refine lv_iinc (v := nI (i + 1)) (lv' := [(6, .int (nI (i + 1))), (5, .int (nI i)), (7, .int 1), (0, .ref (a 0)), (1, .int h), (2, .int pt), (3, .int r), (4, .int rp)]) hx hb dX4_bindingOf_135 hl (k := 7) rfl (nI_inc _) (by decide) rfl (fun ls hl => ?_)
                          refine lv_goto (tgt := 7) hx hb dX4_bindingOf_138 (by decide) ?_
                          exact ih7 (i + 1) (some i) _ _ ls (by omega) (by first | (rw [← hR]; simp [lF, bindP, c2, c3, c7, c12, c19, c23, c25]; done) | exact absurd (bind_no (x := st 0 0) (by assumption) (by assumption)) id) G (lv_sub hl [3, 4, 5, 6, 7, 1, 0] rfl)
  exact LP7 16 0 none _ _ ls (by omega) rfl G (lv_sub hl [2, 3, 4, 5, 6, 1, 0] rfl)
set_option maxHeartbeats 1000000 in
set_option maxRecDepth 100000 in
theorem c_X4_blockOf (l : Launch) (E : EE) (a : Nat → Nat) (st : St) (w : va_W) (b : Nat) (hb : b < 4) : Ct l yX4_blockOf cX4_blockOf 4 (some .int) 1 E [.ref (a 0), .int (nI b)] (wM E a st w) (blockM st b) (wM E a st w) := by
  refine Ct_mk RX4 rfl (by decide +kernel) (Nat.le_of_ble_eq_true rfl) ?_
  intro p e s m below meth c A ls X hr G hl
  have hl : lv_has ls 4 [(0, .ref (a 0)), (1, .int (nI b))] := hl
  obtain ⟨hx, hb, hml, hown, hts, hK, hA, hlocks⟩ := id X
  refine lv_bipush (v := (-6)) hx hb dX4_blockOf_0 (by decide) ?_
  refine lv_istore_n (lv' := [(2, .int (-6)), (0, .ref (a 0)), (1, .int (nI b))]) hx hb dX4_blockOf_2 rfl hl (by decide) rfl (fun ls hl => ?_)
  refine lv_iconst (v := 4) hx hb dX4_blockOf_3 (by decide) ?_
  refine lv_iload_n hx hb dX4_blockOf_4 rfl (lv_at hl 2 rfl) ?_
  refine n_imul 4 b rfl rfl hx hb dX4_blockOf_5 ?_
  refine lv_istore_n (lv' := [(3, .int (nI (4 * b))), (2, .int (-6)), (0, .ref (a 0)), (1, .int (nI b))]) hx hb dX4_blockOf_6 rfl hl (by decide) rfl (fun ls hl => ?_)
  have LP7 : ∀ (n i : Nat) (x : Int32) (H : Heap) (locs : List Loc) (ls : Array Slot), (i + n = 4 * b + 4) → (blkF st n i x = blockM st b) → Gw E A s (wM E a st w) H locs → lv_has ls 4 [(0, .ref (a 0)), (1, .int (nI b)), (2, .int x), (3, .int (nI i))] → W p l e (rmD 1) s m ([.ref (a 0), .int (nI b)] : List Value).toArray below meth c H locs 0 0 (MQ below (CtQ E A (blockM st b) (wM E a st w)) ([.ref (a 0), .int (nI b)] : List Value).toArray s 0 0 A) (F0 m 7 ls []) := by
    intro n
    induction n with
    | zero =>
      intro i x H locs ls hi hR G hl
      refine lv_iload_n hx hb dX4_blockOf_7 rfl (lv_at hl 3 rfl) ?_
      refine lv_iconst (v := 4) hx hb dX4_blockOf_8 (by decide) ?_
      refine lv_iload_n hx hb dX4_blockOf_9 rfl (lv_at hl 1 rfl) ?_
      refine n_imul 4 b rfl rfl hx hb dX4_blockOf_10 ?_
      refine lv_iconst (v := 4) hx hb dX4_blockOf_11 (by decide) ?_
      refine n_iadd (4 * b) 4 rfl rfl hx hb dX4_blockOf_12 ?_
      refine n_cmp_ge (tgt := 44) i ((4 * b) + 4) rfl rfl (by omega) (by omega) hx hb dX4_blockOf_13 (by decide) (fun c1 => ?_) (fun c1 => ?_)
      · skip
        refine lv_iload_n hx hb dX4_blockOf_44 rfl (lv_at hl 2 rfl) ?_
        exact g_iret X hr G rfl (by rw [← hR]; rfl) dX4_blockOf_45
      · skip
        exact absurd c1 (by omega)
    | succ n ih7 =>
      intro i x H locs ls hi hR G hl
      refine lv_iload_n hx hb dX4_blockOf_7 rfl (lv_at hl 3 rfl) ?_
      refine lv_iconst (v := 4) hx hb dX4_blockOf_8 (by decide) ?_
      refine lv_iload_n hx hb dX4_blockOf_9 rfl (lv_at hl 1 rfl) ?_
      refine n_imul 4 b rfl rfl hx hb dX4_blockOf_10 ?_
      refine lv_iconst (v := 4) hx hb dX4_blockOf_11 (by decide) ?_
      refine n_iadd (4 * b) 4 rfl rfl hx hb dX4_blockOf_12 ?_
      refine n_cmp_ge (tgt := 44) i ((4 * b) + 4) rfl rfl (by omega) (by omega) hx hb dX4_blockOf_13 (by decide) (fun c2 => ?_) (fun c2 => ?_)
      · skip
        exact absurd c2 (by omega)
      · skip
        refine lv_aload_n hx hb dX4_blockOf_16 rfl (lv_at hl 0 rfl) ?_
        refine lv_iload_n hx hb dX4_blockOf_17 rfl (lv_at hl 3 rfl) ?_
        refine g_callV (As := [.int (nI i)]) (rest := []) X kX4_24 (c_X4_isLent l E a st w i (by omega)) G 0 rfl rfl ⟨Nat.le_of_ble_eq_true rfl, Nat.le_of_ble_eq_true rfl⟩ ⟨Nat.le_refl _, Nat.le_refl _⟩ rfl hl.1 rfl (Nat.le_of_ble_eq_true rfl) dX4_blockOf_18 (fun H locs G => ?_)
        refine b_ifeq (tgt := 36) hx hb dX4_blockOf_21 (by decide) (fun c3 => ?_) (fun c3 => ?_)
        · skip
          refine lv_iload_n hx hb dX4_blockOf_36 rfl (lv_at hl 2 rfl) ?_
          refine lv_istore_n (lv' := [(2, .int x), (0, .ref (a 0)), (1, .int (nI b)), (3, .int (nI i))]) hx hb dX4_blockOf_37 rfl hl (by decide) rfl (fun ls hl => ?_)
          refine lv_iinc (v := nI (i + 1)) (lv' := [(3, .int (nI (i + 1))), (2, .int x), (0, .ref (a 0)), (1, .int (nI b))]) hx hb dX4_blockOf_38 hl (k := 3) rfl (nI_inc _) (by decide) rfl (fun ls hl => ?_)
          refine lv_goto (tgt := 7) hx hb dX4_blockOf_41 (by decide) ?_
          exact ih7 (i + 1) x _ _ ls (by omega) (by rw [← hR]; simp [blkF, c2, c3]) G (lv_sub hl [2, 3, 1, 0] rfl)
        · skip
          refine lv_aload_n hx hb dX4_blockOf_24 rfl (lv_at hl 0 rfl) ?_
          refine g_get X G fX4_7 0 rfl rfl dX4_blockOf_25 ?_
          refine lv_bipush (v := 7) hx hb dX4_blockOf_28 (by decide) ?_
          refine lv_iload_n hx hb dX4_blockOf_30 rfl (lv_at hl 3 rfl) ?_
          refine n_iadd 7 i rfl rfl hx hb dX4_blockOf_31 ?_
          refine g_iald (j := 7 + i) X G 1 rfl rfl (by omega) (by decide) dX4_blockOf_32 ?_
          refine lv_goto (tgt := 37) hx hb dX4_blockOf_33 (by decide) ?_
          refine lv_istore_n (lv' := [(2, .int (st 0 (7 + i))), (0, .ref (a 0)), (1, .int (nI b)), (3, .int (nI i))]) hx hb dX4_blockOf_37 rfl hl (by decide) rfl (fun ls hl => ?_)
          refine lv_iinc (v := nI (i + 1)) (lv' := [(3, .int (nI (i + 1))), (2, .int (st 0 (7 + i))), (0, .ref (a 0)), (1, .int (nI b))]) hx hb dX4_blockOf_38 hl (k := 3) rfl (nI_inc _) (by decide) rfl (fun ls hl => ?_)
          refine lv_goto (tgt := 7) hx hb dX4_blockOf_41 (by decide) ?_
          exact ih7 (i + 1) (st 0 (7 + i)) _ _ ls (by omega) (by rw [← hR]; simp [blkF, c2, c3]) G (lv_sub hl [2, 3, 1, 0] rfl)
  exact LP7 4 (4 * b) (-6) _ _ ls (by omega) rfl G (lv_sub hl [2, 3, 1, 0] rfl)
set_option maxHeartbeats 1000000 in
set_option maxRecDepth 100000 in
theorem c_X4_fits (l : Launch) (E : EE) (a : Nat → Nat) (st : St) (w : va_W) (o : Nat) (ho : o < 16) (port : Nat) (hport : port < 32) : Ct l yX4_fits cX4_fits 3 (some .boolean) 1 E [.ref (a 0), .int (nI o), .int (nI port)] (wM E a st w) (bI (fitM st o port)) (wM E a st w) := by
  refine Ct_mk RX4 rfl (by decide +kernel) (Nat.le_of_ble_eq_true rfl) ?_
  intro p e s m below meth c A ls X hr G hl
  have hl : lv_has ls 3 [(0, .ref (a 0)), (1, .int (nI o)), (2, .int (nI port))] := hl
  obtain ⟨hx, hb, hml, hown, hts, hK, hA, hlocks⟩ := id X
  refine lv_aload_n hx hb dX4_fits_0 rfl (lv_at hl 0 rfl) ?_
  refine lv_iload_n hx hb dX4_fits_1 rfl (lv_at hl 1 rfl) ?_
  refine g_callV (As := [.int (nI o)]) (rest := []) X kX4_24 (c_X4_isLent l E a st w o (by omega)) G 0 rfl rfl ⟨Nat.le_of_ble_eq_true rfl, Nat.le_of_ble_eq_true rfl⟩ ⟨Nat.le_refl _, Nat.le_refl _⟩ rfl hl.1 rfl (Nat.le_of_ble_eq_true rfl) dX4_fits_2 (fun H locs G => ?_)
  refine b_ifne (tgt := 30) hx hb dX4_fits_5 (by decide) (fun c1 => ?_) (fun c1 => ?_)
  · skip
    refine lv_iconst (v := 0) hx hb dX4_fits_30 (by decide) ?_
    exact g_ret X hr rfl G rfl (by simp [fitM, bI, c1]) dX4_fits_31
  · skip
    refine lv_aload_n hx hb dX4_fits_8 rfl (lv_at hl 0 rfl) ?_
    refine g_get X G fX4_7 0 rfl rfl dX4_fits_9 ?_
    refine lv_iconst (v := 2) hx hb dX4_fits_12 (by decide) ?_
    refine g_iald (j := 2) X G 1 rfl rfl (by omega) (by decide) dX4_fits_13 ?_
    refine lv_if_eq (tgt := 26) hx hb dX4_fits_14 (by decide) (fun c2 => ?_) (fun c2 => ?_)
    · skip
      refine lv_iconst (v := 1) hx hb dX4_fits_26 (by decide) ?_
      refine lv_goto (tgt := 31) hx hb dX4_fits_27 (by decide) ?_
      exact g_ret X hr rfl G rfl (by simp [fitM, bI, c1, c2]) dX4_fits_31
    · skip
      refine lv_iload_n hx hb dX4_fits_17 rfl (lv_at hl 1 rfl) ?_
      refine lv_iconst (v := 2) hx hb dX4_fits_18 (by decide) ?_
      refine n_irem o 2 rfl rfl (by omega) (by decide) (by decide) hx hb dX4_fits_19 ?_
      refine lv_iload_n hx hb dX4_fits_20 rfl (lv_at hl 2 rfl) ?_
      refine lv_iconst (v := 2) hx hb dX4_fits_21 (by decide) ?_
      refine n_irem port 2 rfl rfl (by omega) (by decide) (by decide) hx hb dX4_fits_22 ?_
      refine n_cmp_ne (tgt := 30) (o % 2) (port % 2) rfl rfl (by omega) (by omega) hx hb dX4_fits_23 (by decide) (fun c3 => ?_) (fun c3 => ?_)
      · skip
        refine lv_iconst (v := 0) hx hb dX4_fits_30 (by decide) ?_
        exact g_ret X hr rfl G rfl (by simp [fitM, bI, c1, c2, c3]) dX4_fits_31
      · skip
        refine lv_iconst (v := 1) hx hb dX4_fits_26 (by decide) ?_
        refine lv_goto (tgt := 31) hx hb dX4_fits_27 (by decide) ?_
        exact g_ret X hr rfl G rfl (by simp [fitM, bI, c1, c2, c3]) dX4_fits_31
set_option maxHeartbeats 1000000 in
set_option maxRecDepth 100000 in
theorem c_X4_leastOf (l : Launch) (E : EE) (a : Nat → Nat) (st : St) (w : va_W) (h : Int32) (port : Nat) (hport : port < 32) : Ct l yX4_leastOf cX4_leastOf 4 (some .int) 2 E [.ref (a 0), .int h, .int (nI port)] (wM E a st w) (oI (leastM st h port)) (wM E a st w) := by
  refine Ct_mk RX4 rfl (by decide +kernel) (Nat.le_of_ble_eq_true rfl) ?_
  intro p e s m below meth c A ls X hr G hl
  have hl : lv_has ls 4 [(0, .ref (a 0)), (1, .int h), (2, .int (nI port))] := hl
  obtain ⟨hx, hb, hml, hown, hts, hK, hA, hlocks⟩ := id X
  refine lv_iconst (v := 0) hx hb dX4_leastOf_0 (by decide) ?_
  refine lv_istore_n (lv' := [(3, .int 0), (0, .ref (a 0)), (1, .int h), (2, .int (nI port))]) hx hb dX4_leastOf_1 rfl hl (by decide) rfl (fun ls hl => ?_)
  have LP2 : ∀ (n i : Nat)  (H : Heap) (locs : List Loc) (ls : Array Slot), (i + n = 16) → (oI (fF (leastP st h port) n i) = oI (leastM st h port)) → Gw E A s (wM E a st w) H locs → lv_has ls 4 [(0, .ref (a 0)), (1, .int h), (2, .int (nI port)), (3, .int (nI i))] → W p l e (rmD 2) s m ([.ref (a 0), .int h, .int (nI port)] : List Value).toArray below meth c H locs 0 0 (MQ below (CtQ E A (oI (leastM st h port)) (wM E a st w)) ([.ref (a 0), .int h, .int (nI port)] : List Value).toArray s 0 0 A) (F0 m 2 ls []) := by
    intro n
    induction n with
    | zero =>
      intro i  H locs ls hi hR G hl
      refine lv_iload_n hx hb dX4_leastOf_2 rfl (lv_at hl 3 rfl) ?_
      refine lv_bipush (v := 16) hx hb dX4_leastOf_3 (by decide) ?_
      refine n_cmp_ge (tgt := 36) i 16 rfl rfl (by omega) (by omega) hx hb dX4_leastOf_5 (by decide) (fun c1 => ?_) (fun c1 => ?_)
      · skip
        refine lv_bipush (v := (-6)) hx hb dX4_leastOf_36 (by decide) ?_
        exact g_iret X hr G rfl (by rw [← hR]; simp [fF, leastP, oI, c1]) dX4_leastOf_38
      · skip
        exact absurd c1 (by omega)
    | succ n ih2 =>
      intro i  H locs ls hi hR G hl
      refine lv_iload_n hx hb dX4_leastOf_2 rfl (lv_at hl 3 rfl) ?_
      refine lv_bipush (v := 16) hx hb dX4_leastOf_3 (by decide) ?_
      refine n_cmp_ge (tgt := 36) i 16 rfl rfl (by omega) (by omega) hx hb dX4_leastOf_5 (by decide) (fun c2 => ?_) (fun c2 => ?_)
      · skip
        exact absurd c2 (by omega)
      · skip
        refine lv_aload_n hx hb dX4_leastOf_8 rfl (lv_at hl 0 rfl) ?_
        refine lv_iload_n hx hb dX4_leastOf_9 rfl (lv_at hl 3 rfl) ?_
        refine lv_iconst (v := 4) hx hb dX4_leastOf_10 (by decide) ?_
        refine n_idiv i 4 rfl rfl (by omega) (by decide) (by decide) hx hb dX4_leastOf_11 ?_
        refine g_callV (As := [.int (nI (i / 4))]) (rest := []) X kX4_46 (c_X4_blockOf l E a st w (i / 4) (by omega)) G 0 rfl rfl ⟨Nat.le_of_ble_eq_true rfl, Nat.le_of_ble_eq_true rfl⟩ ⟨Nat.le_refl _, Nat.le_refl _⟩ rfl hl.1 rfl (Nat.le_of_ble_eq_true rfl) dX4_leastOf_12 (fun H locs G => ?_)
        refine lv_iload_n hx hb dX4_leastOf_15 rfl (lv_at hl 1 rfl) ?_
        refine lv_icmp_ne (tgt := 30) hx hb dX4_leastOf_16 (by decide) (fun c3 => ?_) (fun c3 => ?_)
        · skip
          refine lv_iinc (v := nI (i + 1)) (lv' := [(3, .int (nI (i + 1))), (0, .ref (a 0)), (1, .int h), (2, .int (nI port))]) hx hb dX4_leastOf_30 hl (k := 3) rfl (nI_inc _) (by decide) rfl (fun ls hl => ?_)
          refine lv_goto (tgt := 2) hx hb dX4_leastOf_33 (by decide) ?_
          exact ih2 (i + 1)  _ _ ls (by omega) (by rw [← hR]; simp [fF, leastP, c2, c3]) G (lv_sub hl [1, 2, 3, 0] rfl)
        · skip
          refine lv_aload_n hx hb dX4_leastOf_19 rfl (lv_at hl 0 rfl) ?_
          refine lv_iload_n hx hb dX4_leastOf_20 rfl (lv_at hl 3 rfl) ?_
          refine lv_iload_n hx hb dX4_leastOf_21 rfl (lv_at hl 2 rfl) ?_
          refine g_callV (As := [.int (nI i), .int (nI port)]) (rest := []) X kX4_49 (c_X4_fits l E a st w i (by omega) port (by omega)) G 0 rfl rfl ⟨Nat.le_of_ble_eq_true rfl, Nat.le_of_ble_eq_true rfl⟩ ⟨Nat.le_refl _, Nat.le_refl _⟩ rfl hl.1 rfl (Nat.le_of_ble_eq_true rfl) dX4_leastOf_22 (fun H locs G => ?_)
          refine b_ifeq (tgt := 30) hx hb dX4_leastOf_25 (by decide) (fun c4 => ?_) (fun c4 => ?_)
          · skip
            refine lv_iinc (v := nI (i + 1)) (lv' := [(3, .int (nI (i + 1))), (0, .ref (a 0)), (1, .int h), (2, .int (nI port))]) hx hb dX4_leastOf_30 hl (k := 3) rfl (nI_inc _) (by decide) rfl (fun ls hl => ?_)
            refine lv_goto (tgt := 2) hx hb dX4_leastOf_33 (by decide) ?_
            exact ih2 (i + 1)  _ _ ls (by omega) (by rw [← hR]; simp [fF, leastP, c2, c3, c4]) G (lv_sub hl [1, 2, 3, 0] rfl)
          · skip
            refine lv_iload_n hx hb dX4_leastOf_28 rfl (lv_at hl 3 rfl) ?_
            exact g_iret X hr G rfl (by rw [← hR]; simp [fF, leastP, oI, c2, c3, c4]) dX4_leastOf_29
  exact LP2 16 0  _ _ ls (by omega) rfl G (lv_sub hl [1, 2, 3, 0] rfl)
set_option maxHeartbeats 1000000 in
set_option maxRecDepth 100000 in
theorem c_X4_chosen (l : Launch) (E : EE) (a : Nat → Nat) (st : St) (w : va_W) (h : Int32) (port : Nat) (hport : port < 32) : Ct l yX4_chosen cX4_chosen 5 (some .int) 3 E [.ref (a 0), .int h, .int (nI port)] (wM E a st w) (oI (chosenM st h port)) (wM E a st w) := by
  refine Ct_mk RX4 rfl (by decide +kernel) (Nat.le_of_ble_eq_true rfl) ?_
  intro p e s m below meth c A ls X hr G hl
  have hl : lv_has ls 5 [(0, .ref (a 0)), (1, .int h), (2, .int (nI port))] := hl
  obtain ⟨hx, hb, hml, hown, hts, hK, hA, hlocks⟩ := id X
  refine lv_iload_n hx hb dX4_chosen_0 rfl (lv_at hl 2 rfl) ?_
  refine lv_bipush (v := 16) hx hb dX4_chosen_1 (by decide) ?_
  refine n_irem port 16 rfl rfl (by omega) (by decide) (by decide) hx hb dX4_chosen_3 ?_
  refine lv_istore_n (lv' := [(3, .int (nI (port % 16))), (0, .ref (a 0)), (1, .int h), (2, .int (nI port))]) hx hb dX4_chosen_4 rfl hl (by decide) rfl (fun ls hl => ?_)
  refine lv_aload_n hx hb dX4_chosen_5 rfl (lv_at hl 1 rfl) ?_
  refine lv_iload_n hx hb dX4_chosen_6 rfl (lv_at hl 0 rfl) ?_
  refine lv_iconst (v := 4) hx hb dX4_chosen_7 (by decide) ?_
  refine n_idiv (port % 16) 4 rfl rfl (by omega) (by decide) (by decide) hx hb dX4_chosen_8 ?_
  refine g_callV (As := [.int (nI ((port % 16) / 4))]) (rest := []) X kX4_46 (c_X4_blockOf l E a st w ((port % 16) / 4) (by omega)) G 0 rfl rfl ⟨Nat.le_of_ble_eq_true rfl, Nat.le_of_ble_eq_true rfl⟩ ⟨Nat.le_refl _, Nat.le_refl _⟩ rfl hl.1 rfl (Nat.le_of_ble_eq_true rfl) dX4_chosen_9 (fun H locs G => ?_)
  refine lv_iload_n hx hb dX4_chosen_12 rfl (lv_at hl 2 rfl) ?_
  refine lv_icmp_ne (tgt := 27) hx hb dX4_chosen_13 (by decide) (fun c1 => ?_) (fun c1 => ?_)
  · skip
    refine lv_aload_n hx hb dX4_chosen_27 rfl (lv_at hl 1 rfl) ?_
    refine lv_iload_n hx hb dX4_chosen_28 rfl (lv_at hl 2 rfl) ?_
    refine lv_iload_n hx hb dX4_chosen_29 rfl (lv_at hl 3 rfl) ?_
    refine g_callV (As := [.int h, .int (nI port)]) (rest := []) X kX4_53 (c_X4_leastOf l E a st w h port (by omega)) G 0 rfl rfl ⟨Nat.le_of_ble_eq_true rfl, Nat.le_of_ble_eq_true rfl⟩ ⟨Nat.le_refl _, Nat.le_refl _⟩ rfl hl.1 rfl (Nat.le_of_ble_eq_true rfl) dX4_chosen_30 (fun H locs G => ?_)
    refine o_split (fun c3 => ?_) (fun j2 c4 => ?_)
    · skip
      refine lv_istore (lv' := [(4, .int (-6)), (3, .int (nI (port % 16))), (0, .ref (a 0)), (1, .int h), (2, .int (nI port))]) hx hb dX4_chosen_33 hl (by decide) rfl (fun ls hl => ?_)
      refine lv_iload hx hb dX4_chosen_35 (lv_at hl 0 rfl) ?_
      refine lv_if_lt (tgt := 43) hx hb dX4_chosen_37 (by decide) (fun c5 => ?_) (fun c5 => ?_)
      · skip
        refine lv_aload_n hx hb dX4_chosen_43 rfl (lv_at hl 2 rfl) ?_
        refine lv_iload_n hx hb dX4_chosen_44 rfl (lv_at hl 1 rfl) ?_
        refine lv_iconst (v := 4) hx hb dX4_chosen_45 (by decide) ?_
        refine n_idiv (port % 16) 4 rfl rfl (by omega) (by decide) (by decide) hx hb dX4_chosen_46 ?_
        refine g_callV (As := [.int (nI ((port % 16) / 4))]) (rest := []) X kX4_46 (c_X4_blockOf l E a st w ((port % 16) / 4) (by omega)) G 0 rfl rfl ⟨Nat.le_of_ble_eq_true rfl, Nat.le_of_ble_eq_true rfl⟩ ⟨Nat.le_refl _, Nat.le_refl _⟩ rfl hl.1 rfl (Nat.le_of_ble_eq_true rfl) dX4_chosen_47 (fun H locs G => ?_)
        refine lv_bipush (v := (-6)) hx hb dX4_chosen_50 (by decide) ?_
        refine lv_icmp_ne (tgt := 59) hx hb dX4_chosen_52 (by decide) (fun c6 => ?_) (fun c6 => ?_)
        · skip
          refine lv_aload_n hx hb dX4_chosen_59 rfl (lv_at hl 2 rfl) ?_
          refine lv_bipush (v := (-6)) hx hb dX4_chosen_60 (by decide) ?_
          refine lv_iload_n hx hb dX4_chosen_62 rfl (lv_at hl 4 rfl) ?_
          refine g_callV (As := [.int (-6), .int (nI port)]) (rest := []) X kX4_53 (c_X4_leastOf l E a st w (-6) port (by omega)) G 0 rfl rfl ⟨Nat.le_of_ble_eq_true rfl, Nat.le_of_ble_eq_true rfl⟩ ⟨Nat.le_refl _, Nat.le_refl _⟩ rfl hl.1 rfl (Nat.le_of_ble_eq_true rfl) dX4_chosen_63 (fun H locs G => ?_)
          refine o_split (fun c8 => ?_) (fun j7 c9 => ?_)
          · skip
            exact g_iret X hr G rfl (by first | (simp [chosenM, oI, c1, c3, c6, c8]; done) | (subst c1; simp [chosenM, oI, c3, c6, c8]; done) | (clear G hl X hr hK hts; simp_all [chosenM, oI]; done)) dX4_chosen_66
          · skip
            have bj7 : j7 < 16 := leastM_lt c9
            exact g_iret X hr G rfl (by first | (simp [chosenM, oI, c1, c3, c6, c9]; done) | (subst c1; simp [chosenM, oI, c3, c6, c9]; done) | (clear G hl X hr hK hts; simp_all [chosenM, oI]; done)) dX4_chosen_66
        · skip
          refine lv_iload_n hx hb dX4_chosen_55 rfl (lv_at hl 1 rfl) ?_
          refine lv_goto (tgt := 66) hx hb dX4_chosen_56 (by decide) ?_
          exact g_iret X hr G rfl (by first | (simp [chosenM, oI, c1, c3, c6]; done) | (subst c1; simp [chosenM, oI, c3, c6]; done) | (clear G hl X hr hK hts; simp_all [chosenM, oI]; done)) dX4_chosen_66
      · skip
        exact absurd c5 (by decide)
    · skip
      have bj2 : j2 < 16 := leastM_lt c4
      refine lv_istore (lv' := [(4, .int (nI j2)), (3, .int (nI (port % 16))), (0, .ref (a 0)), (1, .int h), (2, .int (nI port))]) hx hb dX4_chosen_33 hl (by decide) rfl (fun ls hl => ?_)
      refine lv_iload hx hb dX4_chosen_35 (lv_at hl 0 rfl) ?_
      refine lv_if_lt (tgt := 43) hx hb dX4_chosen_37 (by decide) (fun c10 => ?_) (fun c10 => ?_)
      · skip
        exact absurd c10 (by simp [nI_cz, nI_pos', show j2 < 2 ^ 31 by omega])
      · skip
        refine lv_iload hx hb dX4_chosen_40 (lv_at hl 0 rfl) ?_
        exact g_iret X hr G rfl (by first | (simp [chosenM, oI, c1, c4]; done) | (subst c1; simp [chosenM, oI, c4]; done) | (clear G hl X hr hK hts; simp_all [chosenM, oI]; done)) dX4_chosen_42
  · skip
    refine lv_aload_n hx hb dX4_chosen_16 rfl (lv_at hl 1 rfl) ?_
    refine lv_iload_n hx hb dX4_chosen_17 rfl (lv_at hl 0 rfl) ?_
    refine lv_iload_n hx hb dX4_chosen_18 rfl (lv_at hl 3 rfl) ?_
    refine g_callV (As := [.int (nI (port % 16)), .int (nI port)]) (rest := []) X kX4_49 (c_X4_fits l E a st w (port % 16) (by omega) port (by omega)) G 0 rfl rfl ⟨Nat.le_of_ble_eq_true rfl, Nat.le_of_ble_eq_true rfl⟩ ⟨Nat.le_refl _, Nat.le_refl _⟩ rfl hl.1 rfl (Nat.le_of_ble_eq_true rfl) dX4_chosen_19 (fun H locs G => ?_)
    refine b_ifeq (tgt := 27) hx hb dX4_chosen_22 (by decide) (fun c11 => ?_) (fun c11 => ?_)
    · skip
      refine lv_aload_n hx hb dX4_chosen_27 rfl (lv_at hl 1 rfl) ?_
      refine lv_iload_n hx hb dX4_chosen_28 rfl (lv_at hl 2 rfl) ?_
      refine lv_iload_n hx hb dX4_chosen_29 rfl (lv_at hl 3 rfl) ?_
      refine g_callV (As := [.int h, .int (nI port)]) (rest := []) X kX4_53 (c_X4_leastOf l E a st w h port (by omega)) G 0 rfl rfl ⟨Nat.le_of_ble_eq_true rfl, Nat.le_of_ble_eq_true rfl⟩ ⟨Nat.le_refl _, Nat.le_refl _⟩ rfl hl.1 rfl (Nat.le_of_ble_eq_true rfl) dX4_chosen_30 (fun H locs G => ?_)
      refine o_split (fun c13 => ?_) (fun j12 c14 => ?_)
      · skip
        refine lv_istore (lv' := [(4, .int (-6)), (3, .int (nI (port % 16))), (0, .ref (a 0)), (1, .int h), (2, .int (nI port))]) hx hb dX4_chosen_33 hl (by decide) rfl (fun ls hl => ?_)
        refine lv_iload hx hb dX4_chosen_35 (lv_at hl 0 rfl) ?_
        refine lv_if_lt (tgt := 43) hx hb dX4_chosen_37 (by decide) (fun c15 => ?_) (fun c15 => ?_)
        · skip
          refine lv_aload_n hx hb dX4_chosen_43 rfl (lv_at hl 2 rfl) ?_
          refine lv_iload_n hx hb dX4_chosen_44 rfl (lv_at hl 1 rfl) ?_
          refine lv_iconst (v := 4) hx hb dX4_chosen_45 (by decide) ?_
          refine n_idiv (port % 16) 4 rfl rfl (by omega) (by decide) (by decide) hx hb dX4_chosen_46 ?_
          refine g_callV (As := [.int (nI ((port % 16) / 4))]) (rest := []) X kX4_46 (c_X4_blockOf l E a st w ((port % 16) / 4) (by omega)) G 0 rfl rfl ⟨Nat.le_of_ble_eq_true rfl, Nat.le_of_ble_eq_true rfl⟩ ⟨Nat.le_refl _, Nat.le_refl _⟩ rfl hl.1 rfl (Nat.le_of_ble_eq_true rfl) dX4_chosen_47 (fun H locs G => ?_)
          refine lv_bipush (v := (-6)) hx hb dX4_chosen_50 (by decide) ?_
          refine lv_icmp_ne (tgt := 59) hx hb dX4_chosen_52 (by decide) (fun c16 => ?_) (fun c16 => ?_)
          · skip
            refine lv_aload_n hx hb dX4_chosen_59 rfl (lv_at hl 2 rfl) ?_
            refine lv_bipush (v := (-6)) hx hb dX4_chosen_60 (by decide) ?_
            refine lv_iload_n hx hb dX4_chosen_62 rfl (lv_at hl 4 rfl) ?_
            refine g_callV (As := [.int (-6), .int (nI port)]) (rest := []) X kX4_53 (c_X4_leastOf l E a st w (-6) port (by omega)) G 0 rfl rfl ⟨Nat.le_of_ble_eq_true rfl, Nat.le_of_ble_eq_true rfl⟩ ⟨Nat.le_refl _, Nat.le_refl _⟩ rfl hl.1 rfl (Nat.le_of_ble_eq_true rfl) dX4_chosen_63 (fun H locs G => ?_)
            refine o_split (fun c18 => ?_) (fun j17 c19 => ?_)
            · skip
              exact g_iret X hr G rfl (by first | (simp [chosenM, oI, c1, c11, c13, c16, c18]; done) | (subst c1; simp [chosenM, oI, c11, c13, c16, c18]; done) | (clear G hl X hr hK hts; simp_all [chosenM, oI]; done)) dX4_chosen_66
            · skip
              have bj17 : j17 < 16 := leastM_lt c19
              exact g_iret X hr G rfl (by first | (simp [chosenM, oI, c1, c11, c13, c16, c19]; done) | (subst c1; simp [chosenM, oI, c11, c13, c16, c19]; done) | (clear G hl X hr hK hts; simp_all [chosenM, oI]; done)) dX4_chosen_66
          · skip
            refine lv_iload_n hx hb dX4_chosen_55 rfl (lv_at hl 1 rfl) ?_
            refine lv_goto (tgt := 66) hx hb dX4_chosen_56 (by decide) ?_
            exact g_iret X hr G rfl (by first | (simp [chosenM, oI, c1, c11, c13, c16]; done) | (subst c1; simp [chosenM, oI, c11, c13, c16]; done) | (clear G hl X hr hK hts; simp_all [chosenM, oI]; done)) dX4_chosen_66
        · skip
          exact absurd c15 (by decide)
      · skip
        have bj12 : j12 < 16 := leastM_lt c14
        refine lv_istore (lv' := [(4, .int (nI j12)), (3, .int (nI (port % 16))), (0, .ref (a 0)), (1, .int h), (2, .int (nI port))]) hx hb dX4_chosen_33 hl (by decide) rfl (fun ls hl => ?_)
        refine lv_iload hx hb dX4_chosen_35 (lv_at hl 0 rfl) ?_
        refine lv_if_lt (tgt := 43) hx hb dX4_chosen_37 (by decide) (fun c20 => ?_) (fun c20 => ?_)
        · skip
          exact absurd c20 (by simp [nI_cz, nI_pos', show j12 < 2 ^ 31 by omega])
        · skip
          refine lv_iload hx hb dX4_chosen_40 (lv_at hl 0 rfl) ?_
          exact g_iret X hr G rfl (by first | (simp [chosenM, oI, c1, c11, c14]; done) | (subst c1; simp [chosenM, oI, c11, c14]; done) | (clear G hl X hr hK hts; simp_all [chosenM, oI]; done)) dX4_chosen_42
    · skip
      refine lv_iload_n hx hb dX4_chosen_25 rfl (lv_at hl 0 rfl) ?_
      exact g_iret X hr G rfl (by first | (simp [chosenM, oI, c1, c11]; done) | (subst c1; simp [chosenM, oI, c11]; done) | (clear G hl X hr hK hts; simp_all [chosenM, oI]; done)) dX4_chosen_26
set_option maxHeartbeats 1000000 in
set_option maxRecDepth 100000 in
theorem c_X4_make (l : Launch) (E : EE) (a : Nat → Nat) (st : St) (w : va_W) (o : Nat) (ho : o < 16) (h : Int32) (pt : Int32) (r : Int32) (rp : Int32) : Cv l yX4_make cX4_make 7 0 E [.ref (a 0), .int (nI o), .int h, .int pt, .int r, .int rp] (wM E a st w) (wM E a (makeM st o h pt r rp) w) := by
  refine Cv_mk RX4 rfl (by decide +kernel) (Nat.le_of_ble_eq_true rfl) ?_
  intro p e s m below meth c A ls X hr G hl
  have hl : lv_has ls 7 [(0, .ref (a 0)), (1, .int (nI o)), (2, .int h), (3, .int pt), (4, .int r), (5, .int rp)] := hl
  obtain ⟨hx, hb, hml, hown, hts, hK, hA, hlocks⟩ := id X
  refine lv_aload_n hx hb dX4_make_0 rfl (lv_at hl 0 rfl) ?_
  refine g_get X G fX4_7 0 rfl rfl dX4_make_1 ?_
  refine lv_bipush (v := 7) hx hb dX4_make_4 (by decide) ?_
  refine lv_iload_n hx hb dX4_make_6 rfl (lv_at hl 1 rfl) ?_
  refine n_iadd 7 o rfl rfl hx hb dX4_make_7 ?_
  refine lv_iload_n hx hb dX4_make_8 rfl (lv_at hl 2 rfl) ?_
  refine g_iast (j := 7 + o) X G 1 rfl rfl (by omega) (by decide) dX4_make_9 (fun H locs G => ?_)
  have G : Gw E A s (wM E a (sU st 0 (7 + o) h) w) H locs := G
  refine lv_aload_n hx hb dX4_make_10 rfl (lv_at hl 0 rfl) ?_
  refine g_get X G fX4_7 0 rfl rfl dX4_make_11 ?_
  refine lv_bipush (v := 23) hx hb dX4_make_14 (by decide) ?_
  refine lv_iload_n hx hb dX4_make_16 rfl (lv_at hl 1 rfl) ?_
  refine n_iadd 23 o rfl rfl hx hb dX4_make_17 ?_
  refine lv_iload_n hx hb dX4_make_18 rfl (lv_at hl 3 rfl) ?_
  refine g_iast (j := 23 + o) X G 1 rfl rfl (by omega) (by decide) dX4_make_19 (fun H locs G => ?_)
  have G : Gw E A s (wM E a (sU (sU st 0 (7 + o) h) 0 (23 + o) pt) w) H locs := G
  refine lv_aload_n hx hb dX4_make_20 rfl (lv_at hl 0 rfl) ?_
  refine g_get X G fX4_7 0 rfl rfl dX4_make_21 ?_
  refine lv_bipush (v := 39) hx hb dX4_make_24 (by decide) ?_
  refine lv_iload_n hx hb dX4_make_26 rfl (lv_at hl 1 rfl) ?_
  refine n_iadd 39 o rfl rfl hx hb dX4_make_27 ?_
  refine lv_aload_n hx hb dX4_make_28 rfl (lv_at hl 0 rfl) ?_
  refine g_get X G fX4_7 0 rfl rfl dX4_make_29 ?_
  refine lv_iconst (v := 0) hx hb dX4_make_32 (by decide) ?_
  refine g_iald (j := 0) X G 1 rfl rfl (by omega) (by decide) dX4_make_33 ?_
  refine lv_if_le (tgt := 42) hx hb dX4_make_34 (by decide) (fun c1 => ?_) (fun c1 => ?_)
  · skip
    refine lv_bipush (v := (-6)) hx hb dX4_make_42 (by decide) ?_
    refine g_iast (j := 39 + o) X G 1 rfl rfl (by omega) (by decide) dX4_make_44 (fun H locs G => ?_)
    have G : Gw E A s (wM E a (sU (sU (sU st 0 (7 + o) h) 0 (23 + o) pt) 0 (39 + o) (-6)) w) H locs := G
    refine lv_aload_n hx hb dX4_make_45 rfl (lv_at hl 0 rfl) ?_
    refine g_get X G fX4_7 0 rfl rfl dX4_make_46 ?_
    refine lv_bipush (v := 55) hx hb dX4_make_49 (by decide) ?_
    refine lv_iload_n hx hb dX4_make_51 rfl (lv_at hl 1 rfl) ?_
    refine n_iadd 55 o rfl rfl hx hb dX4_make_52 ?_
    refine lv_aload_n hx hb dX4_make_53 rfl (lv_at hl 0 rfl) ?_
    refine g_get X G fX4_7 0 rfl rfl dX4_make_54 ?_
    refine lv_iconst (v := 0) hx hb dX4_make_57 (by decide) ?_
    refine g_iald (j := 0) X G 1 rfl rfl (by omega) (by decide) dX4_make_58 ?_
    refine lv_iconst (v := 1) hx hb dX4_make_59 (by decide) ?_
    refine lv_icmp_le (tgt := 68) hx hb dX4_make_60 (by decide) (fun c2 => ?_) (fun c2 => ?_)
    · skip
      refine lv_bipush (v := (-6)) hx hb dX4_make_68 (by decide) ?_
      refine g_iast (j := 55 + o) X G 1 rfl rfl (by omega) (by decide) dX4_make_70 (fun H locs G => ?_)
      have G : Gw E A s (wM E a (sU (sU (sU (sU st 0 (7 + o) h) 0 (23 + o) pt) 0 (39 + o) (-6)) 0 (55 + o) (-6)) w) H locs := G
      refine lv_aload_n hx hb dX4_make_71 rfl (lv_at hl 0 rfl) ?_
      refine g_get X G fX4_7 0 rfl rfl dX4_make_72 ?_
      refine lv_bipush (v := 71) hx hb dX4_make_75 (by decide) ?_
      refine lv_iload_n hx hb dX4_make_77 rfl (lv_at hl 1 rfl) ?_
      refine n_iadd 71 o rfl rfl hx hb dX4_make_78 ?_
      refine lv_iconst (v := 0) hx hb dX4_make_79 (by decide) ?_
      refine g_iast (j := 71 + o) X G 1 rfl rfl (by omega) (by decide) dX4_make_80 (fun H locs G => ?_)
      have G : Gw E A s (wM E a (sU (sU (sU (sU (sU st 0 (7 + o) h) 0 (23 + o) pt) 0 (39 + o) (-6)) 0 (55 + o) (-6)) 0 (71 + o) 0) w) H locs := G
      refine lv_iconst (v := 0) hx hb dX4_make_81 (by decide) ?_
      refine lv_istore (lv' := [(6, .int 0), (0, .ref (a 0)), (1, .int (nI o)), (2, .int h), (3, .int pt), (4, .int r), (5, .int rp)]) hx hb dX4_make_82 hl (by decide) rfl (fun ls hl => ?_)
      have LP84 : ∀ (n i : Nat) (sx : St) (H : Heap) (locs : List Loc) (ls : Array Slot), (i + n = 5) → (iF (zero5M o) n i sx = makeM st o h pt r rp) → Gw E A s (wM E a sx w) H locs → lv_has ls 7 [(0, .ref (a 0)), (1, .int (nI o)), (6, .int (nI i))] → W p l e (rmD 0) s m ([.ref (a 0), .int (nI o), .int h, .int pt, .int r, .int rp] : List Value).toArray below meth c H locs 0 0 (MQ below (CvQ E A (wM E a (makeM st o h pt r rp) w)) ([.ref (a 0), .int (nI o), .int h, .int pt, .int r, .int rp] : List Value).toArray s 0 0 A) (F0 m 84 ls []) := by
        intro n
        induction n with
        | zero =>
          intro i sx H locs ls hi hR G hl
          refine lv_iload hx hb dX4_make_84 (lv_at hl 2 rfl) ?_
          refine lv_iconst (v := 4) hx hb dX4_make_86 (by decide) ?_
          refine n_cmp_gt (tgt := 111) i 4 rfl rfl (by omega) (by omega) hx hb dX4_make_87 (by decide) (fun c3 => ?_) (fun c3 => ?_)
          · skip
            exact g_vret X hr G (congrArg (fun z => wM E a z w) (by rw [← hR]; rfl)) dX4_make_111
          · skip
            exact absurd c3 (by omega)
        | succ n ih84 =>
          intro i sx H locs ls hi hR G hl
          refine lv_iload hx hb dX4_make_84 (lv_at hl 2 rfl) ?_
          refine lv_iconst (v := 4) hx hb dX4_make_86 (by decide) ?_
          refine n_cmp_gt (tgt := 111) i 4 rfl rfl (by omega) (by omega) hx hb dX4_make_87 (by decide) (fun c4 => ?_) (fun c4 => ?_)
          · skip
            exact absurd c4 (by omega)
          · skip
            refine lv_aload_n hx hb dX4_make_90 rfl (lv_at hl 0 rfl) ?_
            refine g_get X G fX4_7 0 rfl rfl dX4_make_91 ?_
            refine lv_bipush (v := 103) hx hb dX4_make_94 (by decide) ?_
            refine lv_iconst (v := 5) hx hb dX4_make_96 (by decide) ?_
            refine lv_iload_n hx hb dX4_make_97 rfl (lv_at hl 1 rfl) ?_
            refine n_imul 5 o rfl rfl hx hb dX4_make_98 ?_
            refine n_iadd 103 (5 * o) rfl rfl hx hb dX4_make_99 ?_
            refine lv_iload hx hb dX4_make_100 (lv_at hl 2 rfl) ?_
            refine n_iadd (103 + (5 * o)) i rfl rfl hx hb dX4_make_102 ?_
            refine lv_iconst (v := 0) hx hb dX4_make_103 (by decide) ?_
            refine g_iast (j := (103 + (5 * o)) + i) X G 1 rfl rfl (by omega) (by decide) dX4_make_104 (fun H locs G => ?_)
            have G : Gw E A s (wM E a (sU sx 0 ((103 + (5 * o)) + i) 0) w) H locs := G
            refine lv_iinc (v := nI (i + 1)) (lv' := [(6, .int (nI (i + 1))), (0, .ref (a 0)), (1, .int (nI o))]) hx hb dX4_make_105 hl (k := 2) rfl (nI_inc _) (by decide) rfl (fun ls hl => ?_)
            refine lv_goto (tgt := 84) hx hb dX4_make_108 (by decide) ?_
            exact ih84 (i + 1) (sU sx 0 ((103 + (5 * o)) + i) 0) _ _ ls (by omega) (by rw [← hR]; rfl) G (lv_sub hl [1, 2, 0] rfl)
      exact LP84 5 0 (sU (sU (sU (sU (sU st 0 (7 + o) h) 0 (23 + o) pt) 0 (39 + o) (-6)) 0 (55 + o) (-6)) 0 (71 + o) 0) _ _ ls (by omega) (by simp [makeM, make1, make2, make3, c1, c2]) G (lv_sub hl [1, 2, 0] rfl)
    · skip
      refine lv_iload hx hb dX4_make_63 (lv_at hl 5 rfl) ?_
      refine lv_goto (tgt := 70) hx hb dX4_make_65 (by decide) ?_
      refine g_iast (j := 55 + o) X G 1 rfl rfl (by omega) (by decide) dX4_make_70 (fun H locs G => ?_)
      have G : Gw E A s (wM E a (sU (sU (sU (sU st 0 (7 + o) h) 0 (23 + o) pt) 0 (39 + o) (-6)) 0 (55 + o) rp) w) H locs := G
      refine lv_aload_n hx hb dX4_make_71 rfl (lv_at hl 0 rfl) ?_
      refine g_get X G fX4_7 0 rfl rfl dX4_make_72 ?_
      refine lv_bipush (v := 71) hx hb dX4_make_75 (by decide) ?_
      refine lv_iload_n hx hb dX4_make_77 rfl (lv_at hl 1 rfl) ?_
      refine n_iadd 71 o rfl rfl hx hb dX4_make_78 ?_
      refine lv_iconst (v := 0) hx hb dX4_make_79 (by decide) ?_
      refine g_iast (j := 71 + o) X G 1 rfl rfl (by omega) (by decide) dX4_make_80 (fun H locs G => ?_)
      have G : Gw E A s (wM E a (sU (sU (sU (sU (sU st 0 (7 + o) h) 0 (23 + o) pt) 0 (39 + o) (-6)) 0 (55 + o) rp) 0 (71 + o) 0) w) H locs := G
      refine lv_iconst (v := 0) hx hb dX4_make_81 (by decide) ?_
      refine lv_istore (lv' := [(6, .int 0), (0, .ref (a 0)), (1, .int (nI o)), (2, .int h), (3, .int pt), (4, .int r), (5, .int rp)]) hx hb dX4_make_82 hl (by decide) rfl (fun ls hl => ?_)
      have LP84 : ∀ (n i : Nat) (sx : St) (H : Heap) (locs : List Loc) (ls : Array Slot), (i + n = 5) → (iF (zero5M o) n i sx = makeM st o h pt r rp) → Gw E A s (wM E a sx w) H locs → lv_has ls 7 [(0, .ref (a 0)), (1, .int (nI o)), (6, .int (nI i))] → W p l e (rmD 0) s m ([.ref (a 0), .int (nI o), .int h, .int pt, .int r, .int rp] : List Value).toArray below meth c H locs 0 0 (MQ below (CvQ E A (wM E a (makeM st o h pt r rp) w)) ([.ref (a 0), .int (nI o), .int h, .int pt, .int r, .int rp] : List Value).toArray s 0 0 A) (F0 m 84 ls []) := by
        intro n
        induction n with
        | zero =>
          intro i sx H locs ls hi hR G hl
          refine lv_iload hx hb dX4_make_84 (lv_at hl 2 rfl) ?_
          refine lv_iconst (v := 4) hx hb dX4_make_86 (by decide) ?_
          refine n_cmp_gt (tgt := 111) i 4 rfl rfl (by omega) (by omega) hx hb dX4_make_87 (by decide) (fun c5 => ?_) (fun c5 => ?_)
          · skip
            exact g_vret X hr G (congrArg (fun z => wM E a z w) (by rw [← hR]; rfl)) dX4_make_111
          · skip
            exact absurd c5 (by omega)
        | succ n ih84 =>
          intro i sx H locs ls hi hR G hl
          refine lv_iload hx hb dX4_make_84 (lv_at hl 2 rfl) ?_
          refine lv_iconst (v := 4) hx hb dX4_make_86 (by decide) ?_
          refine n_cmp_gt (tgt := 111) i 4 rfl rfl (by omega) (by omega) hx hb dX4_make_87 (by decide) (fun c6 => ?_) (fun c6 => ?_)
          · skip
            exact absurd c6 (by omega)
          · skip
            refine lv_aload_n hx hb dX4_make_90 rfl (lv_at hl 0 rfl) ?_
            refine g_get X G fX4_7 0 rfl rfl dX4_make_91 ?_
            refine lv_bipush (v := 103) hx hb dX4_make_94 (by decide) ?_
            refine lv_iconst (v := 5) hx hb dX4_make_96 (by decide) ?_
            refine lv_iload_n hx hb dX4_make_97 rfl (lv_at hl 1 rfl) ?_
            refine n_imul 5 o rfl rfl hx hb dX4_make_98 ?_
            refine n_iadd 103 (5 * o) rfl rfl hx hb dX4_make_99 ?_
            refine lv_iload hx hb dX4_make_100 (lv_at hl 2 rfl) ?_
            refine n_iadd (103 + (5 * o)) i rfl rfl hx hb dX4_make_102 ?_
            refine lv_iconst (v := 0) hx hb dX4_make_103 (by decide) ?_
            refine g_iast (j := (103 + (5 * o)) + i) X G 1 rfl rfl (by omega) (by decide) dX4_make_104 (fun H locs G => ?_)
            have G : Gw E A s (wM E a (sU sx 0 ((103 + (5 * o)) + i) 0) w) H locs := G
            refine lv_iinc (v := nI (i + 1)) (lv' := [(6, .int (nI (i + 1))), (0, .ref (a 0)), (1, .int (nI o))]) hx hb dX4_make_105 hl (k := 2) rfl (nI_inc _) (by decide) rfl (fun ls hl => ?_)
            refine lv_goto (tgt := 84) hx hb dX4_make_108 (by decide) ?_
            exact ih84 (i + 1) (sU sx 0 ((103 + (5 * o)) + i) 0) _ _ ls (by omega) (by rw [← hR]; rfl) G (lv_sub hl [1, 2, 0] rfl)
      exact LP84 5 0 (sU (sU (sU (sU (sU st 0 (7 + o) h) 0 (23 + o) pt) 0 (39 + o) (-6)) 0 (55 + o) rp) 0 (71 + o) 0) _ _ ls (by omega) (by simp [makeM, make1, make2, make3, c1, c2]) G (lv_sub hl [1, 2, 0] rfl)
  · skip
    refine lv_iload hx hb dX4_make_37 (lv_at hl 4 rfl) ?_
    refine lv_goto (tgt := 44) hx hb dX4_make_39 (by decide) ?_
    refine g_iast (j := 39 + o) X G 1 rfl rfl (by omega) (by decide) dX4_make_44 (fun H locs G => ?_)
    have G : Gw E A s (wM E a (sU (sU (sU st 0 (7 + o) h) 0 (23 + o) pt) 0 (39 + o) r) w) H locs := G
    refine lv_aload_n hx hb dX4_make_45 rfl (lv_at hl 0 rfl) ?_
    refine g_get X G fX4_7 0 rfl rfl dX4_make_46 ?_
    refine lv_bipush (v := 55) hx hb dX4_make_49 (by decide) ?_
    refine lv_iload_n hx hb dX4_make_51 rfl (lv_at hl 1 rfl) ?_
    refine n_iadd 55 o rfl rfl hx hb dX4_make_52 ?_
    refine lv_aload_n hx hb dX4_make_53 rfl (lv_at hl 0 rfl) ?_
    refine g_get X G fX4_7 0 rfl rfl dX4_make_54 ?_
    refine lv_iconst (v := 0) hx hb dX4_make_57 (by decide) ?_
    refine g_iald (j := 0) X G 1 rfl rfl (by omega) (by decide) dX4_make_58 ?_
    refine lv_iconst (v := 1) hx hb dX4_make_59 (by decide) ?_
    refine lv_icmp_le (tgt := 68) hx hb dX4_make_60 (by decide) (fun c7 => ?_) (fun c7 => ?_)
    · skip
      refine lv_bipush (v := (-6)) hx hb dX4_make_68 (by decide) ?_
      refine g_iast (j := 55 + o) X G 1 rfl rfl (by omega) (by decide) dX4_make_70 (fun H locs G => ?_)
      have G : Gw E A s (wM E a (sU (sU (sU (sU st 0 (7 + o) h) 0 (23 + o) pt) 0 (39 + o) r) 0 (55 + o) (-6)) w) H locs := G
      refine lv_aload_n hx hb dX4_make_71 rfl (lv_at hl 0 rfl) ?_
      refine g_get X G fX4_7 0 rfl rfl dX4_make_72 ?_
      refine lv_bipush (v := 71) hx hb dX4_make_75 (by decide) ?_
      refine lv_iload_n hx hb dX4_make_77 rfl (lv_at hl 1 rfl) ?_
      refine n_iadd 71 o rfl rfl hx hb dX4_make_78 ?_
      refine lv_iconst (v := 0) hx hb dX4_make_79 (by decide) ?_
      refine g_iast (j := 71 + o) X G 1 rfl rfl (by omega) (by decide) dX4_make_80 (fun H locs G => ?_)
      have G : Gw E A s (wM E a (sU (sU (sU (sU (sU st 0 (7 + o) h) 0 (23 + o) pt) 0 (39 + o) r) 0 (55 + o) (-6)) 0 (71 + o) 0) w) H locs := G
      refine lv_iconst (v := 0) hx hb dX4_make_81 (by decide) ?_
      refine lv_istore (lv' := [(6, .int 0), (0, .ref (a 0)), (1, .int (nI o)), (2, .int h), (3, .int pt), (4, .int r), (5, .int rp)]) hx hb dX4_make_82 hl (by decide) rfl (fun ls hl => ?_)
      have LP84 : ∀ (n i : Nat) (sx : St) (H : Heap) (locs : List Loc) (ls : Array Slot), (i + n = 5) → (iF (zero5M o) n i sx = makeM st o h pt r rp) → Gw E A s (wM E a sx w) H locs → lv_has ls 7 [(0, .ref (a 0)), (1, .int (nI o)), (6, .int (nI i))] → W p l e (rmD 0) s m ([.ref (a 0), .int (nI o), .int h, .int pt, .int r, .int rp] : List Value).toArray below meth c H locs 0 0 (MQ below (CvQ E A (wM E a (makeM st o h pt r rp) w)) ([.ref (a 0), .int (nI o), .int h, .int pt, .int r, .int rp] : List Value).toArray s 0 0 A) (F0 m 84 ls []) := by
        intro n
        induction n with
        | zero =>
          intro i sx H locs ls hi hR G hl
          refine lv_iload hx hb dX4_make_84 (lv_at hl 2 rfl) ?_
          refine lv_iconst (v := 4) hx hb dX4_make_86 (by decide) ?_
          refine n_cmp_gt (tgt := 111) i 4 rfl rfl (by omega) (by omega) hx hb dX4_make_87 (by decide) (fun c8 => ?_) (fun c8 => ?_)
          · skip
            exact g_vret X hr G (congrArg (fun z => wM E a z w) (by rw [← hR]; rfl)) dX4_make_111
          · skip
            exact absurd c8 (by omega)
        | succ n ih84 =>
          intro i sx H locs ls hi hR G hl
          refine lv_iload hx hb dX4_make_84 (lv_at hl 2 rfl) ?_
          refine lv_iconst (v := 4) hx hb dX4_make_86 (by decide) ?_
          refine n_cmp_gt (tgt := 111) i 4 rfl rfl (by omega) (by omega) hx hb dX4_make_87 (by decide) (fun c9 => ?_) (fun c9 => ?_)
          · skip
            exact absurd c9 (by omega)
          · skip
            refine lv_aload_n hx hb dX4_make_90 rfl (lv_at hl 0 rfl) ?_
            refine g_get X G fX4_7 0 rfl rfl dX4_make_91 ?_
            refine lv_bipush (v := 103) hx hb dX4_make_94 (by decide) ?_
            refine lv_iconst (v := 5) hx hb dX4_make_96 (by decide) ?_
            refine lv_iload_n hx hb dX4_make_97 rfl (lv_at hl 1 rfl) ?_
            refine n_imul 5 o rfl rfl hx hb dX4_make_98 ?_
            refine n_iadd 103 (5 * o) rfl rfl hx hb dX4_make_99 ?_
            refine lv_iload hx hb dX4_make_100 (lv_at hl 2 rfl) ?_
            refine n_iadd (103 + (5 * o)) i rfl rfl hx hb dX4_make_102 ?_
            refine lv_iconst (v := 0) hx hb dX4_make_103 (by decide) ?_
            refine g_iast (j := (103 + (5 * o)) + i) X G 1 rfl rfl (by omega) (by decide) dX4_make_104 (fun H locs G => ?_)
            have G : Gw E A s (wM E a (sU sx 0 ((103 + (5 * o)) + i) 0) w) H locs := G
            refine lv_iinc (v := nI (i + 1)) (lv' := [(6, .int (nI (i + 1))), (0, .ref (a 0)), (1, .int (nI o))]) hx hb dX4_make_105 hl (k := 2) rfl (nI_inc _) (by decide) rfl (fun ls hl => ?_)
            refine lv_goto (tgt := 84) hx hb dX4_make_108 (by decide) ?_
            exact ih84 (i + 1) (sU sx 0 ((103 + (5 * o)) + i) 0) _ _ ls (by omega) (by rw [← hR]; rfl) G (lv_sub hl [1, 2, 0] rfl)
      exact LP84 5 0 (sU (sU (sU (sU (sU st 0 (7 + o) h) 0 (23 + o) pt) 0 (39 + o) r) 0 (55 + o) (-6)) 0 (71 + o) 0) _ _ ls (by omega) (by simp [makeM, make1, make2, make3, c1, c7]) G (lv_sub hl [1, 2, 0] rfl)
    · skip
      refine lv_iload hx hb dX4_make_63 (lv_at hl 5 rfl) ?_
      refine lv_goto (tgt := 70) hx hb dX4_make_65 (by decide) ?_
      refine g_iast (j := 55 + o) X G 1 rfl rfl (by omega) (by decide) dX4_make_70 (fun H locs G => ?_)
      have G : Gw E A s (wM E a (sU (sU (sU (sU st 0 (7 + o) h) 0 (23 + o) pt) 0 (39 + o) r) 0 (55 + o) rp) w) H locs := G
      refine lv_aload_n hx hb dX4_make_71 rfl (lv_at hl 0 rfl) ?_
      refine g_get X G fX4_7 0 rfl rfl dX4_make_72 ?_
      refine lv_bipush (v := 71) hx hb dX4_make_75 (by decide) ?_
      refine lv_iload_n hx hb dX4_make_77 rfl (lv_at hl 1 rfl) ?_
      refine n_iadd 71 o rfl rfl hx hb dX4_make_78 ?_
      refine lv_iconst (v := 0) hx hb dX4_make_79 (by decide) ?_
      refine g_iast (j := 71 + o) X G 1 rfl rfl (by omega) (by decide) dX4_make_80 (fun H locs G => ?_)
      have G : Gw E A s (wM E a (sU (sU (sU (sU (sU st 0 (7 + o) h) 0 (23 + o) pt) 0 (39 + o) r) 0 (55 + o) rp) 0 (71 + o) 0) w) H locs := G
      refine lv_iconst (v := 0) hx hb dX4_make_81 (by decide) ?_
      refine lv_istore (lv' := [(6, .int 0), (0, .ref (a 0)), (1, .int (nI o)), (2, .int h), (3, .int pt), (4, .int r), (5, .int rp)]) hx hb dX4_make_82 hl (by decide) rfl (fun ls hl => ?_)
      have LP84 : ∀ (n i : Nat) (sx : St) (H : Heap) (locs : List Loc) (ls : Array Slot), (i + n = 5) → (iF (zero5M o) n i sx = makeM st o h pt r rp) → Gw E A s (wM E a sx w) H locs → lv_has ls 7 [(0, .ref (a 0)), (1, .int (nI o)), (6, .int (nI i))] → W p l e (rmD 0) s m ([.ref (a 0), .int (nI o), .int h, .int pt, .int r, .int rp] : List Value).toArray below meth c H locs 0 0 (MQ below (CvQ E A (wM E a (makeM st o h pt r rp) w)) ([.ref (a 0), .int (nI o), .int h, .int pt, .int r, .int rp] : List Value).toArray s 0 0 A) (F0 m 84 ls []) := by
        intro n
        induction n with
        | zero =>
          intro i sx H locs ls hi hR G hl
          refine lv_iload hx hb dX4_make_84 (lv_at hl 2 rfl) ?_
          refine lv_iconst (v := 4) hx hb dX4_make_86 (by decide) ?_
          refine n_cmp_gt (tgt := 111) i 4 rfl rfl (by omega) (by omega) hx hb dX4_make_87 (by decide) (fun c10 => ?_) (fun c10 => ?_)
          · skip
            exact g_vret X hr G (congrArg (fun z => wM E a z w) (by rw [← hR]; rfl)) dX4_make_111
          · skip
            exact absurd c10 (by omega)
        | succ n ih84 =>
          intro i sx H locs ls hi hR G hl
          refine lv_iload hx hb dX4_make_84 (lv_at hl 2 rfl) ?_
          refine lv_iconst (v := 4) hx hb dX4_make_86 (by decide) ?_
          refine n_cmp_gt (tgt := 111) i 4 rfl rfl (by omega) (by omega) hx hb dX4_make_87 (by decide) (fun c11 => ?_) (fun c11 => ?_)
          · skip
            exact absurd c11 (by omega)
          · skip
            refine lv_aload_n hx hb dX4_make_90 rfl (lv_at hl 0 rfl) ?_
            refine g_get X G fX4_7 0 rfl rfl dX4_make_91 ?_
            refine lv_bipush (v := 103) hx hb dX4_make_94 (by decide) ?_
            refine lv_iconst (v := 5) hx hb dX4_make_96 (by decide) ?_
            refine lv_iload_n hx hb dX4_make_97 rfl (lv_at hl 1 rfl) ?_
            refine n_imul 5 o rfl rfl hx hb dX4_make_98 ?_
            refine n_iadd 103 (5 * o) rfl rfl hx hb dX4_make_99 ?_
            refine lv_iload hx hb dX4_make_100 (lv_at hl 2 rfl) ?_
            refine n_iadd (103 + (5 * o)) i rfl rfl hx hb dX4_make_102 ?_
            refine lv_iconst (v := 0) hx hb dX4_make_103 (by decide) ?_
            refine g_iast (j := (103 + (5 * o)) + i) X G 1 rfl rfl (by omega) (by decide) dX4_make_104 (fun H locs G => ?_)
            have G : Gw E A s (wM E a (sU sx 0 ((103 + (5 * o)) + i) 0) w) H locs := G
            refine lv_iinc (v := nI (i + 1)) (lv' := [(6, .int (nI (i + 1))), (0, .ref (a 0)), (1, .int (nI o))]) hx hb dX4_make_105 hl (k := 2) rfl (nI_inc _) (by decide) rfl (fun ls hl => ?_)
            refine lv_goto (tgt := 84) hx hb dX4_make_108 (by decide) ?_
            exact ih84 (i + 1) (sU sx 0 ((103 + (5 * o)) + i) 0) _ _ ls (by omega) (by rw [← hR]; rfl) G (lv_sub hl [1, 2, 0] rfl)
      exact LP84 5 0 (sU (sU (sU (sU (sU st 0 (7 + o) h) 0 (23 + o) pt) 0 (39 + o) r) 0 (55 + o) rp) 0 (71 + o) 0) _ _ ls (by omega) (by simp [makeM, make1, make2, make3, c1, c7]) G (lv_sub hl [1, 2, 0] rfl)
set_option maxHeartbeats 1000000 in
set_option maxRecDepth 100000 in
theorem c_X4_send (l : Launch) (E : EE) (a : Nat → Nat) (st : St) (w : va_W) (host : Nat) (hhost : host < 4) (port : Nat) (hport : port < 32) (r : Nat) (hr : r < 5) (rp : Nat) (hrp : rp < 32) (f : Nat) (hf : f < 3) : Ct l yX4_send cX4_send 7 (some .int) 4 E [.ref (a 0), .int (nI host), .int (nI port), .int (nI r), .int (nI rp), .int (nI f)] (wM E a st w) (oN (sendO st host port r rp)) (wM E a (sendC st host port r rp f) w) := by
  refine Ct_mk RX4 rfl (by decide +kernel) (Nat.le_of_ble_eq_true rfl) ?_
  intro p e s m below meth c A ls X hr G hl
  have hl : lv_has ls 7 [(0, .ref (a 0)), (1, .int (nI host)), (2, .int (nI port)), (3, .int (nI r)), (4, .int (nI rp)), (5, .int (nI f))] := hl
  obtain ⟨hx, hb, hml, hown, hts, hK, hA, hlocks⟩ := id X
  refine lv_aload_n hx hb dX4_send_0 rfl (lv_at hl 0 rfl) ?_
  refine lv_iload_n hx hb dX4_send_1 rfl (lv_at hl 1 rfl) ?_
  refine lv_iload_n hx hb dX4_send_2 rfl (lv_at hl 2 rfl) ?_
  refine lv_iload_n hx hb dX4_send_3 rfl (lv_at hl 3 rfl) ?_
  refine lv_iload hx hb dX4_send_4 (lv_at hl 4 rfl) ?_
  refine g_callV (As := [.int (nI host), .int (nI port), .int (nI r), .int (nI rp)]) (rest := []) X kX4_57 (c_X4_bindingOf l E a st w (nI host) (nI port) (nI r) (nI rp)) G 0 rfl rfl ⟨Nat.le_of_ble_eq_true rfl, Nat.le_of_ble_eq_true rfl⟩ ⟨Nat.le_refl _, Nat.le_refl _⟩ rfl hl.1 rfl (Nat.le_of_ble_eq_true rfl) dX4_send_6 (fun H locs G => ?_)
  refine o_split (fun c2 => ?_) (fun j1 c3 => ?_)
  · skip
    refine lv_istore (lv' := [(6, .int (-6)), (0, .ref (a 0)), (1, .int (nI host)), (2, .int (nI port)), (3, .int (nI r)), (4, .int (nI rp)), (5, .int (nI f))]) hx hb dX4_send_9 hl (by decide) rfl (fun ls hl => ?_)
    refine lv_iload hx hb dX4_send_11 (lv_at hl 0 rfl) ?_
    refine lv_if_ge (tgt := 43) hx hb dX4_send_13 (by decide) (fun c4 => ?_) (fun c4 => ?_)
    · skip
      exact absurd c4 (by decide)
    · skip
      refine lv_aload_n hx hb dX4_send_16 rfl (lv_at hl 1 rfl) ?_
      refine lv_iload_n hx hb dX4_send_17 rfl (lv_at hl 2 rfl) ?_
      refine lv_iload_n hx hb dX4_send_18 rfl (lv_at hl 3 rfl) ?_
      refine g_callV (As := [.int (nI host), .int (nI port)]) (rest := []) X kX4_61 (c_X4_chosen l E a st w (nI host) port (by omega)) G 0 rfl rfl ⟨Nat.le_of_ble_eq_true rfl, Nat.le_of_ble_eq_true rfl⟩ ⟨Nat.le_refl _, Nat.le_refl _⟩ rfl hl.1 rfl (Nat.le_of_ble_eq_true rfl) dX4_send_19 (fun H locs G => ?_)
      refine o_split (fun c6 => ?_) (fun j5 c7 => ?_)
      · skip
        refine lv_istore (lv' := [(6, .int (-6)), (0, .ref (a 0)), (1, .int (nI host)), (2, .int (nI port)), (3, .int (nI r)), (4, .int (nI rp)), (5, .int (nI f))]) hx hb dX4_send_22 hl (by decide) rfl (fun ls hl => ?_)
        refine lv_iload hx hb dX4_send_24 (lv_at hl 0 rfl) ?_
        refine lv_if_ge (tgt := 32) hx hb dX4_send_26 (by decide) (fun c8 => ?_) (fun c8 => ?_)
        · skip
          exact absurd c8 (by decide)
        · skip
          refine lv_bipush (v := (-5)) hx hb dX4_send_29 (by decide) ?_
          exact g_iret X hr G (congrArg (fun z => wM E a z w) (by simp only [sendC, c2, c6]; (try simp [sendFin, markM, flagOM, c2, c6]))) (by simp [sendO, oN, c2, c6]) dX4_send_31
      · skip
        have bj5 : j5 < 16 := chosenM_lt c7
        refine lv_istore (lv' := [(6, .int (nI j5)), (0, .ref (a 0)), (1, .int (nI host)), (2, .int (nI port)), (3, .int (nI r)), (4, .int (nI rp)), (5, .int (nI f))]) hx hb dX4_send_22 hl (by decide) rfl (fun ls hl => ?_)
        refine lv_iload hx hb dX4_send_24 (lv_at hl 0 rfl) ?_
        refine lv_if_ge (tgt := 32) hx hb dX4_send_26 (by decide) (fun c9 => ?_) (fun c9 => ?_)
        · skip
          refine lv_aload_n hx hb dX4_send_32 rfl (lv_at hl 1 rfl) ?_
          refine lv_iload hx hb dX4_send_33 (lv_at hl 0 rfl) ?_
          refine lv_iload_n hx hb dX4_send_35 rfl (lv_at hl 2 rfl) ?_
          refine lv_iload_n hx hb dX4_send_36 rfl (lv_at hl 3 rfl) ?_
          refine lv_iload_n hx hb dX4_send_37 rfl (lv_at hl 4 rfl) ?_
          refine lv_iload hx hb dX4_send_38 (lv_at hl 5 rfl) ?_
          refine g_callVv (As := [.int (nI j5), .int (nI host), .int (nI port), .int (nI r), .int (nI rp)]) (rest := []) X kX4_64 (c_X4_make l E a st w j5 (by omega) (nI host) (nI port) (nI r) (nI rp)) G 0 rfl rfl ⟨Nat.le_of_ble_eq_true rfl, Nat.le_of_ble_eq_true rfl⟩ ⟨Nat.le_refl _, Nat.le_refl _⟩ rfl hl.1 rfl (Nat.le_of_ble_eq_true rfl) dX4_send_40 (fun H locs G => ?_)
          obtain ⟨sv10, esv10⟩ : ∃ z, z = makeM st j5 (nI host) (nI port) (nI r) (nI rp) := ⟨_, rfl⟩
          rw [← esv10] at G
          refine lv_aload_n hx hb dX4_send_43 rfl (lv_at hl 1 rfl) ?_
          refine g_get X G fX4_7 0 rfl rfl dX4_send_44 ?_
          refine lv_bipush (v := 103) hx hb dX4_send_47 (by decide) ?_
          refine lv_iconst (v := 5) hx hb dX4_send_49 (by decide) ?_
          refine lv_iload hx hb dX4_send_50 (lv_at hl 0 rfl) ?_
          refine n_imul 5 j5 rfl rfl hx hb dX4_send_52 ?_
          refine n_iadd 103 (5 * j5) rfl rfl hx hb dX4_send_53 ?_
          refine lv_iload_n hx hb dX4_send_54 rfl (lv_at hl 4 rfl) ?_
          refine n_iadd (103 + (5 * j5)) r rfl rfl hx hb dX4_send_55 ?_
          refine lv_dup2_11 hx hb dX4_send_56 rfl rfl ?_
          refine g_iald (j := (103 + (5 * j5)) + r) X G 1 rfl rfl (by omega) (by decide) dX4_send_57 ?_
          refine lv_iconst (v := 1) hx hb dX4_send_58 (by decide) ?_
          refine lv_iload hx hb dX4_send_59 (lv_at hl 5 rfl) ?_
          refine lv_ishl hx hb dX4_send_61 ?_
          refine lv_ior hx hb dX4_send_62 ?_
          refine g_iast (j := (103 + (5 * j5)) + r) X G 1 rfl rfl (by omega) (by decide) dX4_send_63 (fun H locs G => ?_)
          have G : Gw E A s (wM E a (sU sv10 0 ((103 + (5 * j5)) + r) ((sv10 0 ((103 + (5 * j5)) + r)) ||| (1 <<< ((nI rp) &&& 31)))) w) H locs := G
          refine lv_aload_n hx hb dX4_send_64 rfl (lv_at hl 1 rfl) ?_
          refine g_get X G fX4_7 0 rfl rfl dX4_send_65 ?_
          refine lv_bipush (v := 87) hx hb dX4_send_68 (by decide) ?_
          refine lv_iload hx hb dX4_send_70 (lv_at hl 0 rfl) ?_
          refine n_iadd 87 j5 rfl rfl hx hb dX4_send_72 ?_
          refine lv_aload_n hx hb dX4_send_73 rfl (lv_at hl 1 rfl) ?_
          refine g_get X G fX4_7 0 rfl rfl dX4_send_74 ?_
          refine lv_bipush (v := 6) hx hb dX4_send_77 (by decide) ?_
          refine g_iald (j := 6) X G 1 rfl rfl (by omega) (by decide) dX4_send_79 ?_
          refine g_iast (j := 87 + j5) X G 1 rfl rfl (by omega) (by decide) dX4_send_80 (fun H locs G => ?_)
          have G : Gw E A s (wM E a (sU (sU sv10 0 ((103 + (5 * j5)) + r) ((sv10 0 ((103 + (5 * j5)) + r)) ||| (1 <<< ((nI rp) &&& 31)))) 0 (87 + j5) ((sU sv10 0 ((103 + (5 * j5)) + r) ((sv10 0 ((103 + (5 * j5)) + r)) ||| (1 <<< ((nI rp) &&& 31)))) 0 6)) w) H locs := G
          refine lv_iload hx hb dX4_send_81 (lv_at hl 6 rfl) ?_
          refine lv_iconst (v := 2) hx hb dX4_send_83 (by decide) ?_
          refine n_cmp_ne (tgt := 101) f 2 rfl rfl (by omega) (by omega) hx hb dX4_send_84 (by decide) (fun c11 => ?_) (fun c11 => ?_)
          · skip
            refine lv_iload hx hb dX4_send_101 (lv_at hl 6 rfl) ?_
            refine lv_iconst (v := 1) hx hb dX4_send_103 (by decide) ?_
            refine n_cmp_ne (tgt := 132) f 1 rfl rfl (by omega) (by omega) hx hb dX4_send_104 (by decide) (fun c12 => ?_) (fun c12 => ?_)
            · skip
              refine lv_iload hx hb dX4_send_132 (lv_at hl 0 rfl) ?_
              exact g_iret X hr G (congrArg (fun z => wM E a z w) (by simp only [sendC, c2, c7, c11, c12]; (try rw [← esv10]); (try simp [sendFin, markM, flagOM, c2, c7, c11, c12]))) (by simp [sendO, oN, c2, c7, c11, c12]) dX4_send_134
            · skip
              refine lv_aload_n hx hb dX4_send_107 rfl (lv_at hl 1 rfl) ?_
              refine g_get X G fX4_7 0 rfl rfl dX4_send_108 ?_
              refine lv_bipush (v := 71) hx hb dX4_send_111 (by decide) ?_
              refine lv_iload hx hb dX4_send_113 (lv_at hl 0 rfl) ?_
              refine n_iadd 71 j5 rfl rfl hx hb dX4_send_115 ?_
              refine g_iald (j := 71 + j5) X G 1 rfl rfl (by omega) (by decide) dX4_send_116 ?_
              refine lv_iconst (v := 2) hx hb dX4_send_117 (by decide) ?_
              refine lv_icmp_ne (tgt := 132) hx hb dX4_send_118 (by decide) (fun c13 => ?_) (fun c13 => ?_)
              · skip
                refine lv_iload hx hb dX4_send_132 (lv_at hl 0 rfl) ?_
                exact g_iret X hr G (congrArg (fun z => wM E a z w) (by simp only [sendC, c2, c7, c11, c12, c13]; (try rw [← esv10]); (try simp [sendFin, markM, flagOM, c2, c7, c11, c12, c13]))) (by simp [sendO, oN, c2, c7, c11, c12, c13]) dX4_send_134
              · skip
                refine lv_aload_n hx hb dX4_send_121 rfl (lv_at hl 1 rfl) ?_
                refine g_get X G fX4_7 0 rfl rfl dX4_send_122 ?_
                refine lv_bipush (v := 71) hx hb dX4_send_125 (by decide) ?_
                refine lv_iload hx hb dX4_send_127 (lv_at hl 0 rfl) ?_
                refine n_iadd 71 j5 rfl rfl hx hb dX4_send_129 ?_
                refine lv_iconst (v := 0) hx hb dX4_send_130 (by decide) ?_
                refine g_iast (j := 71 + j5) X G 1 rfl rfl (by omega) (by decide) dX4_send_131 (fun H locs G => ?_)
                have G : Gw E A s (wM E a (sU (sU (sU sv10 0 ((103 + (5 * j5)) + r) ((sv10 0 ((103 + (5 * j5)) + r)) ||| (1 <<< ((nI rp) &&& 31)))) 0 (87 + j5) ((sU sv10 0 ((103 + (5 * j5)) + r) ((sv10 0 ((103 + (5 * j5)) + r)) ||| (1 <<< ((nI rp) &&& 31)))) 0 6)) 0 (71 + j5) 0) w) H locs := G
                refine lv_iload hx hb dX4_send_132 (lv_at hl 0 rfl) ?_
                exact g_iret X hr G (congrArg (fun z => wM E a z w) (by simp only [sendC, c2, c7, c11, c12, c13]; (try rw [← esv10]); (try simp [sendFin, markM, flagOM, c2, c7, c11, c12, c13]))) (by simp [sendO, oN, c2, c7, c11, c12, c13]) dX4_send_134
          · skip
            refine lv_aload_n hx hb dX4_send_87 rfl (lv_at hl 1 rfl) ?_
            refine g_get X G fX4_7 0 rfl rfl dX4_send_88 ?_
            refine lv_bipush (v := 71) hx hb dX4_send_91 (by decide) ?_
            refine lv_iload hx hb dX4_send_93 (lv_at hl 0 rfl) ?_
            refine n_iadd 71 j5 rfl rfl hx hb dX4_send_95 ?_
            refine lv_iconst (v := 2) hx hb dX4_send_96 (by decide) ?_
            refine g_iast (j := 71 + j5) X G 1 rfl rfl (by omega) (by decide) dX4_send_97 (fun H locs G => ?_)
            have G : Gw E A s (wM E a (sU (sU (sU sv10 0 ((103 + (5 * j5)) + r) ((sv10 0 ((103 + (5 * j5)) + r)) ||| (1 <<< ((nI rp) &&& 31)))) 0 (87 + j5) ((sU sv10 0 ((103 + (5 * j5)) + r) ((sv10 0 ((103 + (5 * j5)) + r)) ||| (1 <<< ((nI rp) &&& 31)))) 0 6)) 0 (71 + j5) 2) w) H locs := G
            refine lv_goto (tgt := 132) hx hb dX4_send_98 (by decide) ?_
            refine lv_iload hx hb dX4_send_132 (lv_at hl 0 rfl) ?_
            exact g_iret X hr G (congrArg (fun z => wM E a z w) (by simp only [sendC, c2, c7, c11]; (try rw [← esv10]); (try simp [sendFin, markM, flagOM, c2, c7, c11]))) (by simp [sendO, oN, c2, c7, c11]) dX4_send_134
        · skip
          exact absurd c9 (by simp [nI_cz, nI_pos', show j5 < 2 ^ 31 by omega])
  · skip
    have bj1 : j1 < 16 := bindO_lt c3
    refine lv_istore (lv' := [(6, .int (nI j1)), (0, .ref (a 0)), (1, .int (nI host)), (2, .int (nI port)), (3, .int (nI r)), (4, .int (nI rp)), (5, .int (nI f))]) hx hb dX4_send_9 hl (by decide) rfl (fun ls hl => ?_)
    refine lv_iload hx hb dX4_send_11 (lv_at hl 0 rfl) ?_
    refine lv_if_ge (tgt := 43) hx hb dX4_send_13 (by decide) (fun c14 => ?_) (fun c14 => ?_)
    · skip
      refine lv_aload_n hx hb dX4_send_43 rfl (lv_at hl 1 rfl) ?_
      refine g_get X G fX4_7 0 rfl rfl dX4_send_44 ?_
      refine lv_bipush (v := 103) hx hb dX4_send_47 (by decide) ?_
      refine lv_iconst (v := 5) hx hb dX4_send_49 (by decide) ?_
      refine lv_iload hx hb dX4_send_50 (lv_at hl 0 rfl) ?_
      refine n_imul 5 j1 rfl rfl hx hb dX4_send_52 ?_
      refine n_iadd 103 (5 * j1) rfl rfl hx hb dX4_send_53 ?_
      refine lv_iload_n hx hb dX4_send_54 rfl (lv_at hl 4 rfl) ?_
      refine n_iadd (103 + (5 * j1)) r rfl rfl hx hb dX4_send_55 ?_
      refine lv_dup2_11 hx hb dX4_send_56 rfl rfl ?_
      refine g_iald (j := (103 + (5 * j1)) + r) X G 1 rfl rfl (by omega) (by decide) dX4_send_57 ?_
      refine lv_iconst (v := 1) hx hb dX4_send_58 (by decide) ?_
      refine lv_iload hx hb dX4_send_59 (lv_at hl 5 rfl) ?_
      refine lv_ishl hx hb dX4_send_61 ?_
      refine lv_ior hx hb dX4_send_62 ?_
      refine g_iast (j := (103 + (5 * j1)) + r) X G 1 rfl rfl (by omega) (by decide) dX4_send_63 (fun H locs G => ?_)
      have G : Gw E A s (wM E a (sU st 0 ((103 + (5 * j1)) + r) ((st 0 ((103 + (5 * j1)) + r)) ||| (1 <<< ((nI rp) &&& 31)))) w) H locs := G
      refine lv_aload_n hx hb dX4_send_64 rfl (lv_at hl 1 rfl) ?_
      refine g_get X G fX4_7 0 rfl rfl dX4_send_65 ?_
      refine lv_bipush (v := 87) hx hb dX4_send_68 (by decide) ?_
      refine lv_iload hx hb dX4_send_70 (lv_at hl 0 rfl) ?_
      refine n_iadd 87 j1 rfl rfl hx hb dX4_send_72 ?_
      refine lv_aload_n hx hb dX4_send_73 rfl (lv_at hl 1 rfl) ?_
      refine g_get X G fX4_7 0 rfl rfl dX4_send_74 ?_
      refine lv_bipush (v := 6) hx hb dX4_send_77 (by decide) ?_
      refine g_iald (j := 6) X G 1 rfl rfl (by omega) (by decide) dX4_send_79 ?_
      refine g_iast (j := 87 + j1) X G 1 rfl rfl (by omega) (by decide) dX4_send_80 (fun H locs G => ?_)
      have G : Gw E A s (wM E a (sU (sU st 0 ((103 + (5 * j1)) + r) ((st 0 ((103 + (5 * j1)) + r)) ||| (1 <<< ((nI rp) &&& 31)))) 0 (87 + j1) ((sU st 0 ((103 + (5 * j1)) + r) ((st 0 ((103 + (5 * j1)) + r)) ||| (1 <<< ((nI rp) &&& 31)))) 0 6)) w) H locs := G
      refine lv_iload hx hb dX4_send_81 (lv_at hl 6 rfl) ?_
      refine lv_iconst (v := 2) hx hb dX4_send_83 (by decide) ?_
      refine n_cmp_ne (tgt := 101) f 2 rfl rfl (by omega) (by omega) hx hb dX4_send_84 (by decide) (fun c15 => ?_) (fun c15 => ?_)
      · skip
        refine lv_iload hx hb dX4_send_101 (lv_at hl 6 rfl) ?_
        refine lv_iconst (v := 1) hx hb dX4_send_103 (by decide) ?_
        refine n_cmp_ne (tgt := 132) f 1 rfl rfl (by omega) (by omega) hx hb dX4_send_104 (by decide) (fun c16 => ?_) (fun c16 => ?_)
        · skip
          refine lv_iload hx hb dX4_send_132 (lv_at hl 0 rfl) ?_
          exact g_iret X hr G (congrArg (fun z => wM E a z w) (by simp only [sendC, c3, c15, c16]; (try simp [sendFin, markM, flagOM, c3, c15, c16]))) (by simp [sendO, oN, c3, c15, c16]) dX4_send_134
        · skip
          refine lv_aload_n hx hb dX4_send_107 rfl (lv_at hl 1 rfl) ?_
          refine g_get X G fX4_7 0 rfl rfl dX4_send_108 ?_
          refine lv_bipush (v := 71) hx hb dX4_send_111 (by decide) ?_
          refine lv_iload hx hb dX4_send_113 (lv_at hl 0 rfl) ?_
          refine n_iadd 71 j1 rfl rfl hx hb dX4_send_115 ?_
          refine g_iald (j := 71 + j1) X G 1 rfl rfl (by omega) (by decide) dX4_send_116 ?_
          refine lv_iconst (v := 2) hx hb dX4_send_117 (by decide) ?_
          refine lv_icmp_ne (tgt := 132) hx hb dX4_send_118 (by decide) (fun c17 => ?_) (fun c17 => ?_)
          · skip
            refine lv_iload hx hb dX4_send_132 (lv_at hl 0 rfl) ?_
            exact g_iret X hr G (congrArg (fun z => wM E a z w) (by simp only [sendC, c3, c15, c16, c17]; (try simp [sendFin, markM, flagOM, c3, c15, c16, c17]))) (by simp [sendO, oN, c3, c15, c16, c17]) dX4_send_134
          · skip
            refine lv_aload_n hx hb dX4_send_121 rfl (lv_at hl 1 rfl) ?_
            refine g_get X G fX4_7 0 rfl rfl dX4_send_122 ?_
            refine lv_bipush (v := 71) hx hb dX4_send_125 (by decide) ?_
            refine lv_iload hx hb dX4_send_127 (lv_at hl 0 rfl) ?_
            refine n_iadd 71 j1 rfl rfl hx hb dX4_send_129 ?_
            refine lv_iconst (v := 0) hx hb dX4_send_130 (by decide) ?_
            refine g_iast (j := 71 + j1) X G 1 rfl rfl (by omega) (by decide) dX4_send_131 (fun H locs G => ?_)
            have G : Gw E A s (wM E a (sU (sU (sU st 0 ((103 + (5 * j1)) + r) ((st 0 ((103 + (5 * j1)) + r)) ||| (1 <<< ((nI rp) &&& 31)))) 0 (87 + j1) ((sU st 0 ((103 + (5 * j1)) + r) ((st 0 ((103 + (5 * j1)) + r)) ||| (1 <<< ((nI rp) &&& 31)))) 0 6)) 0 (71 + j1) 0) w) H locs := G
            refine lv_iload hx hb dX4_send_132 (lv_at hl 0 rfl) ?_
            exact g_iret X hr G (congrArg (fun z => wM E a z w) (by simp only [sendC, c3, c15, c16, c17]; (try simp [sendFin, markM, flagOM, c3, c15, c16, c17]))) (by simp [sendO, oN, c3, c15, c16, c17]) dX4_send_134
      · skip
        refine lv_aload_n hx hb dX4_send_87 rfl (lv_at hl 1 rfl) ?_
        refine g_get X G fX4_7 0 rfl rfl dX4_send_88 ?_
        refine lv_bipush (v := 71) hx hb dX4_send_91 (by decide) ?_
        refine lv_iload hx hb dX4_send_93 (lv_at hl 0 rfl) ?_
        refine n_iadd 71 j1 rfl rfl hx hb dX4_send_95 ?_
        refine lv_iconst (v := 2) hx hb dX4_send_96 (by decide) ?_
        refine g_iast (j := 71 + j1) X G 1 rfl rfl (by omega) (by decide) dX4_send_97 (fun H locs G => ?_)
        have G : Gw E A s (wM E a (sU (sU (sU st 0 ((103 + (5 * j1)) + r) ((st 0 ((103 + (5 * j1)) + r)) ||| (1 <<< ((nI rp) &&& 31)))) 0 (87 + j1) ((sU st 0 ((103 + (5 * j1)) + r) ((st 0 ((103 + (5 * j1)) + r)) ||| (1 <<< ((nI rp) &&& 31)))) 0 6)) 0 (71 + j1) 2) w) H locs := G
        refine lv_goto (tgt := 132) hx hb dX4_send_98 (by decide) ?_
        refine lv_iload hx hb dX4_send_132 (lv_at hl 0 rfl) ?_
        exact g_iret X hr G (congrArg (fun z => wM E a z w) (by simp only [sendC, c3, c15]; (try simp [sendFin, markM, flagOM, c3, c15]))) (by simp [sendO, oN, c3, c15]) dX4_send_134
    · skip
      exact absurd c14 (by simp [nI_cz, nI_pos', show j1 < 2 ^ 31 by omega])
set_option maxHeartbeats 1000000 in
set_option maxRecDepth 100000 in
theorem c_X4_whyNot (l : Launch) (E : EE) (a : Nat → Nat) (st : St) (w : va_W) (r : Nat) (hr : r < 5) (rp : Nat) (hrp : rp < 32) (o : Nat) (ho : o < 16) : Ct l yX4_whyNot cX4_whyNot 5 (some .int) 1 E [.ref (a 0), .int (nI r), .int (nI rp), .int (nI o)] (wM E a st w) (nI (whyM st r rp o)) (wM E a st w) := by
  refine Ct_mk RX4 rfl (by decide +kernel) (Nat.le_of_ble_eq_true rfl) ?_
  intro p e s m below meth c A ls X hr G hl
  have hl : lv_has ls 5 [(0, .ref (a 0)), (1, .int (nI r)), (2, .int (nI rp)), (3, .int (nI o))] := hl
  obtain ⟨hx, hb, hml, hown, hts, hK, hA, hlocks⟩ := id X
  refine lv_aload_n hx hb dX4_whyNot_0 rfl (lv_at hl 0 rfl) ?_
  refine lv_iload_n hx hb dX4_whyNot_1 rfl (lv_at hl 3 rfl) ?_
  refine g_callV (As := [.int (nI o)]) (rest := []) X kX4_24 (c_X4_isLent l E a st w o (by omega)) G 0 rfl rfl ⟨Nat.le_of_ble_eq_true rfl, Nat.le_of_ble_eq_true rfl⟩ ⟨Nat.le_refl _, Nat.le_refl _⟩ rfl hl.1 rfl (Nat.le_of_ble_eq_true rfl) dX4_whyNot_2 (fun H locs G => ?_)
  refine b_ifne (tgt := 10) hx hb dX4_whyNot_5 (by decide) (fun c1 => ?_) (fun c1 => ?_)
  · skip
    refine lv_aload_n hx hb dX4_whyNot_10 rfl (lv_at hl 0 rfl) ?_
    refine g_get X G fX4_7 0 rfl rfl dX4_whyNot_11 ?_
    refine lv_bipush (v := 103) hx hb dX4_whyNot_14 (by decide) ?_
    refine lv_iconst (v := 5) hx hb dX4_whyNot_16 (by decide) ?_
    refine lv_iload_n hx hb dX4_whyNot_17 rfl (lv_at hl 3 rfl) ?_
    refine n_imul 5 o rfl rfl hx hb dX4_whyNot_18 ?_
    refine n_iadd 103 (5 * o) rfl rfl hx hb dX4_whyNot_19 ?_
    refine lv_iload_n hx hb dX4_whyNot_20 rfl (lv_at hl 1 rfl) ?_
    refine n_iadd (103 + (5 * o)) r rfl rfl hx hb dX4_whyNot_21 ?_
    refine g_iald (j := (103 + (5 * o)) + r) X G 1 rfl rfl (by omega) (by decide) dX4_whyNot_22 ?_
    refine lv_istore (lv' := [(4, .int (st 0 ((103 + (5 * o)) + r))), (0, .ref (a 0)), (1, .int (nI r)), (2, .int (nI rp)), (3, .int (nI o))]) hx hb dX4_whyNot_23 hl (by decide) rfl (fun ls hl => ?_)
    refine lv_aload_n hx hb dX4_whyNot_25 rfl (lv_at hl 1 rfl) ?_
    refine g_get X G fX4_7 0 rfl rfl dX4_whyNot_26 ?_
    refine lv_iconst (v := 1) hx hb dX4_whyNot_29 (by decide) ?_
    refine g_iald (j := 1) X G 1 rfl rfl (by omega) (by decide) dX4_whyNot_30 ?_
    refine lv_iconst (v := 1) hx hb dX4_whyNot_31 (by decide) ?_
    refine lv_icmp_ne (tgt := 40) hx hb dX4_whyNot_32 (by decide) (fun c2 => ?_) (fun c2 => ?_)
    · skip
      refine lv_aload_n hx hb dX4_whyNot_40 rfl (lv_at hl 1 rfl) ?_
      refine g_get X G fX4_7 0 rfl rfl dX4_whyNot_41 ?_
      refine lv_iconst (v := 1) hx hb dX4_whyNot_44 (by decide) ?_
      refine g_iald (j := 1) X G 1 rfl rfl (by omega) (by decide) dX4_whyNot_45 ?_
      refine lv_iconst (v := 2) hx hb dX4_whyNot_46 (by decide) ?_
      refine lv_icmp_ne (tgt := 61) hx hb dX4_whyNot_47 (by decide) (fun c3 => ?_) (fun c3 => ?_)
      · skip
        refine lv_iconst (v := 0) hx hb dX4_whyNot_61 (by decide) ?_
        exact g_iret X hr G rfl (by first | (simp [whyM, nI, c1, c2, c3]; done) | (clear G hl X hr hK hts; simp_all [whyM, nI]; done)) dX4_whyNot_62
      · skip
        refine lv_iload hx hb dX4_whyNot_50 (lv_at hl 0 rfl) ?_
        refine lv_iload_n hx hb dX4_whyNot_52 rfl (lv_at hl 3 rfl) ?_
        refine lv_ishr hx hb dX4_whyNot_53 ?_
        refine lv_iconst (v := 1) hx hb dX4_whyNot_54 (by decide) ?_
        refine lv_iand hx hb dX4_whyNot_55 ?_
        refine lv_if_ne (tgt := 61) hx hb dX4_whyNot_56 (by decide) (fun c4 => ?_) (fun c4 => ?_)
        · skip
          refine lv_iconst (v := 0) hx hb dX4_whyNot_61 (by decide) ?_
          exact g_iret X hr G rfl (by first | (simp [whyM, nI, c1, c2, c3, c4]; done) | (clear G hl X hr hK hts; simp_all [whyM, nI]; done)) dX4_whyNot_62
        · skip
          refine lv_iconst (v := 2) hx hb dX4_whyNot_59 (by decide) ?_
          exact g_iret X hr G rfl (by first | (simp [whyM, nI, c1, c2, c3, c4]; done) | (clear G hl X hr hK hts; simp_all [whyM, nI]; done)) dX4_whyNot_60
    · skip
      refine lv_iload hx hb dX4_whyNot_35 (lv_at hl 0 rfl) ?_
      refine lv_if_eq (tgt := 59) hx hb dX4_whyNot_37 (by decide) (fun c5 => ?_) (fun c5 => ?_)
      · skip
        refine lv_iconst (v := 2) hx hb dX4_whyNot_59 (by decide) ?_
        exact g_iret X hr G rfl (by first | (simp [whyM, nI, c1, c2, c5]; done) | (clear G hl X hr hK hts; simp_all [whyM, nI]; done)) dX4_whyNot_60
      · skip
        refine lv_aload_n hx hb dX4_whyNot_40 rfl (lv_at hl 1 rfl) ?_
        refine g_get X G fX4_7 0 rfl rfl dX4_whyNot_41 ?_
        refine lv_iconst (v := 1) hx hb dX4_whyNot_44 (by decide) ?_
        refine g_iald (j := 1) X G 1 rfl rfl (by omega) (by decide) dX4_whyNot_45 ?_
        refine lv_iconst (v := 2) hx hb dX4_whyNot_46 (by decide) ?_
        refine lv_icmp_ne (tgt := 61) hx hb dX4_whyNot_47 (by decide) (fun c6 => ?_) (fun c6 => ?_)
        · skip
          refine lv_iconst (v := 0) hx hb dX4_whyNot_61 (by decide) ?_
          exact g_iret X hr G rfl (by first | (simp [whyM, nI, c1, c2, c5, c6]; done) | (clear G hl X hr hK hts; simp_all [whyM, nI]; done)) dX4_whyNot_62
        · skip
          refine lv_iload hx hb dX4_whyNot_50 (lv_at hl 0 rfl) ?_
          refine lv_iload_n hx hb dX4_whyNot_52 rfl (lv_at hl 3 rfl) ?_
          refine lv_ishr hx hb dX4_whyNot_53 ?_
          refine lv_iconst (v := 1) hx hb dX4_whyNot_54 (by decide) ?_
          refine lv_iand hx hb dX4_whyNot_55 ?_
          refine lv_if_ne (tgt := 61) hx hb dX4_whyNot_56 (by decide) (fun c7 => ?_) (fun c7 => ?_)
          · skip
            refine lv_iconst (v := 0) hx hb dX4_whyNot_61 (by decide) ?_
            exact g_iret X hr G rfl (by first | (simp [whyM, nI, c1, c2, c5, c6, c7]; done) | (clear G hl X hr hK hts; simp_all [whyM, nI]; done)) dX4_whyNot_62
          · skip
            refine lv_iconst (v := 2) hx hb dX4_whyNot_59 (by decide) ?_
            exact g_iret X hr G rfl (by first | (simp [whyM, nI, c1, c2, c5, c6, c7]; done) | (clear G hl X hr hK hts; simp_all [whyM, nI]; done)) dX4_whyNot_60
  · skip
    refine lv_iconst (v := 1) hx hb dX4_whyNot_8 (by decide) ?_
    exact g_iret X hr G rfl (by first | (simp [whyM, nI, c1]; done) | (clear G hl X hr hK hts; simp_all [whyM, nI]; done)) dX4_whyNot_9
set_option maxHeartbeats 1000000 in
set_option maxRecDepth 100000 in
theorem c_X4_insideOf (l : Launch) (E : EE) (a : Nat → Nat) (st : St) (w : va_W) (o : Nat) (ho : o < 16) : Ct l yX4_insideOf cX4_insideOf 2 (some .int) 0 E [.ref (a 0), .int (nI o)] (wM E a st w) (insideM st o) (wM E a st w) := by
  refine Ct_mk RX4 rfl (by decide +kernel) (Nat.le_of_ble_eq_true rfl) ?_
  intro p e s m below meth c A ls X hr G hl
  have hl : lv_has ls 2 [(0, .ref (a 0)), (1, .int (nI o))] := hl
  obtain ⟨hx, hb, hml, hown, hts, hK, hA, hlocks⟩ := id X
  refine lv_bipush (v := 32) hx hb dX4_insideOf_0 (by decide) ?_
  refine lv_aload_n hx hb dX4_insideOf_2 rfl (lv_at hl 0 rfl) ?_
  refine g_get X G fX4_7 0 rfl rfl dX4_insideOf_3 ?_
  refine lv_bipush (v := 7) hx hb dX4_insideOf_6 (by decide) ?_
  refine lv_iload_n hx hb dX4_insideOf_8 rfl (lv_at hl 1 rfl) ?_
  refine n_iadd 7 o rfl rfl hx hb dX4_insideOf_9 ?_
  refine g_iald (j := 7 + o) X G 1 rfl rfl (by omega) (by decide) dX4_insideOf_10 ?_
  refine lv_imul hx hb dX4_insideOf_11 ?_
  refine lv_aload_n hx hb dX4_insideOf_12 rfl (lv_at hl 0 rfl) ?_
  refine g_get X G fX4_7 0 rfl rfl dX4_insideOf_13 ?_
  refine lv_bipush (v := 23) hx hb dX4_insideOf_16 (by decide) ?_
  refine lv_iload_n hx hb dX4_insideOf_18 rfl (lv_at hl 1 rfl) ?_
  refine n_iadd 23 o rfl rfl hx hb dX4_insideOf_19 ?_
  refine g_iald (j := 23 + o) X G 1 rfl rfl (by omega) (by decide) dX4_insideOf_20 ?_
  refine lv_iadd hx hb dX4_insideOf_21 ?_
  exact g_iret X hr G rfl (by rfl) dX4_insideOf_22
