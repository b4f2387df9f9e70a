theorem perm7 {α : Type} (k B1 B0 G A H w : List α) : List.Perm (k ++ (B1 ++ (B0 ++ (G ++ (A ++ (H ++ w)))))) (A ++ (H ++ (G ++ (k ++ (B0 ++ (B1 ++ w)))))) := by
  letI : DecidableEq α := fun a b => Classical.propDecidable (a = b)
  rw [List.perm_iff_count]
  intro x
  simp only [List.count_append]
  omega
def foN (y0 y1 : Nat) : Nat → Option Nat := fun j => if j = 1 then some y1 else if j = 0 then some y0 else none
theorem pm_X3 (E : EE) (a b0 b1 : Nat → Nat) (h0 g0 k0 : Nat) (w : va_W) : List.Perm ((k0, .inl (E.2.2.1, 2, .inl zf)) :: wB E b1 stN (wB E b0 stN ((g0, .inl (E.2.2.2, 2, .inr (.inr (.inr (.inr (foN (b0 0) (b1 0))))))) :: wB E a stN ((h0, .inr (3, [.ref (a 0), .ref g0, .ref k0])) :: w)))) (wB E a stN (wT E a b0 b1 h0 g0 k0 (foN (b0 0) (b1 0)) stN stN zf w)) :=
  perm7 (α := Nat × va_E) [(k0, .inl (E.2.2.1, 2, .inl zf))] (lB E b1 stN) (lB E b0 stN) [(g0, .inl (E.2.2.2, 2, .inr (.inr (.inr (.inr (foN (b0 0) (b1 0)))))))] (lB E a stN) [(h0, .inr (3, [.ref (a 0), .ref g0, .ref k0]))] w
set_option maxHeartbeats 2000000 in
set_option maxRecDepth 100000 in
theorem c_X3_init (l : Launch) (E : EE) (h0 : Nat) (w : va_W) : Ci l yX3_init cX3_init 1 4 44 772 E [.ref h0] ((h0, .inr (3, [.null, .null, .null])) :: w) (fun w' => ∃ (a b0 b1 : Nat → Nat) (g0 k0 : Nat), w' = wB E a stN (wT E a b0 b1 h0 g0 k0 (foN (b0 0) (b1 0)) stN stN zf w)) := by
  refine Ci_mk RX3 rfl (by decide +kernel) (Nat.le_of_ble_eq_true rfl) ?_
  intro p e s m below meth c A ls X hr hin G hl hZ
  have hl : lv_has ls 1 [(0, .ref h0)] := hl
  obtain ⟨hx, hb, hml, hown, hts, hK, hA, hlocks⟩ := id X
  obtain ⟨-, y1, y2, y3, y4⟩ := id hZ
  refine lv_aload_n hx hb dX3_init_0 rfl (lv_at hl 0 rfl) ?_
  refine g_obj X q_oX3 q_oi q_oc hl.1 (Nat.le_of_ble_eq_true rfl) (Nat.le_of_ble_eq_true rfl) dX3_init_1 ?_
  refine lv_aload_n hx hb dX3_init_4 rfl (lv_at hl 0 rfl) ?_
  refine g_newo (fs := [.null, .null, .null, .int 0]) tyX1 tyX1_ok X G uX1 q_l45 q_i46 q_n30 (ci := 1) rfl (cases4 rfl rfl rfl rfl) (Nat.le_of_ble_eq_true rfl) (Nat.le_of_ble_eq_true rfl) dX3_init_5 (fun y0 H G => ?_)
  refine lv_dup hx hb dX3_init_8 rfl ?_
  refine g_callIN (rest := [.ref y0, .ref h0]) X hZ y1 q_m48 q_n30 q_m49 rfl ⟨by decide +kernel, by decide +kernel, by decide +kernel⟩ (c_X1_init l E y0 _) G ⟨Nat.le_of_ble_eq_true rfl, Nat.le_of_ble_eq_true rfl⟩ ⟨Nat.le_of_ble_eq_true rfl, Nat.le_of_ble_eq_true rfl⟩ hl.1 (Nat.le_of_ble_eq_true rfl) dX3_init_9 (fun H locs w' hB G => ?_)
  obtain ⟨a, rfl, rfl⟩ := hB
  refine g_putF (ty := .object RX1) X G fX3_10 tyX3 tyX3_ok nmX3 hin 14 rfl rfl rfl (by decide +kernel) rfl rfl (Nat.le_of_ble_eq_true rfl) dX3_init_12 (fun H locs G => ?_)
  have G : Gw E A s (wB E a stN ((h0, .inr (3, [.ref (a 0), .null, .null])) :: w)) H locs := G
  refine lv_aload_n hx hb dX3_init_15 rfl (lv_at hl 0 rfl) ?_
  refine lv_iconst (v := 2) hx hb dX3_init_16 (by decide) ?_
  refine va_newq (N' := 2) hx hb hown (hts _ q_l45) y4 hK G.1 G.2.1 G.2.2 hA (by decide) (by decide) (by decide) (Nat.le_of_ble_eq_true rfl) (Nat.le_of_ble_eq_true rfl) dX3_init_17 (fun g0 cA H k1 k2 k3 k4 => ?_)
  have ecA : cA = E.2.2.2 := Option.some.inj ((va_nmO (k1.2 3 _ rfl).2 rfl).symm.trans (va_nmO (hK.2 2 _ rfl).2 rfl))
  subst ecA
  have G : Gw E A s ((g0, .inl (E.2.2.2, 2, .inr (.inr (.inr (.inr (fun _ => none)))))) :: wB E a stN ((h0, .inr (3, [.ref (a 0), .null, .null])) :: w)) H locs := Gw_perm (List.perm_append_singleton _ _) ⟨k2, k3, k4⟩
  refine lv_dup hx hb dX3_init_20 rfl ?_
  refine lv_iconst (v := 0) hx hb dX3_init_21 (by decide) ?_
  refine g_newo (fs := [.null, .null, .null, .int 0]) tyX1 tyX1_ok X G uX1 q_l45 q_i46 q_n30 (ci := 1) rfl (cases4 rfl rfl rfl rfl) (Nat.le_of_ble_eq_true rfl) (Nat.le_of_ble_eq_true rfl) dX3_init_22 (fun y0 H G => ?_)
  refine lv_dup hx hb dX3_init_25 rfl ?_
  refine g_callIN (rest := [.ref y0, .int 0, .ref g0, .ref g0, .ref h0]) X hZ y1 q_m48 q_n30 q_m49 rfl ⟨by decide +kernel, by decide +kernel, by decide +kernel⟩ (c_X1_init l E y0 _) G ⟨Nat.le_of_ble_eq_true rfl, Nat.le_of_ble_eq_true rfl⟩ ⟨Nat.le_of_ble_eq_true rfl, Nat.le_of_ble_eq_true rfl⟩ hl.1 (Nat.le_of_ble_eq_true rfl) dX3_init_26 (fun H locs w' hB G => ?_)
  obtain ⟨b0, rfl, rfl⟩ := hB
  refine va_astq (i := 0) hx hb hK G.1 G.2.1 G.2.2 14 2 0 1 rfl rfl rfl rfl (vp_in_nI (n := 0) (by decide) (by decide)) dX3_init_29 (fun H locs k1 k2 k3 => ?_)
  have G : Gw E A s (wB E b0 stN ((g0, .inl (E.2.2.2, 2, .inr (.inr (.inr (.inr (va_up (fun _ => none) 0 (some (b0 0)))))))) :: wB E a stN ((h0, .inr (3, [.ref (a 0), .null, .null])) :: w))) H locs := ⟨k1, k2, k3⟩
  refine lv_dup hx hb dX3_init_30 rfl ?_
  refine lv_iconst (v := 1) hx hb dX3_init_31 (by decide) ?_
  refine g_newo (fs := [.null, .null, .null, .int 0]) tyX1 tyX1_ok X G uX1 q_l45 q_i46 q_n30 (ci := 1) rfl (cases4 rfl rfl rfl rfl) (Nat.le_of_ble_eq_true rfl) (Nat.le_of_ble_eq_true rfl) dX3_init_32 (fun y0 H G => ?_)
  refine lv_dup hx hb dX3_init_35 rfl ?_
  refine g_callIN (rest := [.ref y0, .int 1, .ref g0, .ref g0, .ref h0]) X hZ y1 q_m48 q_n30 q_m49 rfl ⟨by decide +kernel, by decide +kernel, by decide +kernel⟩ (c_X1_init l E y0 _) G ⟨Nat.le_of_ble_eq_true rfl, Nat.le_of_ble_eq_true rfl⟩ ⟨Nat.le_of_ble_eq_true rfl, Nat.le_of_ble_eq_true rfl⟩ hl.1 (Nat.le_of_ble_eq_true rfl) dX3_init_36 (fun H locs w' hB G => ?_)
  obtain ⟨b1, rfl, rfl⟩ := hB
  refine va_astq (i := 1) hx hb hK G.1 G.2.1 G.2.2 28 2 0 1 rfl rfl rfl rfl (vp_in_nI (n := 1) (by decide) (by decide)) dX3_init_39 (fun H locs k1 k2 k3 => ?_)
  have G : Gw E A s (wB E b1 stN (wB E b0 stN ((g0, .inl (E.2.2.2, 2, .inr (.inr (.inr (.inr (foN (b0 0) (b1 0))))))) :: wB E a stN ((h0, .inr (3, [.ref (a 0), .null, .null])) :: w)))) H locs := ⟨k1, k2, k3⟩
  refine g_putF (ty := .array (.object RX1)) X G fX3_16 tyX3 tyX3_ok nmX3 hin 43 rfl rfl rfl (by decide +kernel) rfl rfl (Nat.le_of_ble_eq_true rfl) dX3_init_40 (fun H locs G => ?_)
  refine lv_aload_n hx hb dX3_init_43 rfl (lv_at hl 0 rfl) ?_
  refine lv_iconst (v := 2) hx hb dX3_init_44 (by decide) ?_
  refine g_newz (n := 2) X G q_az rfl (by decide) (Nat.le_of_ble_eq_true rfl) (Nat.le_of_ble_eq_true rfl) dX3_init_45 (fun k0 H G => ?_)
  refine g_putF (ty := .array .boolean) X G fX3_20 tyX3 tyX3_ok nmX3 hin 44 rfl rfl rfl (by decide +kernel) rfl rfl (Nat.le_of_ble_eq_true rfl) dX3_init_47 (fun H locs G => ?_)
  have G := Gw_perm (pm_X3 E a b0 b1 h0 g0 k0 w) G
  exact g_cret X hr G ⟨a, b0, b1, g0, k0, rfl⟩ dX3_init_50
def mS (i : Nat) (g : Nat → Int32) : Nat → Int32 := upd g (7 + i) (-6)
def mF : Nat → Int32 := upd (upd (upd zf 3 4) 4 20) 5 2
/-- a new reference -/
def mN : St := fun K => match K with
  | 0 => iF mS 16 0 mF
  | _ => zf
theorem pm_X4 (E : EE) (a : Nat → Nat) (w : va_W) : List.Perm ((a 3, .inl (E.2.2.1, 2, .inl zf)) :: (a 2, .inl (E.2.1, 1006, .inl zf)) :: (a 1, .inl (E.2.1, 503, .inl (iF mS 16 0 mF))) :: (a 0, .inr (4, [.ref (a 1), .ref (a 2), .ref (a 3)])) :: w) (wM E a mN w) := by
  have h : List.Perm [3, 2, 1, 0] [0, 1, 2, 3] := by decide
  have h2 := List.Perm.append_right w (List.Perm.map (fun i => (wM E a mN [])[i]?.getD (0, .inl (E.2.1, 0, .inl zf))) h)
  exact h2
def aX4 (x y z u : Nat) : Nat → Nat := fun i => match i with
  | 0 => x | 1 => y | 2 => z | _ => u
set_option maxHeartbeats 2000000 in
set_option maxRecDepth 100000 in
theorem c_X4_init (l : Launch) (E : EE) (h0 : Nat) (w : va_W) : Ci l yX4_init cX4_init 2 1 3 1511 E [.ref h0] ((h0, .inr (4, [.null, .null, .null])) :: w) (fun w' => ∃ a : Nat → Nat, a 0 = h0 ∧ w' = wM E a mN w) := by
  refine Ci_mk RX4 rfl (by decide +kernel) (Nat.le_of_ble_eq_true rfl) ?_
  intro p e s m below meth c A ls X hr hin G hl hZ
  have hl : lv_has ls 2 [(0, .ref h0)] := hl
  obtain ⟨hx, hb, hml, hown, hts, hK, hA, hlocks⟩ := id X
  refine lv_aload_n hx hb dX4_init_0 rfl (lv_at hl 0 rfl) ?_
  refine g_obj X q_oX4 q_oi q_oc hl.1 (Nat.le_of_ble_eq_true rfl) (Nat.le_of_ble_eq_true rfl) dX4_init_1 ?_
  refine lv_aload_n hx hb dX4_init_4 rfl (lv_at hl 0 rfl) ?_
  refine lv_sipush (v := 503) hx hb dX4_init_5 (by decide) ?_
  refine g_newi (n := 503) X G q_ai rfl (by decide) (Nat.le_of_ble_eq_true rfl) (Nat.le_of_ble_eq_true rfl) dX4_init_8 (fun x1 H G => ?_)
  refine g_putF (ty := .array .int) X G fX4_7 tyX4 tyX4_ok nmX4 hin 1 rfl rfl rfl (by decide +kernel) rfl rfl (Nat.le_of_ble_eq_true rfl) dX4_init_10 (fun H locs G => ?_)
  refine lv_aload_n hx hb dX4_init_13 rfl (lv_at hl 0 rfl) ?_
  refine lv_sipush (v := 1006) hx hb dX4_init_14 (by decide) ?_
  refine g_newi (n := 1006) X G q_ai rfl (by decide) (Nat.le_of_ble_eq_true rfl) (Nat.le_of_ble_eq_true rfl) dX4_init_17 (fun x2 H G => ?_)
  refine g_putF (ty := .array .int) X G fX4_13 tyX4 tyX4_ok nmX4 hin 2 rfl rfl rfl (by decide +kernel) rfl rfl (Nat.le_of_ble_eq_true rfl) dX4_init_19 (fun H locs G => ?_)
  refine lv_aload_n hx hb dX4_init_22 rfl (lv_at hl 0 rfl) ?_
  refine lv_iconst (v := 2) hx hb dX4_init_23 (by decide) ?_
  refine g_newz (n := 2) X G q_az rfl (by decide) (Nat.le_of_ble_eq_true rfl) (Nat.le_of_ble_eq_true rfl) dX4_init_24 (fun x3 H G => ?_)
  refine g_putF (ty := .array .boolean) X G fX4_16 tyX4 tyX4_ok nmX4 hin 3 rfl rfl rfl (by decide +kernel) rfl rfl (Nat.le_of_ble_eq_true rfl) dX4_init_26 (fun H locs G => ?_)
  have G : Gw E A s ((x3, .inl (E.2.2.1, 2, .inl zf)) :: (x2, .inl (E.2.1, 1006, .inl zf)) :: (x1, .inl (E.2.1, 503, .inl zf)) :: (h0, .inr (4, [.ref x1, .ref x2, .ref x3])) :: w) H locs := G
  refine lv_aload_n hx hb dX4_init_29 rfl (lv_at hl 0 rfl) ?_
  refine g_get X G fX4_7 3 rfl rfl dX4_init_30 ?_
  refine lv_iconst (v := 3) hx hb dX4_init_33 (by decide) ?_
  refine lv_iconst (v := 4) hx hb dX4_init_34 (by decide) ?_
  refine g_iast (j := 3) X G 2 rfl rfl (by decide) (by decide) dX4_init_35 (fun H locs G => ?_)
  refine lv_aload_n hx hb dX4_init_36 rfl (lv_at hl 0 rfl) ?_
  refine g_get X G fX4_7 3 rfl rfl dX4_init_37 ?_
  refine lv_iconst (v := 4) hx hb dX4_init_40 (by decide) ?_
  refine lv_bipush (v := 20) hx hb dX4_init_41 (by decide) ?_
  refine g_iast (j := 4) X G 2 rfl rfl (by decide) (by decide) dX4_init_43 (fun H locs G => ?_)
  refine lv_aload_n hx hb dX4_init_44 rfl (lv_at hl 0 rfl) ?_
  refine g_get X G fX4_7 3 rfl rfl dX4_init_45 ?_
  refine lv_iconst (v := 5) hx hb dX4_init_48 (by decide) ?_
  refine lv_iconst (v := 2) hx hb dX4_init_49 (by decide) ?_
  refine g_iast (j := 5) X G 2 rfl rfl (by decide) (by decide) dX4_init_50 (fun H locs G => ?_)
  have G : Gw E A s ((x3, .inl (E.2.2.1, 2, .inl zf)) :: (x2, .inl (E.2.1, 1006, .inl zf)) :: (x1, .inl (E.2.1, 503, .inl mF)) :: (h0, .inr (4, [.ref x1, .ref x2, .ref x3])) :: w) H locs := G
  refine lv_iconst (v := 0) hx hb dX4_init_51 (by decide) ?_
  refine lv_istore_n (lv' := [(1, .int 0), (0, .ref h0)]) hx hb dX4_init_52 rfl hl (by decide) rfl (fun ls hl => ?_)
  have LP : ∀ (k i : Nat) (g : Nat → Int32) (H : Heap) (locs : List Loc) (ls : Array Slot), i + k = 16 → iF mS k i g = iF mS 16 0 mF → Gw E A s ((x3, .inl (E.2.2.1, 2, .inl zf)) :: (x2, .inl (E.2.1, 1006, .inl zf)) :: (x1, .inl (E.2.1, 503, .inl g)) :: (h0, .inr (4, [.ref x1, .ref x2, .ref x3])) :: w) H locs → lv_has ls 2 [(0, .ref h0), (1, .int (nI i))] → W p l e (rmC 1 3 1511) s m ([.ref h0] : List Value).toArray below meth c H locs 3 1511 (MQ below (CiQ E A (fun w' => ∃ a : Nat → Nat, a 0 = h0 ∧ w' = wM E a mN w)) ([.ref h0] : List Value).toArray s 3 1511 A) (F0 m 53 ls []) := by
    intro k
    induction k with
    | zero =>
      intro i g H locs ls hi hR G hl
      refine lv_iload_n hx hb dX4_init_53 rfl (lv_at hl 1 rfl) ?_
      refine lv_bipush (v := 16) hx hb dX4_init_54 (by decide) ?_
      refine n_cmp_ge (tgt := 76) i 16 rfl rfl (by omega) (by omega) hx hb dX4_init_56 (by decide) (fun c2 => ?_) (fun c2 => absurd c2 (by omega))
      have hR : g = iF mS 16 0 mF := hR
      rw [hR] at G
      have G := Gw_perm (pm_X4 E (aX4 h0 x1 x2 x3) w) G
      exact g_cret X hr G ⟨aX4 h0 x1 x2 x3, rfl, rfl⟩ dX4_init_76
    | succ k ih =>
      intro i g H locs ls hi hR G hl
      refine lv_iload_n hx hb dX4_init_53 rfl (lv_at hl 1 rfl) ?_
      refine lv_bipush (v := 16) hx hb dX4_init_54 (by decide) ?_
      refine n_cmp_ge (tgt := 76) i 16 rfl rfl (by omega) (by omega) hx hb dX4_init_56 (by decide) (fun c2 => absurd c2 (by omega)) (fun c2 => ?_)
      refine lv_aload_n hx hb dX4_init_59 rfl (lv_at hl 0 rfl) ?_
      refine g_get X G fX4_7 3 rfl rfl dX4_init_60 ?_
      refine lv_bipush (v := 7) hx hb dX4_init_63 (by decide) ?_
      refine lv_iload_n hx hb dX4_init_65 rfl (lv_at hl 1 rfl) ?_
      refine n_iadd 7 i rfl rfl hx hb dX4_init_66 ?_
      refine lv_bipush (v := (-6)) hx hb dX4_init_67 (by decide) ?_
      refine g_iast (j := 7 + i) X G 2 rfl rfl (by omega) (by decide) dX4_init_69 (fun H locs G => ?_)
      have G : Gw E A s ((x3, .inl (E.2.2.1, 2, .inl zf)) :: (x2, .inl (E.2.1, 1006, .inl zf)) :: (x1, .inl (E.2.1, 503, .inl (upd g (7 + i) (-6)))) :: (h0, .inr (4, [.ref x1, .ref x2, .ref x3])) :: w) H locs := G
      refine lv_iinc (v := nI (i + 1)) (lv' := [(1, .int (nI (i + 1))), (0, .ref h0)]) hx hb dX4_init_70 hl (k := 1) rfl (nI_inc _) (by decide) rfl (fun ls hl => ?_)
      refine lv_goto (tgt := 53) hx hb dX4_init_73 (by decide) ?_
      exact ih (i + 1) (upd g (7 + i) (-6)) _ _ ls (by omega) (by rw [← hR]; rfl) G (lv_sub hl [1, 0] rfl)
  exact LP 16 0 mF _ _ ls (by omega) rfl G (lv_sub hl [1, 0] rfl)
