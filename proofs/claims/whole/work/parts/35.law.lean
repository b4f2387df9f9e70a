def R_law : String := "BoxBindingsLaw"
def lw_P (b : Addr) (xs : List Int32) (args : Array Value) (s : State) : Prop := args = #[.ref b] ∧ s.IntsAt b xs ∧ xs.length ≤ 3072 ∧ (Jvm.Cond.and given_1 narrow_1).before args s = true
def lw_Q (_ : Array Value) (s : State) (o : Outcome) (t : State) : Prop := o = .returned (some (.int 1)) ∧ Framed s o t [] 600000 7302250
def lw_Z (below : List Frame) (a : Array Value) (s : State) : State → Prop := fun t => ∃ o, t.status = .running ∧ Ended t below o ∧ lw_Q a s o t
abbrev AA (s : State) : Nat → Prop := fun q => s.heap.size ≤ q
abbrev wL (E : EE) (a b0 b1 mo : Nat → Nat) (h0 g0 k0 : Nat) (fo : Nat → Option Nat) (st i0 i1 : St) (kp : Nat → Int32) (mm : St) : va_W := wB E a st (wT E a b0 b1 h0 g0 k0 fo i0 i1 kp (wM E mo mm []))
abbrev wLm (E : EE) (a b0 b1 mo : Nat → Nat) (h0 g0 k0 : Nat) (fo : Nat → Option Nat) (st i0 i1 : St) (kp : Nat → Int32) (mm : St) : va_W := wM E mo mm (wB E a st (wT E a b0 b1 h0 g0 k0 fo i0 i1 kp []))
theorem pw (E : EE) (a b0 b1 mo : Nat → Nat) (h0 g0 k0 : Nat) (fo : Nat → Option Nat) (st i0 i1 : St) (kp : Nat → Int32) (mm : St) : List.Perm (wL E a b0 b1 mo h0 g0 k0 fo st i0 i1 kp mm) (wLm E a b0 b1 mo h0 g0 k0 fo st i0 i1 kp mm) :=
  List.perm_append_comm (l₁ := wB E a st (wT E a b0 b1 h0 g0 k0 fo i0 i1 kp [])) (l₂ := wM E mo mm [])
section LAW
variable {p : Program} {l : Launch} {e : Env} {s : State} {m : MethodId} {below : List Frame} {meth : Method} {c : Code} {H : Heap} {locs : List Loc} {ls : Array Slot}
variable {E : EE} {a b0 b1 mo : Nat → Nat} {h0 g0 k0 : Nat} {fo : Nat → Option Nat} {st i0 i1 mm : St} {kp : Nat → Int32} {b L i T : Nat} {xs : Nat → Int32}
theorem g_sld {R : Room} {args : Array Value} {cells slots pc j : Nat} {Q : State → Prop} {cc : ByteArray} {nL : Nat} {own : String} {A : Nat → Prop} {w : va_W} {rest : List Value} {x : Int32} (X : Cx p s m args meth c cc nL own E A) (hX : va_X b L xs s s.heap) (hbl : b < s.heap.size) (hbA : ¬ A b) (G : Gw E A s w H locs) (hi : x = nI j) (hj : j < L) (hL : L ≤ 3072) (hdg : decode cc pc = .ok (.iaload, 1))
    (kk : W p l e R s m args below meth c H locs cells slots Q (F0 m (pc + 1) ls (.int (xs j) :: rest))) : W p l e R s m args below meth c H locs cells slots Q (F0 m pc ls (.int x :: .ref b :: rest)) := by
  subst hi
  refine va_sld X.1 X.2.1 hX hbl hbA G.2.2 (vp_in_nI hj (by omega)) hdg ?_
  rw [nI_clamp (by omega)]
  exact kk
abbrev LwW (p : Program) (l : Launch) (e : Env) (s : State) (m : MethodId) (below : List Frame) (meth : Method) (c : Code) (b : Nat) (H : Heap) (locs : List Loc) (pc : Nat) (ls : Array Slot) : Prop := W p l e room_1 s m #[Value.ref b] below meth c H locs 49 2289 (lw_Z below #[Value.ref b] s) (F0 m pc ls [])
set_option maxHeartbeats 1000000 in
theorem lc_rule (hL : L ≤ 3072) (hi : i + 6 ≤ L) (hT : T + 100 ≤ 100000) (X : Cx p s m #[Value.ref b] meth c cL_law 4 RL E (AA s)) (hZ : ZZ (AA s) s) (hX : va_X b L xs s s.heap) (hbl : b < s.heap.size) (hf0 : fo 0 = some (b0 0)) (hf1 : fo 1 = some (b1 0)) (F : Full st i0 i1 kp mm T) (G : Gw E (AA s) s (wL E a b0 b1 mo h0 g0 k0 fo st i0 i1 kp mm) H locs) (hl : lv_has ls 4 [(0, .ref b), (1, .ref h0), (2, .ref (mo 0)), (3, .int (nI i))]) (TL : ∀ (st i0 i1 mm : St) (kp : Nat → Int32) (H : Heap) (locs : List Loc), Full st i0 i1 kp mm (T + 100) → Gw E (AA s) s (wL E a b0 b1 mo h0 g0 k0 fo st i0 i1 kp mm) H locs → LwW p l e s m below meth c b H locs 774 ls) : LwW p l e s m below meth c b H locs 120 ls := by
  obtain ⟨hx, hb, hml, hown, hts, hK, hA, hlocks⟩ := id X
  have hbA : ¬ AA s b := Nat.not_le.mpr hbl
  obtain ⟨⟨t, ht, R⟩, e0, e1, -, -⟩ := id F
  have hI : isOk mm := isOk_rel R.1
  have C3 := c_X3_rule l E a b0 b1 h0 g0 k0 fo st i0 i1 kp (wM E mo mm []) (xs (i + 1)) (xs (i + 2))
  have u := u_rule R (xs (i + 1)) (xs (i + 2))
  have kk := kp_rule mm (xs (i + 1)) (xs (i + 2))
  have C4 : ∀ w, Ct l yX4_rule _ _ _ _ E _ (wM E mo mm w) _ _ := fun w => c_X4_rule l E mo mm w (xs (i + 1)) (xs (i + 2)) hI
  generalize xRule st (xs (i + 1)) (xs (i + 2)) = y3 at C3 u
  generalize mRule mm (xs (i + 1)) (xs (i + 2)) = y4 at C4 u kk
  refine lv_aload_n hx hb dL_law_120 rfl (lv_at hl 1 rfl) ?_
  refine lv_aload_n hx hb dL_law_121 rfl (lv_at hl 0 rfl) ?_
  refine lv_iload_n hx hb dL_law_122 rfl (lv_at hl 3 rfl) ?_
  refine lv_iconst (v := 1) hx hb dL_law_123 (by decide) ?_
  refine n_iadd i 1 rfl rfl hx hb dL_law_124 ?_
  refine g_sld (j := i + 1) X hX hbl hbA G rfl (by omega) hL dL_law_125 ?_
  refine lv_aload_n hx hb dL_law_126 rfl (lv_at hl 0 rfl) ?_
  refine lv_iload_n hx hb dL_law_127 rfl (lv_at hl 3 rfl) ?_
  refine lv_iconst (v := 2) hx hb dL_law_128 (by decide) ?_
  refine n_iadd i 2 rfl rfl hx hb dL_law_129 ?_
  refine g_sld (j := i + 2) X hX hbl hbA G rfl (by omega) hL dL_law_130 ?_
  refine g_callVZ (As := [.int (xs (i + 1)), .int (xs (i + 2))]) (rest := []) X hZ kL_13 C3 G 14 rfl rfl ⟨Nat.le_of_ble_eq_true rfl, Nat.le_of_ble_eq_true rfl⟩ ⟨Nat.le_of_ble_eq_true rfl, Nat.le_of_ble_eq_true rfl⟩ rfl hl.1 rfl (Nat.le_of_ble_eq_true rfl) dL_law_131 (fun H locs G => ?_)
  have G := Gw_perm (pw E a b0 b1 mo h0 g0 k0 fo y3.2 i0 i1 kp mm) G
  refine lv_aload_n hx hb dL_law_134 rfl (lv_at hl 2 rfl) ?_
  refine lv_aload_n hx hb dL_law_135 rfl (lv_at hl 0 rfl) ?_
  refine lv_iload_n hx hb dL_law_136 rfl (lv_at hl 3 rfl) ?_
  refine lv_iconst (v := 1) hx hb dL_law_137 (by decide) ?_
  refine n_iadd i 1 rfl rfl hx hb dL_law_138 ?_
  refine g_sld (j := i + 1) X hX hbl hbA G rfl (by omega) hL dL_law_139 ?_
  refine lv_aload_n hx hb dL_law_140 rfl (lv_at hl 0 rfl) ?_
  refine lv_iload_n hx hb dL_law_141 rfl (lv_at hl 3 rfl) ?_
  refine lv_iconst (v := 2) hx hb dL_law_142 (by decide) ?_
  refine n_iadd i 2 rfl rfl hx hb dL_law_143 ?_
  refine g_sld (j := i + 2) X hX hbl hbA G rfl (by omega) hL dL_law_144 ?_
  refine g_callV (As := [.int (xs (i + 1)), .int (xs (i + 2))]) (rest := [_]) X kL_17 (C4 _) G 0 rfl rfl ⟨Nat.le_of_ble_eq_true rfl, Nat.le_of_ble_eq_true rfl⟩ ⟨Nat.le_of_ble_eq_true rfl, Nat.le_of_ble_eq_true rfl⟩ rfl hl.1 rfl (Nat.le_of_ble_eq_true rfl) dL_law_145 (fun H locs G => ?_)
  have G := Gw_perm (pw E a b0 b1 mo h0 g0 k0 fo y3.2 i0 i1 kp y4.2).symm G
  exact lv_icmp_eq (tgt := 774) hx hb dL_law_148 (by decide) (fun _ => TL y3.2 i0 i1 y4.2 kp H locs (Full_kp (Nat.le_add_right T 100) kk ⟨t, by omega, u.2⟩ F) G) (fun h => absurd u.1 h)
set_option maxHeartbeats 1000000 in
theorem lc_out (hL : L ≤ 3072) (hi : i + 6 ≤ L) (hT : T + 100 ≤ 100000) (X : Cx p s m #[Value.ref b] meth c cL_law 4 RL E (AA s)) (hZ : ZZ (AA s) s) (hX : va_X b L xs s s.heap) (hbl : b < s.heap.size) (hf0 : fo 0 = some (b0 0)) (hf1 : fo 1 = some (b1 0)) (F : Full st i0 i1 kp mm T) (G : Gw E (AA s) s (wL E a b0 b1 mo h0 g0 k0 fo st i0 i1 kp mm) H locs) (hl : lv_has ls 4 [(0, .ref b), (1, .ref h0), (2, .ref (mo 0)), (3, .int (nI i))]) (TL : ∀ (st i0 i1 mm : St) (kp : Nat → Int32) (H : Heap) (locs : List Loc), Full st i0 i1 kp mm (T + 100) → Gw E (AA s) s (wL E a b0 b1 mo h0 g0 k0 fo st i0 i1 kp mm) H locs → LwW p l e s m below meth c b H locs 774 ls) : LwW p l e s m below meth c b H locs 153 ls := by
  obtain ⟨hx, hb, hml, hown, hts, hK, hA, hlocks⟩ := id X
  have hbA : ¬ AA s b := Nat.not_le.mpr hbl
  obtain ⟨⟨t, ht, R⟩, e0, e1, -, -⟩ := id F
  have hI : isOk mm := isOk_rel R.1
  have C3 := c_X3_out l E a b0 b1 h0 g0 k0 fo st i0 i1 kp (wM E mo mm []) (xs (i + 1)) (xs (i + 2)) (xs (i + 3)) (xs (i + 4)) (xs (i + 5))
  have u := u_out R (xs (i + 1)) (xs (i + 2)) (xs (i + 3)) (xs (i + 4)) (xs (i + 5))
  have kk := kp_out mm (xs (i + 1)) (xs (i + 2)) (xs (i + 3)) (xs (i + 4)) (xs (i + 5))
  have C4 : ∀ w, Ct l yX4_out _ _ _ _ E _ (wM E mo mm w) _ _ := fun w => c_X4_out l E mo mm w (xs (i + 1)) (xs (i + 2)) (xs (i + 3)) (xs (i + 4)) (xs (i + 5))
  generalize xOut st (xs (i + 1)) (xs (i + 2)) (xs (i + 3)) (xs (i + 4)) (xs (i + 5)) = y3 at C3 u
  generalize mOut mm (xs (i + 1)) (xs (i + 2)) (xs (i + 3)) (xs (i + 4)) (xs (i + 5)) = y4 at C4 u kk
  refine lv_aload_n hx hb dL_law_153 rfl (lv_at hl 1 rfl) ?_
  refine lv_aload_n hx hb dL_law_154 rfl (lv_at hl 0 rfl) ?_
  refine lv_iload_n hx hb dL_law_155 rfl (lv_at hl 3 rfl) ?_
  refine lv_iconst (v := 1) hx hb dL_law_156 (by decide) ?_
  refine n_iadd i 1 rfl rfl hx hb dL_law_157 ?_
  refine g_sld (j := i + 1) X hX hbl hbA G rfl (by omega) hL dL_law_158 ?_
  refine lv_aload_n hx hb dL_law_159 rfl (lv_at hl 0 rfl) ?_
  refine lv_iload_n hx hb dL_law_160 rfl (lv_at hl 3 rfl) ?_
  refine lv_iconst (v := 2) hx hb dL_law_161 (by decide) ?_
  refine n_iadd i 2 rfl rfl hx hb dL_law_162 ?_
  refine g_sld (j := i + 2) X hX hbl hbA G rfl (by omega) hL dL_law_163 ?_
  refine lv_aload_n hx hb dL_law_164 rfl (lv_at hl 0 rfl) ?_
  refine lv_iload_n hx hb dL_law_165 rfl (lv_at hl 3 rfl) ?_
  refine lv_iconst (v := 3) hx hb dL_law_166 (by decide) ?_
  refine n_iadd i 3 rfl rfl hx hb dL_law_167 ?_
  refine g_sld (j := i + 3) X hX hbl hbA G rfl (by omega) hL dL_law_168 ?_
  refine lv_aload_n hx hb dL_law_169 rfl (lv_at hl 0 rfl) ?_
  refine lv_iload_n hx hb dL_law_170 rfl (lv_at hl 3 rfl) ?_
  refine lv_iconst (v := 4) hx hb dL_law_171 (by decide) ?_
  refine n_iadd i 4 rfl rfl hx hb dL_law_172 ?_
  refine g_sld (j := i + 4) X hX hbl hbA G rfl (by omega) hL dL_law_173 ?_
  refine lv_aload_n hx hb dL_law_174 rfl (lv_at hl 0 rfl) ?_
  refine lv_iload_n hx hb dL_law_175 rfl (lv_at hl 3 rfl) ?_
  refine lv_iconst (v := 5) hx hb dL_law_176 (by decide) ?_
  refine n_iadd i 5 rfl rfl hx hb dL_law_177 ?_
  refine g_sld (j := i + 5) X hX hbl hbA G rfl (by omega) hL dL_law_178 ?_
  refine g_callV (As := [.int (xs (i + 1)), .int (xs (i + 2)), .int (xs (i + 3)), .int (xs (i + 4)), .int (xs (i + 5))]) (rest := []) X kL_18 C3 G 14 rfl rfl ⟨Nat.le_of_ble_eq_true rfl, Nat.le_of_ble_eq_true rfl⟩ ⟨Nat.le_of_ble_eq_true rfl, Nat.le_of_ble_eq_true rfl⟩ rfl hl.1 rfl (Nat.le_of_ble_eq_true rfl) dL_law_179 (fun H locs G => ?_)
  have G := Gw_perm (pw E a b0 b1 mo h0 g0 k0 fo y3.2 i0 i1 kp mm) G
  refine lv_aload_n hx hb dL_law_182 rfl (lv_at hl 2 rfl) ?_
  refine lv_aload_n hx hb dL_law_183 rfl (lv_at hl 0 rfl) ?_
  refine lv_iload_n hx hb dL_law_184 rfl (lv_at hl 3 rfl) ?_
  refine lv_iconst (v := 1) hx hb dL_law_185 (by decide) ?_
  refine n_iadd i 1 rfl rfl hx hb dL_law_186 ?_
  refine g_sld (j := i + 1) X hX hbl hbA G rfl (by omega) hL dL_law_187 ?_
  refine lv_aload_n hx hb dL_law_188 rfl (lv_at hl 0 rfl) ?_
  refine lv_iload_n hx hb dL_law_189 rfl (lv_at hl 3 rfl) ?_
  refine lv_iconst (v := 2) hx hb dL_law_190 (by decide) ?_
  refine n_iadd i 2 rfl rfl hx hb dL_law_191 ?_
  refine g_sld (j := i + 2) X hX hbl hbA G rfl (by omega) hL dL_law_192 ?_
  refine lv_aload_n hx hb dL_law_193 rfl (lv_at hl 0 rfl) ?_
  refine lv_iload_n hx hb dL_law_194 rfl (lv_at hl 3 rfl) ?_
  refine lv_iconst (v := 3) hx hb dL_law_195 (by decide) ?_
  refine n_iadd i 3 rfl rfl hx hb dL_law_196 ?_
  refine g_sld (j := i + 3) X hX hbl hbA G rfl (by omega) hL dL_law_197 ?_
  refine lv_aload_n hx hb dL_law_198 rfl (lv_at hl 0 rfl) ?_
  refine lv_iload_n hx hb dL_law_199 rfl (lv_at hl 3 rfl) ?_
  refine lv_iconst (v := 4) hx hb dL_law_200 (by decide) ?_
  refine n_iadd i 4 rfl rfl hx hb dL_law_201 ?_
  refine g_sld (j := i + 4) X hX hbl hbA G rfl (by omega) hL dL_law_202 ?_
  refine lv_aload_n hx hb dL_law_203 rfl (lv_at hl 0 rfl) ?_
  refine lv_iload_n hx hb dL_law_204 rfl (lv_at hl 3 rfl) ?_
  refine lv_iconst (v := 5) hx hb dL_law_205 (by decide) ?_
  refine n_iadd i 5 rfl rfl hx hb dL_law_206 ?_
  refine g_sld (j := i + 5) X hX hbl hbA G rfl (by omega) hL dL_law_207 ?_
  refine g_callV (As := [.int (xs (i + 1)), .int (xs (i + 2)), .int (xs (i + 3)), .int (xs (i + 4)), .int (xs (i + 5))]) (rest := [_]) X kL_22 (C4 _) G 0 rfl rfl ⟨Nat.le_of_ble_eq_true rfl, Nat.le_of_ble_eq_true rfl⟩ ⟨Nat.le_of_ble_eq_true rfl, Nat.le_of_ble_eq_true rfl⟩ rfl hl.1 rfl (Nat.le_of_ble_eq_true rfl) dL_law_208 (fun H locs G => ?_)
  have G := Gw_perm (pw E a b0 b1 mo h0 g0 k0 fo y3.2 i0 i1 kp y4.2).symm G
  exact lv_icmp_eq (tgt := 774) hx hb dL_law_211 (by decide) (fun _ => TL y3.2 i0 i1 y4.2 kp H locs (Full_kp (Nat.le_add_right T 100) kk ⟨t, by omega, u.2⟩ F) G) (fun h => absurd u.1 h)
set_option maxHeartbeats 1000000 in
theorem lc_in (hL : L ≤ 3072) (hi : i + 6 ≤ L) (hT : T + 100 ≤ 100000) (X : Cx p s m #[Value.ref b] meth c cL_law 4 RL E (AA s)) (hZ : ZZ (AA s) s) (hX : va_X b L xs s s.heap) (hbl : b < s.heap.size) (hf0 : fo 0 = some (b0 0)) (hf1 : fo 1 = some (b1 0)) (F : Full st i0 i1 kp mm T) (G : Gw E (AA s) s (wL E a b0 b1 mo h0 g0 k0 fo st i0 i1 kp mm) H locs) (hl : lv_has ls 4 [(0, .ref b), (1, .ref h0), (2, .ref (mo 0)), (3, .int (nI i))]) (TL : ∀ (st i0 i1 mm : St) (kp : Nat → Int32) (H : Heap) (locs : List Loc), Full st i0 i1 kp mm (T + 100) → Gw E (AA s) s (wL E a b0 b1 mo h0 g0 k0 fo st i0 i1 kp mm) H locs → LwW p l e s m below meth c b H locs 774 ls) : LwW p l e s m below meth c b H locs 216 ls := by
  obtain ⟨hx, hb, hml, hown, hts, hK, hA, hlocks⟩ := id X
  have hbA : ¬ AA s b := Nat.not_le.mpr hbl
  obtain ⟨⟨t, ht, R⟩, e0, e1, -, -⟩ := id F
  have hI : isOk mm := isOk_rel R.1
  have C3 := c_X3_in l E a b0 b1 h0 g0 k0 fo st i0 i1 kp (wM E mo mm []) (xs (i + 1)) (xs (i + 2)) (xs (i + 3)) (xs (i + 4))
  have u := u_in R (xs (i + 1)) (xs (i + 2)) (xs (i + 3)) (xs (i + 4))
  have kk := kp_in mm (xs (i + 1)) (xs (i + 2)) (xs (i + 3)) (xs (i + 4))
  have C4 : ∀ w, Ct l yX4_in _ _ _ _ E _ (wM E mo mm w) _ _ := fun w => c_X4_in l E mo mm w (xs (i + 1)) (xs (i + 2)) (xs (i + 3)) (xs (i + 4))
  generalize xIn st (xs (i + 1)) (xs (i + 2)) (xs (i + 3)) (xs (i + 4)) = y3 at C3 u
  generalize mIn mm (xs (i + 1)) (xs (i + 2)) (xs (i + 3)) (xs (i + 4)) = y4 at C4 u kk
  refine lv_aload_n hx hb dL_law_216 rfl (lv_at hl 1 rfl) ?_
  refine lv_aload_n hx hb dL_law_217 rfl (lv_at hl 0 rfl) ?_
  refine lv_iload_n hx hb dL_law_218 rfl (lv_at hl 3 rfl) ?_
  refine lv_iconst (v := 1) hx hb dL_law_219 (by decide) ?_
  refine n_iadd i 1 rfl rfl hx hb dL_law_220 ?_
  refine g_sld (j := i + 1) X hX hbl hbA G rfl (by omega) hL dL_law_221 ?_
  refine lv_aload_n hx hb dL_law_222 rfl (lv_at hl 0 rfl) ?_
  refine lv_iload_n hx hb dL_law_223 rfl (lv_at hl 3 rfl) ?_
  refine lv_iconst (v := 2) hx hb dL_law_224 (by decide) ?_
  refine n_iadd i 2 rfl rfl hx hb dL_law_225 ?_
  refine g_sld (j := i + 2) X hX hbl hbA G rfl (by omega) hL dL_law_226 ?_
  refine lv_aload_n hx hb dL_law_227 rfl (lv_at hl 0 rfl) ?_
  refine lv_iload_n hx hb dL_law_228 rfl (lv_at hl 3 rfl) ?_
  refine lv_iconst (v := 3) hx hb dL_law_229 (by decide) ?_
  refine n_iadd i 3 rfl rfl hx hb dL_law_230 ?_
  refine g_sld (j := i + 3) X hX hbl hbA G rfl (by omega) hL dL_law_231 ?_
  refine lv_aload_n hx hb dL_law_232 rfl (lv_at hl 0 rfl) ?_
  refine lv_iload_n hx hb dL_law_233 rfl (lv_at hl 3 rfl) ?_
  refine lv_iconst (v := 4) hx hb dL_law_234 (by decide) ?_
  refine n_iadd i 4 rfl rfl hx hb dL_law_235 ?_
  refine g_sld (j := i + 4) X hX hbl hbA G rfl (by omega) hL dL_law_236 ?_
  refine g_callV (As := [.int (xs (i + 1)), .int (xs (i + 2)), .int (xs (i + 3)), .int (xs (i + 4))]) (rest := []) X kL_23 C3 G 14 rfl rfl ⟨Nat.le_of_ble_eq_true rfl, Nat.le_of_ble_eq_true rfl⟩ ⟨Nat.le_of_ble_eq_true rfl, Nat.le_of_ble_eq_true rfl⟩ rfl hl.1 rfl (Nat.le_of_ble_eq_true rfl) dL_law_237 (fun H locs G => ?_)
  have G := Gw_perm (pw E a b0 b1 mo h0 g0 k0 fo y3.2 i0 i1 kp mm) G
  refine lv_aload_n hx hb dL_law_240 rfl (lv_at hl 2 rfl) ?_
  refine lv_aload_n hx hb dL_law_241 rfl (lv_at hl 0 rfl) ?_
  refine lv_iload_n hx hb dL_law_242 rfl (lv_at hl 3 rfl) ?_
  refine lv_iconst (v := 1) hx hb dL_law_243 (by decide) ?_
  refine n_iadd i 1 rfl rfl hx hb dL_law_244 ?_
  refine g_sld (j := i + 1) X hX hbl hbA G rfl (by omega) hL dL_law_245 ?_
  refine lv_aload_n hx hb dL_law_246 rfl (lv_at hl 0 rfl) ?_
  refine lv_iload_n hx hb dL_law_247 rfl (lv_at hl 3 rfl) ?_
  refine lv_iconst (v := 2) hx hb dL_law_248 (by decide) ?_
  refine n_iadd i 2 rfl rfl hx hb dL_law_249 ?_
  refine g_sld (j := i + 2) X hX hbl hbA G rfl (by omega) hL dL_law_250 ?_
  refine lv_aload_n hx hb dL_law_251 rfl (lv_at hl 0 rfl) ?_
  refine lv_iload_n hx hb dL_law_252 rfl (lv_at hl 3 rfl) ?_
  refine lv_iconst (v := 3) hx hb dL_law_253 (by decide) ?_
  refine n_iadd i 3 rfl rfl hx hb dL_law_254 ?_
  refine g_sld (j := i + 3) X hX hbl hbA G rfl (by omega) hL dL_law_255 ?_
  refine lv_aload_n hx hb dL_law_256 rfl (lv_at hl 0 rfl) ?_
  refine lv_iload_n hx hb dL_law_257 rfl (lv_at hl 3 rfl) ?_
  refine lv_iconst (v := 4) hx hb dL_law_258 (by decide) ?_
  refine n_iadd i 4 rfl rfl hx hb dL_law_259 ?_
  refine g_sld (j := i + 4) X hX hbl hbA G rfl (by omega) hL dL_law_260 ?_
  refine g_callV (As := [.int (xs (i + 1)), .int (xs (i + 2)), .int (xs (i + 3)), .int (xs (i + 4))]) (rest := [_]) X kL_27 (C4 _) G 0 rfl rfl ⟨Nat.le_of_ble_eq_true rfl, Nat.le_of_ble_eq_true rfl⟩ ⟨Nat.le_of_ble_eq_true rfl, Nat.le_of_ble_eq_true rfl⟩ rfl hl.1 rfl (Nat.le_of_ble_eq_true rfl) dL_law_261 (fun H locs G => ?_)
  have G := Gw_perm (pw E a b0 b1 mo h0 g0 k0 fo y3.2 i0 i1 kp y4.2).symm G
  exact lv_icmp_eq (tgt := 774) hx hb dL_law_264 (by decide) (fun _ => TL y3.2 i0 i1 y4.2 kp H locs (Full_kp (Nat.le_add_right T 100) kk ⟨t, by omega, u.2⟩ F) G) (fun h => absurd u.1 h)
set_option maxHeartbeats 1000000 in
theorem lc_turn (hL : L ≤ 3072) (hi : i + 6 ≤ L) (hT : T + 100 ≤ 100000) (X : Cx p s m #[Value.ref b] meth c cL_law 4 RL E (AA s)) (hZ : ZZ (AA s) s) (hX : va_X b L xs s s.heap) (hbl : b < s.heap.size) (hf0 : fo 0 = some (b0 0)) (hf1 : fo 1 = some (b1 0)) (F : Full st i0 i1 kp mm T) (G : Gw E (AA s) s (wL E a b0 b1 mo h0 g0 k0 fo st i0 i1 kp mm) H locs) (hl : lv_has ls 4 [(0, .ref b), (1, .ref h0), (2, .ref (mo 0)), (3, .int (nI i))]) (TL : ∀ (st i0 i1 mm : St) (kp : Nat → Int32) (H : Heap) (locs : List Loc), Full st i0 i1 kp mm (T + 100) → Gw E (AA s) s (wL E a b0 b1 mo h0 g0 k0 fo st i0 i1 kp mm) H locs → LwW p l e s m below meth c b H locs 774 ls) : LwW p l e s m below meth c b H locs 269 ls := by
  obtain ⟨hx, hb, hml, hown, hts, hK, hA, hlocks⟩ := id X
  have hbA : ¬ AA s b := Nat.not_le.mpr hbl
  obtain ⟨⟨t, ht, R⟩, e0, e1, -, -⟩ := id F
  have hI : isOk mm := isOk_rel R.1
  have C3 := c_X3_turn l E a b0 b1 h0 g0 k0 fo st i0 i1 kp (wM E mo mm []) (xs (i + 1)) (xs (i + 2)) (xs (i + 3)) (xs (i + 4))
  have u := u_turn R (xs (i + 1)) (xs (i + 2)) (xs (i + 3)) (xs (i + 4))
  have kk := kp_turn mm (xs (i + 1)) (xs (i + 2)) (xs (i + 3)) (xs (i + 4))
  have C4 : ∀ w, Ct l yX4_turn _ _ _ _ E _ (wM E mo mm w) _ _ := fun w => c_X4_turn l E mo mm w (xs (i + 1)) (xs (i + 2)) (xs (i + 3)) (xs (i + 4))
  generalize xTurn st (xs (i + 1)) (xs (i + 2)) (xs (i + 3)) (xs (i + 4)) = y3 at C3 u
  generalize mTurn mm (xs (i + 1)) (xs (i + 2)) (xs (i + 3)) (xs (i + 4)) = y4 at C4 u kk
  refine lv_aload_n hx hb dL_law_269 rfl (lv_at hl 1 rfl) ?_
  refine lv_aload_n hx hb dL_law_270 rfl (lv_at hl 0 rfl) ?_
  refine lv_iload_n hx hb dL_law_271 rfl (lv_at hl 3 rfl) ?_
  refine lv_iconst (v := 1) hx hb dL_law_272 (by decide) ?_
  refine n_iadd i 1 rfl rfl hx hb dL_law_273 ?_
  refine g_sld (j := i + 1) X hX hbl hbA G rfl (by omega) hL dL_law_274 ?_
  refine lv_aload_n hx hb dL_law_275 rfl (lv_at hl 0 rfl) ?_
  refine lv_iload_n hx hb dL_law_276 rfl (lv_at hl 3 rfl) ?_
  refine lv_iconst (v := 2) hx hb dL_law_277 (by decide) ?_
  refine n_iadd i 2 rfl rfl hx hb dL_law_278 ?_
  refine g_sld (j := i + 2) X hX hbl hbA G rfl (by omega) hL dL_law_279 ?_
  refine lv_aload_n hx hb dL_law_280 rfl (lv_at hl 0 rfl) ?_
  refine lv_iload_n hx hb dL_law_281 rfl (lv_at hl 3 rfl) ?_
  refine lv_iconst (v := 3) hx hb dL_law_282 (by decide) ?_
  refine n_iadd i 3 rfl rfl hx hb dL_law_283 ?_
  refine g_sld (j := i + 3) X hX hbl hbA G rfl (by omega) hL dL_law_284 ?_
  refine lv_aload_n hx hb dL_law_285 rfl (lv_at hl 0 rfl) ?_
  refine lv_iload_n hx hb dL_law_286 rfl (lv_at hl 3 rfl) ?_
  refine lv_iconst (v := 4) hx hb dL_law_287 (by decide) ?_
  refine n_iadd i 4 rfl rfl hx hb dL_law_288 ?_
  refine g_sld (j := i + 4) X hX hbl hbA G rfl (by omega) hL dL_law_289 ?_
  refine g_callV (As := [.int (xs (i + 1)), .int (xs (i + 2)), .int (xs (i + 3)), .int (xs (i + 4))]) (rest := []) X kL_28 C3 G 14 rfl rfl ⟨Nat.le_of_ble_eq_true rfl, Nat.le_of_ble_eq_true rfl⟩ ⟨Nat.le_of_ble_eq_true rfl, Nat.le_of_ble_eq_true rfl⟩ rfl hl.1 rfl (Nat.le_of_ble_eq_true rfl) dL_law_290 (fun H locs G => ?_)
  have G := Gw_perm (pw E a b0 b1 mo h0 g0 k0 fo y3.2 i0 i1 kp mm) G
  refine lv_aload_n hx hb dL_law_293 rfl (lv_at hl 2 rfl) ?_
  refine lv_aload_n hx hb dL_law_294 rfl (lv_at hl 0 rfl) ?_
  refine lv_iload_n hx hb dL_law_295 rfl (lv_at hl 3 rfl) ?_
  refine lv_iconst (v := 1) hx hb dL_law_296 (by decide) ?_
  refine n_iadd i 1 rfl rfl hx hb dL_law_297 ?_
  refine g_sld (j := i + 1) X hX hbl hbA G rfl (by omega) hL dL_law_298 ?_
  refine lv_aload_n hx hb dL_law_299 rfl (lv_at hl 0 rfl) ?_
  refine lv_iload_n hx hb dL_law_300 rfl (lv_at hl 3 rfl) ?_
  refine lv_iconst (v := 2) hx hb dL_law_301 (by decide) ?_
  refine n_iadd i 2 rfl rfl hx hb dL_law_302 ?_
  refine g_sld (j := i + 2) X hX hbl hbA G rfl (by omega) hL dL_law_303 ?_
  refine lv_aload_n hx hb dL_law_304 rfl (lv_at hl 0 rfl) ?_
  refine lv_iload_n hx hb dL_law_305 rfl (lv_at hl 3 rfl) ?_
  refine lv_iconst (v := 3) hx hb dL_law_306 (by decide) ?_
  refine n_iadd i 3 rfl rfl hx hb dL_law_307 ?_
  refine g_sld (j := i + 3) X hX hbl hbA G rfl (by omega) hL dL_law_308 ?_
  refine lv_aload_n hx hb dL_law_309 rfl (lv_at hl 0 rfl) ?_
  refine lv_iload_n hx hb dL_law_310 rfl (lv_at hl 3 rfl) ?_
  refine lv_iconst (v := 4) hx hb dL_law_311 (by decide) ?_
  refine n_iadd i 4 rfl rfl hx hb dL_law_312 ?_
  refine g_sld (j := i + 4) X hX hbl hbA G rfl (by omega) hL dL_law_313 ?_
  refine g_callV (As := [.int (xs (i + 1)), .int (xs (i + 2)), .int (xs (i + 3)), .int (xs (i + 4))]) (rest := [_]) X kL_31 (C4 _) G 0 rfl rfl ⟨Nat.le_of_ble_eq_true rfl, Nat.le_of_ble_eq_true rfl⟩ ⟨Nat.le_of_ble_eq_true rfl, Nat.le_of_ble_eq_true rfl⟩ rfl hl.1 rfl (Nat.le_of_ble_eq_true rfl) dL_law_314 (fun H locs G => ?_)
  have G := Gw_perm (pw E a b0 b1 mo h0 g0 k0 fo y3.2 i0 i1 kp y4.2).symm G
  exact lv_icmp_eq (tgt := 774) hx hb dL_law_317 (by decide) (fun _ => TL y3.2 i0 i1 y4.2 kp H locs (Full_kp (Nat.le_add_right T 100) kk ⟨t, by omega, u.2⟩ F) G) (fun h => absurd u.1 h)
set_option maxHeartbeats 1000000 in
theorem lc_part (hL : L ≤ 3072) (hi : i + 6 ≤ L) (hT : T + 100 ≤ 100000) (X : Cx p s m #[Value.ref b] meth c cL_law 4 RL E (AA s)) (hZ : ZZ (AA s) s) (hX : va_X b L xs s s.heap) (hbl : b < s.heap.size) (hf0 : fo 0 = some (b0 0)) (hf1 : fo 1 = some (b1 0)) (F : Full st i0 i1 kp mm T) (G : Gw E (AA s) s (wL E a b0 b1 mo h0 g0 k0 fo st i0 i1 kp mm) H locs) (hl : lv_has ls 4 [(0, .ref b), (1, .ref h0), (2, .ref (mo 0)), (3, .int (nI i))]) (TL : ∀ (st i0 i1 mm : St) (kp : Nat → Int32) (H : Heap) (locs : List Loc), Full st i0 i1 kp mm (T + 100) → Gw E (AA s) s (wL E a b0 b1 mo h0 g0 k0 fo st i0 i1 kp mm) H locs → LwW p l e s m below meth c b H locs 774 ls) : LwW p l e s m below meth c b H locs 322 ls := by
  obtain ⟨hx, hb, hml, hown, hts, hK, hA, hlocks⟩ := id X
  have hbA : ¬ AA s b := Nat.not_le.mpr hbl
  obtain ⟨⟨t, ht, R⟩, e0, e1, -, -⟩ := id F
  have hI : isOk mm := isOk_rel R.1
  have C3 := c_X3_part l E a b0 b1 h0 g0 k0 fo st i0 i1 kp (wM E mo mm []) (xs (i + 1)) (xs (i + 2)) (xs (i + 3)) (xs (i + 4)) (xs (i + 5))
  have u := u_part R (xs (i + 1)) (xs (i + 2)) (xs (i + 3)) (xs (i + 4)) (xs (i + 5))
  have kk := kp_part mm (xs (i + 1)) (xs (i + 2)) (xs (i + 3)) (xs (i + 4)) (xs (i + 5))
  have C4 : ∀ w, Ct l yX4_part _ _ _ _ E _ (wM E mo mm w) _ _ := fun w => c_X4_part l E mo mm w (xs (i + 1)) (xs (i + 2)) (xs (i + 3)) (xs (i + 4)) (xs (i + 5))
  generalize xPart st (xs (i + 1)) (xs (i + 2)) (xs (i + 3)) (xs (i + 4)) (xs (i + 5)) = y3 at C3 u
  generalize mPart mm (xs (i + 1)) (xs (i + 2)) (xs (i + 3)) (xs (i + 4)) (xs (i + 5)) = y4 at C4 u kk
  refine lv_aload_n hx hb dL_law_322 rfl (lv_at hl 1 rfl) ?_
  refine lv_aload_n hx hb dL_law_323 rfl (lv_at hl 0 rfl) ?_
  refine lv_iload_n hx hb dL_law_324 rfl (lv_at hl 3 rfl) ?_
  refine lv_iconst (v := 1) hx hb dL_law_325 (by decide) ?_
  refine n_iadd i 1 rfl rfl hx hb dL_law_326 ?_
  refine g_sld (j := i + 1) X hX hbl hbA G rfl (by omega) hL dL_law_327 ?_
  refine lv_aload_n hx hb dL_law_328 rfl (lv_at hl 0 rfl) ?_
  refine lv_iload_n hx hb dL_law_329 rfl (lv_at hl 3 rfl) ?_
  refine lv_iconst (v := 2) hx hb dL_law_330 (by decide) ?_
  refine n_iadd i 2 rfl rfl hx hb dL_law_331 ?_
  refine g_sld (j := i + 2) X hX hbl hbA G rfl (by omega) hL dL_law_332 ?_
  refine lv_aload_n hx hb dL_law_333 rfl (lv_at hl 0 rfl) ?_
  refine lv_iload_n hx hb dL_law_334 rfl (lv_at hl 3 rfl) ?_
  refine lv_iconst (v := 3) hx hb dL_law_335 (by decide) ?_
  refine n_iadd i 3 rfl rfl hx hb dL_law_336 ?_
  refine g_sld (j := i + 3) X hX hbl hbA G rfl (by omega) hL dL_law_337 ?_
  refine lv_aload_n hx hb dL_law_338 rfl (lv_at hl 0 rfl) ?_
  refine lv_iload_n hx hb dL_law_339 rfl (lv_at hl 3 rfl) ?_
  refine lv_iconst (v := 4) hx hb dL_law_340 (by decide) ?_
  refine n_iadd i 4 rfl rfl hx hb dL_law_341 ?_
  refine g_sld (j := i + 4) X hX hbl hbA G rfl (by omega) hL dL_law_342 ?_
  refine lv_aload_n hx hb dL_law_343 rfl (lv_at hl 0 rfl) ?_
  refine lv_iload_n hx hb dL_law_344 rfl (lv_at hl 3 rfl) ?_
  refine lv_iconst (v := 5) hx hb dL_law_345 (by decide) ?_
  refine n_iadd i 5 rfl rfl hx hb dL_law_346 ?_
  refine g_sld (j := i + 5) X hX hbl hbA G rfl (by omega) hL dL_law_347 ?_
  refine g_callV (As := [.int (xs (i + 1)), .int (xs (i + 2)), .int (xs (i + 3)), .int (xs (i + 4)), .int (xs (i + 5))]) (rest := []) X kL_32 C3 G 14 rfl rfl ⟨Nat.le_of_ble_eq_true rfl, Nat.le_of_ble_eq_true rfl⟩ ⟨Nat.le_of_ble_eq_true rfl, Nat.le_of_ble_eq_true rfl⟩ rfl hl.1 rfl (Nat.le_of_ble_eq_true rfl) dL_law_348 (fun H locs G => ?_)
  have G := Gw_perm (pw E a b0 b1 mo h0 g0 k0 fo y3.2 i0 i1 kp mm) G
  refine lv_aload_n hx hb dL_law_351 rfl (lv_at hl 2 rfl) ?_
  refine lv_aload_n hx hb dL_law_352 rfl (lv_at hl 0 rfl) ?_
  refine lv_iload_n hx hb dL_law_353 rfl (lv_at hl 3 rfl) ?_
  refine lv_iconst (v := 1) hx hb dL_law_354 (by decide) ?_
  refine n_iadd i 1 rfl rfl hx hb dL_law_355 ?_
  refine g_sld (j := i + 1) X hX hbl hbA G rfl (by omega) hL dL_law_356 ?_
  refine lv_aload_n hx hb dL_law_357 rfl (lv_at hl 0 rfl) ?_
  refine lv_iload_n hx hb dL_law_358 rfl (lv_at hl 3 rfl) ?_
  refine lv_iconst (v := 2) hx hb dL_law_359 (by decide) ?_
  refine n_iadd i 2 rfl rfl hx hb dL_law_360 ?_
  refine g_sld (j := i + 2) X hX hbl hbA G rfl (by omega) hL dL_law_361 ?_
  refine lv_aload_n hx hb dL_law_362 rfl (lv_at hl 0 rfl) ?_
  refine lv_iload_n hx hb dL_law_363 rfl (lv_at hl 3 rfl) ?_
  refine lv_iconst (v := 3) hx hb dL_law_364 (by decide) ?_
  refine n_iadd i 3 rfl rfl hx hb dL_law_365 ?_
  refine g_sld (j := i + 3) X hX hbl hbA G rfl (by omega) hL dL_law_366 ?_
  refine lv_aload_n hx hb dL_law_367 rfl (lv_at hl 0 rfl) ?_
  refine lv_iload_n hx hb dL_law_368 rfl (lv_at hl 3 rfl) ?_
  refine lv_iconst (v := 4) hx hb dL_law_369 (by decide) ?_
  refine n_iadd i 4 rfl rfl hx hb dL_law_370 ?_
  refine g_sld (j := i + 4) X hX hbl hbA G rfl (by omega) hL dL_law_371 ?_
  refine lv_aload_n hx hb dL_law_372 rfl (lv_at hl 0 rfl) ?_
  refine lv_iload_n hx hb dL_law_373 rfl (lv_at hl 3 rfl) ?_
  refine lv_iconst (v := 5) hx hb dL_law_374 (by decide) ?_
  refine n_iadd i 5 rfl rfl hx hb dL_law_375 ?_
  refine g_sld (j := i + 5) X hX hbl hbA G rfl (by omega) hL dL_law_376 ?_
  refine g_callV (As := [.int (xs (i + 1)), .int (xs (i + 2)), .int (xs (i + 3)), .int (xs (i + 4)), .int (xs (i + 5))]) (rest := [_]) X kL_35 (C4 _) G 0 rfl rfl ⟨Nat.le_of_ble_eq_true rfl, Nat.le_of_ble_eq_true rfl⟩ ⟨Nat.le_of_ble_eq_true rfl, Nat.le_of_ble_eq_true rfl⟩ rfl hl.1 rfl (Nat.le_of_ble_eq_true rfl) dL_law_377 (fun H locs G => ?_)
  have G := Gw_perm (pw E a b0 b1 mo h0 g0 k0 fo y3.2 i0 i1 kp y4.2).symm G
  exact lv_icmp_eq (tgt := 774) hx hb dL_law_380 (by decide) (fun _ => TL y3.2 i0 i1 y4.2 kp H locs (Full_kp (Nat.le_add_right T 100) kk ⟨t, by omega, u.2⟩ F) G) (fun h => absurd u.1 h)
set_option maxHeartbeats 1000000 in
theorem lc_tick (hL : L ≤ 3072) (hi : i + 6 ≤ L) (hT : T + 100 ≤ 100000) (X : Cx p s m #[Value.ref b] meth c cL_law 4 RL E (AA s)) (hZ : ZZ (AA s) s) (hX : va_X b L xs s s.heap) (hbl : b < s.heap.size) (hf0 : fo 0 = some (b0 0)) (hf1 : fo 1 = some (b1 0)) (F : Full st i0 i1 kp mm T) (G : Gw E (AA s) s (wL E a b0 b1 mo h0 g0 k0 fo st i0 i1 kp mm) H locs) (hl : lv_has ls 4 [(0, .ref b), (1, .ref h0), (2, .ref (mo 0)), (3, .int (nI i))]) (TL : ∀ (st i0 i1 mm : St) (kp : Nat → Int32) (H : Heap) (locs : List Loc), Full st i0 i1 kp mm (T + 100) → Gw E (AA s) s (wL E a b0 b1 mo h0 g0 k0 fo st i0 i1 kp mm) H locs → LwW p l e s m below meth c b H locs 774 ls) : LwW p l e s m below meth c b H locs 385 ls := by
  obtain ⟨hx, hb, hml, hown, hts, hK, hA, hlocks⟩ := id X
  have hbA : ¬ AA s b := Nat.not_le.mpr hbl
  obtain ⟨⟨t, ht, R⟩, e0, e1, -, -⟩ := id F
  have hI : isOk mm := isOk_rel R.1
  have C3 := c_X3_tick l E a b0 b1 h0 g0 k0 fo st i0 i1 kp (wM E mo mm []) (xs (i + 1))
  have u := u_tick R (by omega) (xs (i + 1))
  have kk := kp_tick mm (xs (i + 1))
  have C4 : ∀ w, Ct l yX4_tick _ _ _ _ E _ (wM E mo mm w) _ _ := fun w => c_X4_tick l E mo mm w (xs (i + 1)) hI
  generalize xTick st (xs (i + 1)) = y3 at C3 u
  generalize mTick mm (xs (i + 1)) = y4 at C4 u kk
  refine lv_aload_n hx hb dL_law_385 rfl (lv_at hl 1 rfl) ?_
  refine lv_aload_n hx hb dL_law_386 rfl (lv_at hl 0 rfl) ?_
  refine lv_iload_n hx hb dL_law_387 rfl (lv_at hl 3 rfl) ?_
  refine lv_iconst (v := 1) hx hb dL_law_388 (by decide) ?_
  refine n_iadd i 1 rfl rfl hx hb dL_law_389 ?_
  refine g_sld (j := i + 1) X hX hbl hbA G rfl (by omega) hL dL_law_390 ?_
  refine g_callV (As := [.int (xs (i + 1))]) (rest := []) X kL_36 C3 G 14 rfl rfl ⟨Nat.le_of_ble_eq_true rfl, Nat.le_of_ble_eq_true rfl⟩ ⟨Nat.le_of_ble_eq_true rfl, Nat.le_of_ble_eq_true rfl⟩ rfl hl.1 rfl (Nat.le_of_ble_eq_true rfl) dL_law_391 (fun H locs G => ?_)
  have G := Gw_perm (pw E a b0 b1 mo h0 g0 k0 fo y3.2 i0 i1 kp mm) G
  refine lv_aload_n hx hb dL_law_394 rfl (lv_at hl 2 rfl) ?_
  refine lv_aload_n hx hb dL_law_395 rfl (lv_at hl 0 rfl) ?_
  refine lv_iload_n hx hb dL_law_396 rfl (lv_at hl 3 rfl) ?_
  refine lv_iconst (v := 1) hx hb dL_law_397 (by decide) ?_
  refine n_iadd i 1 rfl rfl hx hb dL_law_398 ?_
  refine g_sld (j := i + 1) X hX hbl hbA G rfl (by omega) hL dL_law_399 ?_
  refine g_callV (As := [.int (xs (i + 1))]) (rest := [_]) X kL_40 (C4 _) G 0 rfl rfl ⟨Nat.le_of_ble_eq_true rfl, Nat.le_of_ble_eq_true rfl⟩ ⟨Nat.le_of_ble_eq_true rfl, Nat.le_of_ble_eq_true rfl⟩ rfl hl.1 rfl (Nat.le_of_ble_eq_true rfl) dL_law_400 (fun H locs G => ?_)
  have G := Gw_perm (pw E a b0 b1 mo h0 g0 k0 fo y3.2 i0 i1 kp y4.2).symm G
  exact lv_icmp_eq (tgt := 774) hx hb dL_law_403 (by decide) (fun _ => TL y3.2 i0 i1 y4.2 kp H locs (Full_kp (Nat.le_add_right T 100) kk (by obtain ⟨t2, q1, q2⟩ := u.2; exact ⟨t2, by omega, q2⟩) F) G) (fun h => absurd u.1 h)
set_option maxHeartbeats 1000000 in
theorem lc_drop (hL : L ≤ 3072) (hi : i + 6 ≤ L) (hT : T + 100 ≤ 100000) (X : Cx p s m #[Value.ref b] meth c cL_law 4 RL E (AA s)) (hZ : ZZ (AA s) s) (hX : va_X b L xs s s.heap) (hbl : b < s.heap.size) (hf0 : fo 0 = some (b0 0)) (hf1 : fo 1 = some (b1 0)) (F : Full st i0 i1 kp mm T) (G : Gw E (AA s) s (wL E a b0 b1 mo h0 g0 k0 fo st i0 i1 kp mm) H locs) (hl : lv_has ls 4 [(0, .ref b), (1, .ref h0), (2, .ref (mo 0)), (3, .int (nI i))]) (TL : ∀ (st i0 i1 mm : St) (kp : Nat → Int32) (H : Heap) (locs : List Loc), Full st i0 i1 kp mm (T + 100) → Gw E (AA s) s (wL E a b0 b1 mo h0 g0 k0 fo st i0 i1 kp mm) H locs → LwW p l e s m below meth c b H locs 774 ls) : LwW p l e s m below meth c b H locs 408 ls := by
  obtain ⟨hx, hb, hml, hown, hts, hK, hA, hlocks⟩ := id X
  have hbA : ¬ AA s b := Nat.not_le.mpr hbl
  obtain ⟨⟨t, ht, R⟩, e0, e1, -, -⟩ := id F
  have hI : isOk mm := isOk_rel R.1
  have C3 := c_X3_drop l E a b0 b1 h0 g0 k0 fo st i0 i1 kp (wM E mo mm []) (xs (i + 1))
  have u := u_drop R (xs (i + 1))
  have kk := kp_drop mm (xs (i + 1))
  have C4 : ∀ w, Ct l yX4_drop _ _ _ _ E _ (wM E mo mm w) _ _ := fun w => c_X4_drop l E mo mm w (xs (i + 1))
  generalize xDrop st (xs (i + 1)) = y3 at C3 u
  generalize mDrop mm (xs (i + 1)) = y4 at C4 u kk
  refine lv_aload_n hx hb dL_law_408 rfl (lv_at hl 1 rfl) ?_
  refine lv_aload_n hx hb dL_law_409 rfl (lv_at hl 0 rfl) ?_
  refine lv_iload_n hx hb dL_law_410 rfl (lv_at hl 3 rfl) ?_
  refine lv_iconst (v := 1) hx hb dL_law_411 (by decide) ?_
  refine n_iadd i 1 rfl rfl hx hb dL_law_412 ?_
  refine g_sld (j := i + 1) X hX hbl hbA G rfl (by omega) hL dL_law_413 ?_
  refine g_callV (As := [.int (xs (i + 1))]) (rest := []) X kL_41 C3 G 14 rfl rfl ⟨Nat.le_of_ble_eq_true rfl, Nat.le_of_ble_eq_true rfl⟩ ⟨Nat.le_of_ble_eq_true rfl, Nat.le_of_ble_eq_true rfl⟩ rfl hl.1 rfl (Nat.le_of_ble_eq_true rfl) dL_law_414 (fun H locs G => ?_)
  have G := Gw_perm (pw E a b0 b1 mo h0 g0 k0 fo y3.2 i0 i1 kp mm) G
  refine lv_aload_n hx hb dL_law_417 rfl (lv_at hl 2 rfl) ?_
  refine lv_aload_n hx hb dL_law_418 rfl (lv_at hl 0 rfl) ?_
  refine lv_iload_n hx hb dL_law_419 rfl (lv_at hl 3 rfl) ?_
  refine lv_iconst (v := 1) hx hb dL_law_420 (by decide) ?_
  refine n_iadd i 1 rfl rfl hx hb dL_law_421 ?_
  refine g_sld (j := i + 1) X hX hbl hbA G rfl (by omega) hL dL_law_422 ?_
  refine g_callV (As := [.int (xs (i + 1))]) (rest := [_]) X kL_44 (C4 _) G 0 rfl rfl ⟨Nat.le_of_ble_eq_true rfl, Nat.le_of_ble_eq_true rfl⟩ ⟨Nat.le_of_ble_eq_true rfl, Nat.le_of_ble_eq_true rfl⟩ rfl hl.1 rfl (Nat.le_of_ble_eq_true rfl) dL_law_423 (fun H locs G => ?_)
  have G := Gw_perm (pw E a b0 b1 mo h0 g0 k0 fo y3.2 i0 i1 kp y4.2).symm G
  exact lv_icmp_eq (tgt := 774) hx hb dL_law_426 (by decide) (fun _ => TL y3.2 i0 i1 y4.2 kp H locs (Full_kp (Nat.le_add_right T 100) kk ⟨t, by omega, u.2⟩ F) G) (fun h => absurd u.1 h)
set_option maxHeartbeats 1000000 in
theorem lc_of (hL : L ≤ 3072) (hi : i + 6 ≤ L) (hT : T + 100 ≤ 100000) (X : Cx p s m #[Value.ref b] meth c cL_law 4 RL E (AA s)) (hZ : ZZ (AA s) s) (hX : va_X b L xs s s.heap) (hbl : b < s.heap.size) (hf0 : fo 0 = some (b0 0)) (hf1 : fo 1 = some (b1 0)) (F : Full st i0 i1 kp mm T) (G : Gw E (AA s) s (wL E a b0 b1 mo h0 g0 k0 fo st i0 i1 kp mm) H locs) (hl : lv_has ls 4 [(0, .ref b), (1, .ref h0), (2, .ref (mo 0)), (3, .int (nI i))]) (TL : ∀ (st i0 i1 mm : St) (kp : Nat → Int32) (H : Heap) (locs : List Loc), Full st i0 i1 kp mm (T + 100) → Gw E (AA s) s (wL E a b0 b1 mo h0 g0 k0 fo st i0 i1 kp mm) H locs → LwW p l e s m below meth c b H locs 774 ls) : LwW p l e s m below meth c b H locs 431 ls := by
  obtain ⟨hx, hb, hml, hown, hts, hK, hA, hlocks⟩ := id X
  have hbA : ¬ AA s b := Nat.not_le.mpr hbl
  obtain ⟨⟨t, ht, R⟩, e0, e1, -, -⟩ := id F
  have hI : isOk mm := isOk_rel R.1
  have C3 := c_X3_of l E a b0 b1 h0 g0 k0 fo st i0 i1 kp (wM E mo mm []) (xs (i + 1)) (xs (i + 2))
  have C4 : ∀ w, Ct l yX4_of _ _ _ _ E _ (wM E mo mm w) _ _ := fun w => c_X4_of l E mo mm w (xs (i + 1)) (xs (i + 2)) hI
  have u := q_of R.1 (xs (i + 1)) (xs (i + 2))
  generalize xOf st (xs (i + 1)) (xs (i + 2)) = y3 at C3 u
  generalize mOf mm (xs (i + 1)) (xs (i + 2)) = y4 at C4 u
  refine lv_aload_n hx hb dL_law_431 rfl (lv_at hl 1 rfl) ?_
  refine lv_aload_n hx hb dL_law_432 rfl (lv_at hl 0 rfl) ?_
  refine lv_iload_n hx hb dL_law_433 rfl (lv_at hl 3 rfl) ?_
  refine lv_iconst (v := 1) hx hb dL_law_434 (by decide) ?_
  refine n_iadd i 1 rfl rfl hx hb dL_law_435 ?_
  refine g_sld (j := i + 1) X hX hbl hbA G rfl (by omega) hL dL_law_436 ?_
  refine lv_aload_n hx hb dL_law_437 rfl (lv_at hl 0 rfl) ?_
  refine lv_iload_n hx hb dL_law_438 rfl (lv_at hl 3 rfl) ?_
  refine lv_iconst (v := 2) hx hb dL_law_439 (by decide) ?_
  refine n_iadd i 2 rfl rfl hx hb dL_law_440 ?_
  refine g_sld (j := i + 2) X hX hbl hbA G rfl (by omega) hL dL_law_441 ?_
  refine g_callV (As := [.int (xs (i + 1)), .int (xs (i + 2))]) (rest := []) X kL_45 C3 G 14 rfl rfl ⟨Nat.le_of_ble_eq_true rfl, Nat.le_of_ble_eq_true rfl⟩ ⟨Nat.le_of_ble_eq_true rfl, Nat.le_of_ble_eq_true rfl⟩ rfl hl.1 rfl (Nat.le_of_ble_eq_true rfl) dL_law_442 (fun H locs G => ?_)
  have G := Gw_perm (pw E a b0 b1 mo h0 g0 k0 fo st i0 i1 kp mm) G
  refine lv_aload_n hx hb dL_law_445 rfl (lv_at hl 2 rfl) ?_
  refine lv_aload_n hx hb dL_law_446 rfl (lv_at hl 0 rfl) ?_
  refine lv_iload_n hx hb dL_law_447 rfl (lv_at hl 3 rfl) ?_
  refine lv_iconst (v := 1) hx hb dL_law_448 (by decide) ?_
  refine n_iadd i 1 rfl rfl hx hb dL_law_449 ?_
  refine g_sld (j := i + 1) X hX hbl hbA G rfl (by omega) hL dL_law_450 ?_
  refine lv_aload_n hx hb dL_law_451 rfl (lv_at hl 0 rfl) ?_
  refine lv_iload_n hx hb dL_law_452 rfl (lv_at hl 3 rfl) ?_
  refine lv_iconst (v := 2) hx hb dL_law_453 (by decide) ?_
  refine n_iadd i 2 rfl rfl hx hb dL_law_454 ?_
  refine g_sld (j := i + 2) X hX hbl hbA G rfl (by omega) hL dL_law_455 ?_
  refine g_callV (As := [.int (xs (i + 1)), .int (xs (i + 2))]) (rest := [_]) X kL_48 (C4 _) G 0 rfl rfl ⟨Nat.le_of_ble_eq_true rfl, Nat.le_of_ble_eq_true rfl⟩ ⟨Nat.le_of_ble_eq_true rfl, Nat.le_of_ble_eq_true rfl⟩ rfl hl.1 rfl (Nat.le_of_ble_eq_true rfl) dL_law_456 (fun H locs G => ?_)
  have G := Gw_perm (pw E a b0 b1 mo h0 g0 k0 fo st i0 i1 kp mm).symm G
  exact lv_icmp_eq (tgt := 774) hx hb dL_law_459 (by decide) (fun _ => TL st i0 i1 mm kp H locs (Full_mono (Nat.le_add_right T 100) F) G) (fun h => absurd u h)
set_option maxHeartbeats 1000000 in
theorem lc_sent (hL : L ≤ 3072) (hi : i + 6 ≤ L) (hT : T + 100 ≤ 100000) (X : Cx p s m #[Value.ref b] meth c cL_law 4 RL E (AA s)) (hZ : ZZ (AA s) s) (hX : va_X b L xs s s.heap) (hbl : b < s.heap.size) (hf0 : fo 0 = some (b0 0)) (hf1 : fo 1 = some (b1 0)) (F : Full st i0 i1 kp mm T) (G : Gw E (AA s) s (wL E a b0 b1 mo h0 g0 k0 fo st i0 i1 kp mm) H locs) (hl : lv_has ls 4 [(0, .ref b), (1, .ref h0), (2, .ref (mo 0)), (3, .int (nI i))]) (TL : ∀ (st i0 i1 mm : St) (kp : Nat → Int32) (H : Heap) (locs : List Loc), Full st i0 i1 kp mm (T + 100) → Gw E (AA s) s (wL E a b0 b1 mo h0 g0 k0 fo st i0 i1 kp mm) H locs → LwW p l e s m below meth c b H locs 774 ls) : LwW p l e s m below meth c b H locs 464 ls := by
  obtain ⟨hx, hb, hml, hown, hts, hK, hA, hlocks⟩ := id X
  have hbA : ¬ AA s b := Nat.not_le.mpr hbl
  obtain ⟨⟨t, ht, R⟩, e0, e1, -, -⟩ := id F
  have hI : isOk mm := isOk_rel R.1
  have C3 := c_X3_sent l E a b0 b1 h0 g0 k0 fo st i0 i1 kp (wM E mo mm []) (xs (i + 1)) (xs (i + 2)) (xs (i + 3))
  have C4 : ∀ w, Ct l yX4_sent _ _ _ _ E _ (wM E mo mm w) _ _ := fun w => c_X4_sent l E mo mm w (xs (i + 1)) (xs (i + 2)) (xs (i + 3))
  have u := q_sent R.1 (xs (i + 1)) (xs (i + 2)) (xs (i + 3))
  generalize xSent st (xs (i + 1)) (xs (i + 2)) (xs (i + 3)) = y3 at C3 u
  generalize mSent mm (xs (i + 1)) (xs (i + 2)) (xs (i + 3)) = y4 at C4 u
  refine lv_aload_n hx hb dL_law_464 rfl (lv_at hl 1 rfl) ?_
  refine lv_aload_n hx hb dL_law_465 rfl (lv_at hl 0 rfl) ?_
  refine lv_iload_n hx hb dL_law_466 rfl (lv_at hl 3 rfl) ?_
  refine lv_iconst (v := 1) hx hb dL_law_467 (by decide) ?_
  refine n_iadd i 1 rfl rfl hx hb dL_law_468 ?_
  refine g_sld (j := i + 1) X hX hbl hbA G rfl (by omega) hL dL_law_469 ?_
  refine lv_aload_n hx hb dL_law_470 rfl (lv_at hl 0 rfl) ?_
  refine lv_iload_n hx hb dL_law_471 rfl (lv_at hl 3 rfl) ?_
  refine lv_iconst (v := 2) hx hb dL_law_472 (by decide) ?_
  refine n_iadd i 2 rfl rfl hx hb dL_law_473 ?_
  refine g_sld (j := i + 2) X hX hbl hbA G rfl (by omega) hL dL_law_474 ?_
  refine lv_aload_n hx hb dL_law_475 rfl (lv_at hl 0 rfl) ?_
  refine lv_iload_n hx hb dL_law_476 rfl (lv_at hl 3 rfl) ?_
  refine lv_iconst (v := 3) hx hb dL_law_477 (by decide) ?_
  refine n_iadd i 3 rfl rfl hx hb dL_law_478 ?_
  refine g_sld (j := i + 3) X hX hbl hbA G rfl (by omega) hL dL_law_479 ?_
  refine g_callV (As := [.int (xs (i + 1)), .int (xs (i + 2)), .int (xs (i + 3))]) (rest := []) X kL_49 C3 G 14 rfl rfl ⟨Nat.le_of_ble_eq_true rfl, Nat.le_of_ble_eq_true rfl⟩ ⟨Nat.le_of_ble_eq_true rfl, Nat.le_of_ble_eq_true rfl⟩ rfl hl.1 rfl (Nat.le_of_ble_eq_true rfl) dL_law_480 (fun H locs G => ?_)
  have G := Gw_perm (pw E a b0 b1 mo h0 g0 k0 fo st i0 i1 kp mm) G
  refine lv_aload_n hx hb dL_law_483 rfl (lv_at hl 2 rfl) ?_
  refine lv_aload_n hx hb dL_law_484 rfl (lv_at hl 0 rfl) ?_
  refine lv_iload_n hx hb dL_law_485 rfl (lv_at hl 3 rfl) ?_
  refine lv_iconst (v := 1) hx hb dL_law_486 (by decide) ?_
  refine n_iadd i 1 rfl rfl hx hb dL_law_487 ?_
  refine g_sld (j := i + 1) X hX hbl hbA G rfl (by omega) hL dL_law_488 ?_
  refine lv_aload_n hx hb dL_law_489 rfl (lv_at hl 0 rfl) ?_
  refine lv_iload_n hx hb dL_law_490 rfl (lv_at hl 3 rfl) ?_
  refine lv_iconst (v := 2) hx hb dL_law_491 (by decide) ?_
  refine n_iadd i 2 rfl rfl hx hb dL_law_492 ?_
  refine g_sld (j := i + 2) X hX hbl hbA G rfl (by omega) hL dL_law_493 ?_
  refine lv_aload_n hx hb dL_law_494 rfl (lv_at hl 0 rfl) ?_
  refine lv_iload_n hx hb dL_law_495 rfl (lv_at hl 3 rfl) ?_
  refine lv_iconst (v := 3) hx hb dL_law_496 (by decide) ?_
  refine n_iadd i 3 rfl rfl hx hb dL_law_497 ?_
  refine g_sld (j := i + 3) X hX hbl hbA G rfl (by omega) hL dL_law_498 ?_
  refine g_callV (As := [.int (xs (i + 1)), .int (xs (i + 2)), .int (xs (i + 3))]) (rest := [_]) X kL_53 (C4 _) G 0 rfl rfl ⟨Nat.le_of_ble_eq_true rfl, Nat.le_of_ble_eq_true rfl⟩ ⟨Nat.le_of_ble_eq_true rfl, Nat.le_of_ble_eq_true rfl⟩ rfl hl.1 rfl (Nat.le_of_ble_eq_true rfl) dL_law_499 (fun H locs G => ?_)
  have G := Gw_perm (pw E a b0 b1 mo h0 g0 k0 fo st i0 i1 kp mm).symm G
  exact lv_icmp_eq (tgt := 774) hx hb dL_law_502 (by decide) (fun _ => TL st i0 i1 mm kp H locs (Full_mono (Nat.le_add_right T 100) F) G) (fun h => absurd u h)
set_option maxHeartbeats 1000000 in
theorem lc_find (hL : L ≤ 3072) (hi : i + 6 ≤ L) (hT : T + 100 ≤ 100000) (X : Cx p s m #[Value.ref b] meth c cL_law 4 RL E (AA s)) (hZ : ZZ (AA s) s) (hX : va_X b L xs s s.heap) (hbl : b < s.heap.size) (hf0 : fo 0 = some (b0 0)) (hf1 : fo 1 = some (b1 0)) (F : Full st i0 i1 kp mm T) (G : Gw E (AA s) s (wL E a b0 b1 mo h0 g0 k0 fo st i0 i1 kp mm) H locs) (hl : lv_has ls 4 [(0, .ref b), (1, .ref h0), (2, .ref (mo 0)), (3, .int (nI i))]) (TL : ∀ (st i0 i1 mm : St) (kp : Nat → Int32) (H : Heap) (locs : List Loc), Full st i0 i1 kp mm (T + 100) → Gw E (AA s) s (wL E a b0 b1 mo h0 g0 k0 fo st i0 i1 kp mm) H locs → LwW p l e s m below meth c b H locs 774 ls) : LwW p l e s m below meth c b H locs 507 ls := by
  obtain ⟨hx, hb, hml, hown, hts, hK, hA, hlocks⟩ := id X
  have hbA : ¬ AA s b := Nat.not_le.mpr hbl
  obtain ⟨⟨t, ht, R⟩, e0, e1, -, -⟩ := id F
  have hI : isOk mm := isOk_rel R.1
  have C3 := c_X3_find l E a b0 b1 h0 g0 k0 fo st i0 i1 kp (wM E mo mm []) (xs (i + 1)) (xs (i + 2)) (xs (i + 3)) (xs (i + 4))
  have C4 : ∀ w, Ct l yX4_find _ _ _ _ E _ (wM E mo mm w) _ _ := fun w => c_X4_find l E mo mm w (xs (i + 1)) (xs (i + 2)) (xs (i + 3)) (xs (i + 4))
  have u := q_find R.1 (xs (i + 1)) (xs (i + 2)) (xs (i + 3)) (xs (i + 4))
  generalize xFind st (xs (i + 1)) (xs (i + 2)) (xs (i + 3)) (xs (i + 4)) = y3 at C3 u
  generalize mFind mm (xs (i + 1)) (xs (i + 2)) (xs (i + 3)) (xs (i + 4)) = y4 at C4 u
  refine lv_aload_n hx hb dL_law_507 rfl (lv_at hl 1 rfl) ?_
  refine lv_aload_n hx hb dL_law_508 rfl (lv_at hl 0 rfl) ?_
  refine lv_iload_n hx hb dL_law_509 rfl (lv_at hl 3 rfl) ?_
  refine lv_iconst (v := 1) hx hb dL_law_510 (by decide) ?_
  refine n_iadd i 1 rfl rfl hx hb dL_law_511 ?_
  refine g_sld (j := i + 1) X hX hbl hbA G rfl (by omega) hL dL_law_512 ?_
  refine lv_aload_n hx hb dL_law_513 rfl (lv_at hl 0 rfl) ?_
  refine lv_iload_n hx hb dL_law_514 rfl (lv_at hl 3 rfl) ?_
  refine lv_iconst (v := 2) hx hb dL_law_515 (by decide) ?_
  refine n_iadd i 2 rfl rfl hx hb dL_law_516 ?_
  refine g_sld (j := i + 2) X hX hbl hbA G rfl (by omega) hL dL_law_517 ?_
  refine lv_aload_n hx hb dL_law_518 rfl (lv_at hl 0 rfl) ?_
  refine lv_iload_n hx hb dL_law_519 rfl (lv_at hl 3 rfl) ?_
  refine lv_iconst (v := 3) hx hb dL_law_520 (by decide) ?_
  refine n_iadd i 3 rfl rfl hx hb dL_law_521 ?_
  refine g_sld (j := i + 3) X hX hbl hbA G rfl (by omega) hL dL_law_522 ?_
  refine lv_aload_n hx hb dL_law_523 rfl (lv_at hl 0 rfl) ?_
  refine lv_iload_n hx hb dL_law_524 rfl (lv_at hl 3 rfl) ?_
  refine lv_iconst (v := 4) hx hb dL_law_525 (by decide) ?_
  refine n_iadd i 4 rfl rfl hx hb dL_law_526 ?_
  refine g_sld (j := i + 4) X hX hbl hbA G rfl (by omega) hL dL_law_527 ?_
  refine g_callV (As := [.int (xs (i + 1)), .int (xs (i + 2)), .int (xs (i + 3)), .int (xs (i + 4))]) (rest := []) X kL_54 C3 G 14 rfl rfl ⟨Nat.le_of_ble_eq_true rfl, Nat.le_of_ble_eq_true rfl⟩ ⟨Nat.le_of_ble_eq_true rfl, Nat.le_of_ble_eq_true rfl⟩ rfl hl.1 rfl (Nat.le_of_ble_eq_true rfl) dL_law_528 (fun H locs G => ?_)
  have G := Gw_perm (pw E a b0 b1 mo h0 g0 k0 fo st i0 i1 kp mm) G
  refine lv_aload_n hx hb dL_law_531 rfl (lv_at hl 2 rfl) ?_
  refine lv_aload_n hx hb dL_law_532 rfl (lv_at hl 0 rfl) ?_
  refine lv_iload_n hx hb dL_law_533 rfl (lv_at hl 3 rfl) ?_
  refine lv_iconst (v := 1) hx hb dL_law_534 (by decide) ?_
  refine n_iadd i 1 rfl rfl hx hb dL_law_535 ?_
  refine g_sld (j := i + 1) X hX hbl hbA G rfl (by omega) hL dL_law_536 ?_
  refine lv_aload_n hx hb dL_law_537 rfl (lv_at hl 0 rfl) ?_
  refine lv_iload_n hx hb dL_law_538 rfl (lv_at hl 3 rfl) ?_
  refine lv_iconst (v := 2) hx hb dL_law_539 (by decide) ?_
  refine n_iadd i 2 rfl rfl hx hb dL_law_540 ?_
  refine g_sld (j := i + 2) X hX hbl hbA G rfl (by omega) hL dL_law_541 ?_
  refine lv_aload_n hx hb dL_law_542 rfl (lv_at hl 0 rfl) ?_
  refine lv_iload_n hx hb dL_law_543 rfl (lv_at hl 3 rfl) ?_
  refine lv_iconst (v := 3) hx hb dL_law_544 (by decide) ?_
  refine n_iadd i 3 rfl rfl hx hb dL_law_545 ?_
  refine g_sld (j := i + 3) X hX hbl hbA G rfl (by omega) hL dL_law_546 ?_
  refine lv_aload_n hx hb dL_law_547 rfl (lv_at hl 0 rfl) ?_
  refine lv_iload_n hx hb dL_law_548 rfl (lv_at hl 3 rfl) ?_
  refine lv_iconst (v := 4) hx hb dL_law_549 (by decide) ?_
  refine n_iadd i 4 rfl rfl hx hb dL_law_550 ?_
  refine g_sld (j := i + 4) X hX hbl hbA G rfl (by omega) hL dL_law_551 ?_
  refine g_callV (As := [.int (xs (i + 1)), .int (xs (i + 2)), .int (xs (i + 3)), .int (xs (i + 4))]) (rest := [_]) X kL_57 (C4 _) G 0 rfl rfl ⟨Nat.le_of_ble_eq_true rfl, Nat.le_of_ble_eq_true rfl⟩ ⟨Nat.le_of_ble_eq_true rfl, Nat.le_of_ble_eq_true rfl⟩ rfl hl.1 rfl (Nat.le_of_ble_eq_true rfl) dL_law_552 (fun H locs G => ?_)
  have G := Gw_perm (pw E a b0 b1 mo h0 g0 k0 fo st i0 i1 kp mm).symm G
  exact lv_icmp_eq (tgt := 774) hx hb dL_law_555 (by decide) (fun _ => TL st i0 i1 mm kp H locs (Full_mono (Nat.le_add_right T 100) F) G) (fun h => absurd u h)
set_option maxHeartbeats 1000000 in
theorem lc_next (hL : L ≤ 3072) (hi : i + 6 ≤ L) (hT : T + 100 ≤ 100000) (X : Cx p s m #[Value.ref b] meth c cL_law 4 RL E (AA s)) (hZ : ZZ (AA s) s) (hX : va_X b L xs s s.heap) (hbl : b < s.heap.size) (hf0 : fo 0 = some (b0 0)) (hf1 : fo 1 = some (b1 0)) (F : Full st i0 i1 kp mm T) (G : Gw E (AA s) s (wL E a b0 b1 mo h0 g0 k0 fo st i0 i1 kp mm) H locs) (hl : lv_has ls 4 [(0, .ref b), (1, .ref h0), (2, .ref (mo 0)), (3, .int (nI i))]) (TL : ∀ (st i0 i1 mm : St) (kp : Nat → Int32) (H : Heap) (locs : List Loc), Full st i0 i1 kp mm (T + 100) → Gw E (AA s) s (wL E a b0 b1 mo h0 g0 k0 fo st i0 i1 kp mm) H locs → LwW p l e s m below meth c b H locs 774 ls) : LwW p l e s m below meth c b H locs 560 ls := by
  obtain ⟨hx, hb, hml, hown, hts, hK, hA, hlocks⟩ := id X
  have hbA : ¬ AA s b := Nat.not_le.mpr hbl
  obtain ⟨⟨t, ht, R⟩, e0, e1, -, -⟩ := id F
  have hI : isOk mm := isOk_rel R.1
  have C3 := c_X3_next l E a b0 b1 h0 g0 k0 fo st i0 i1 kp (wM E mo mm []) (xs (i + 1)) (xs (i + 2))
  have C4 : ∀ w, Ct l yX4_next _ _ _ _ E _ (wM E mo mm w) _ _ := fun w => c_X4_next l E mo mm w (xs (i + 1)) (xs (i + 2))
  have u := q_next R.1 (xs (i + 1)) (xs (i + 2))
  generalize xNext st (xs (i + 1)) (xs (i + 2)) = y3 at C3 u
  generalize mNext mm (xs (i + 1)) (xs (i + 2)) = y4 at C4 u
  refine lv_aload_n hx hb dL_law_560 rfl (lv_at hl 1 rfl) ?_
  refine lv_aload_n hx hb dL_law_561 rfl (lv_at hl 0 rfl) ?_
  refine lv_iload_n hx hb dL_law_562 rfl (lv_at hl 3 rfl) ?_
  refine lv_iconst (v := 1) hx hb dL_law_563 (by decide) ?_
  refine n_iadd i 1 rfl rfl hx hb dL_law_564 ?_
  refine g_sld (j := i + 1) X hX hbl hbA G rfl (by omega) hL dL_law_565 ?_
  refine lv_aload_n hx hb dL_law_566 rfl (lv_at hl 0 rfl) ?_
  refine lv_iload_n hx hb dL_law_567 rfl (lv_at hl 3 rfl) ?_
  refine lv_iconst (v := 2) hx hb dL_law_568 (by decide) ?_
  refine n_iadd i 2 rfl rfl hx hb dL_law_569 ?_
  refine g_sld (j := i + 2) X hX hbl hbA G rfl (by omega) hL dL_law_570 ?_
  refine g_callV (As := [.int (xs (i + 1)), .int (xs (i + 2))]) (rest := []) X kL_58 C3 G 14 rfl rfl ⟨Nat.le_of_ble_eq_true rfl, Nat.le_of_ble_eq_true rfl⟩ ⟨Nat.le_of_ble_eq_true rfl, Nat.le_of_ble_eq_true rfl⟩ rfl hl.1 rfl (Nat.le_of_ble_eq_true rfl) dL_law_571 (fun H locs G => ?_)
  have G := Gw_perm (pw E a b0 b1 mo h0 g0 k0 fo st i0 i1 kp mm) G
  refine lv_aload_n hx hb dL_law_574 rfl (lv_at hl 2 rfl) ?_
  refine lv_aload_n hx hb dL_law_575 rfl (lv_at hl 0 rfl) ?_
  refine lv_iload_n hx hb dL_law_576 rfl (lv_at hl 3 rfl) ?_
  refine lv_iconst (v := 1) hx hb dL_law_577 (by decide) ?_
  refine n_iadd i 1 rfl rfl hx hb dL_law_578 ?_
  refine g_sld (j := i + 1) X hX hbl hbA G rfl (by omega) hL dL_law_579 ?_
  refine lv_aload_n hx hb dL_law_580 rfl (lv_at hl 0 rfl) ?_
  refine lv_iload_n hx hb dL_law_581 rfl (lv_at hl 3 rfl) ?_
  refine lv_iconst (v := 2) hx hb dL_law_582 (by decide) ?_
  refine n_iadd i 2 rfl rfl hx hb dL_law_583 ?_
  refine g_sld (j := i + 2) X hX hbl hbA G rfl (by omega) hL dL_law_584 ?_
  refine g_callV (As := [.int (xs (i + 1)), .int (xs (i + 2))]) (rest := [_]) X kL_61 (C4 _) G 0 rfl rfl ⟨Nat.le_of_ble_eq_true rfl, Nat.le_of_ble_eq_true rfl⟩ ⟨Nat.le_of_ble_eq_true rfl, Nat.le_of_ble_eq_true rfl⟩ rfl hl.1 rfl (Nat.le_of_ble_eq_true rfl) dL_law_585 (fun H locs G => ?_)
  have G := Gw_perm (pw E a b0 b1 mo h0 g0 k0 fo st i0 i1 kp mm).symm G
  exact lv_icmp_eq (tgt := 774) hx hb dL_law_588 (by decide) (fun _ => TL st i0 i1 mm kp H locs (Full_mono (Nat.le_add_right T 100) F) G) (fun h => absurd u h)
set_option maxHeartbeats 1000000 in
theorem lc_why (hL : L ≤ 3072) (hi : i + 6 ≤ L) (hT : T + 100 ≤ 100000) (X : Cx p s m #[Value.ref b] meth c cL_law 4 RL E (AA s)) (hZ : ZZ (AA s) s) (hX : va_X b L xs s s.heap) (hbl : b < s.heap.size) (hf0 : fo 0 = some (b0 0)) (hf1 : fo 1 = some (b1 0)) (F : Full st i0 i1 kp mm T) (G : Gw E (AA s) s (wL E a b0 b1 mo h0 g0 k0 fo st i0 i1 kp mm) H locs) (hl : lv_has ls 4 [(0, .ref b), (1, .ref h0), (2, .ref (mo 0)), (3, .int (nI i))]) (TL : ∀ (st i0 i1 mm : St) (kp : Nat → Int32) (H : Heap) (locs : List Loc), Full st i0 i1 kp mm (T + 100) → Gw E (AA s) s (wL E a b0 b1 mo h0 g0 k0 fo st i0 i1 kp mm) H locs → LwW p l e s m below meth c b H locs 774 ls) : LwW p l e s m below meth c b H locs 593 ls := by
  obtain ⟨hx, hb, hml, hown, hts, hK, hA, hlocks⟩ := id X
  have hbA : ¬ AA s b := Nat.not_le.mpr hbl
  obtain ⟨⟨t, ht, R⟩, e0, e1, -, -⟩ := id F
  have hI : isOk mm := isOk_rel R.1
  have C3 := c_X3_why l E a b0 b1 h0 g0 k0 fo st i0 i1 kp (wM E mo mm []) (xs (i + 1)) (xs (i + 2)) (xs (i + 3))
  have C4 : ∀ w, Ct l yX4_why _ _ _ _ E _ (wM E mo mm w) _ _ := fun w => c_X4_why l E mo mm w (xs (i + 1)) (xs (i + 2)) (xs (i + 3))
  have u := q_why R.1 (xs (i + 1)) (xs (i + 2)) (xs (i + 3))
  generalize xWhy st (xs (i + 1)) (xs (i + 2)) (xs (i + 3)) = y3 at C3 u
  generalize mWhy mm (xs (i + 1)) (xs (i + 2)) (xs (i + 3)) = y4 at C4 u
  refine lv_aload_n hx hb dL_law_593 rfl (lv_at hl 1 rfl) ?_
  refine lv_aload_n hx hb dL_law_594 rfl (lv_at hl 0 rfl) ?_
  refine lv_iload_n hx hb dL_law_595 rfl (lv_at hl 3 rfl) ?_
  refine lv_iconst (v := 1) hx hb dL_law_596 (by decide) ?_
  refine n_iadd i 1 rfl rfl hx hb dL_law_597 ?_
  refine g_sld (j := i + 1) X hX hbl hbA G rfl (by omega) hL dL_law_598 ?_
  refine lv_aload_n hx hb dL_law_599 rfl (lv_at hl 0 rfl) ?_
  refine lv_iload_n hx hb dL_law_600 rfl (lv_at hl 3 rfl) ?_
  refine lv_iconst (v := 2) hx hb dL_law_601 (by decide) ?_
  refine n_iadd i 2 rfl rfl hx hb dL_law_602 ?_
  refine g_sld (j := i + 2) X hX hbl hbA G rfl (by omega) hL dL_law_603 ?_
  refine lv_aload_n hx hb dL_law_604 rfl (lv_at hl 0 rfl) ?_
  refine lv_iload_n hx hb dL_law_605 rfl (lv_at hl 3 rfl) ?_
  refine lv_iconst (v := 3) hx hb dL_law_606 (by decide) ?_
  refine n_iadd i 3 rfl rfl hx hb dL_law_607 ?_
  refine g_sld (j := i + 3) X hX hbl hbA G rfl (by omega) hL dL_law_608 ?_
  refine g_callV (As := [.int (xs (i + 1)), .int (xs (i + 2)), .int (xs (i + 3))]) (rest := []) X kL_62 C3 G 14 rfl rfl ⟨Nat.le_of_ble_eq_true rfl, Nat.le_of_ble_eq_true rfl⟩ ⟨Nat.le_of_ble_eq_true rfl, Nat.le_of_ble_eq_true rfl⟩ rfl hl.1 rfl (Nat.le_of_ble_eq_true rfl) dL_law_609 (fun H locs G => ?_)
  have G := Gw_perm (pw E a b0 b1 mo h0 g0 k0 fo st i0 i1 kp mm) G
  refine lv_aload_n hx hb dL_law_612 rfl (lv_at hl 2 rfl) ?_
  refine lv_aload_n hx hb dL_law_613 rfl (lv_at hl 0 rfl) ?_
  refine lv_iload_n hx hb dL_law_614 rfl (lv_at hl 3 rfl) ?_
  refine lv_iconst (v := 1) hx hb dL_law_615 (by decide) ?_
  refine n_iadd i 1 rfl rfl hx hb dL_law_616 ?_
  refine g_sld (j := i + 1) X hX hbl hbA G rfl (by omega) hL dL_law_617 ?_
  refine lv_aload_n hx hb dL_law_618 rfl (lv_at hl 0 rfl) ?_
  refine lv_iload_n hx hb dL_law_619 rfl (lv_at hl 3 rfl) ?_
  refine lv_iconst (v := 2) hx hb dL_law_620 (by decide) ?_
  refine n_iadd i 2 rfl rfl hx hb dL_law_621 ?_
  refine g_sld (j := i + 2) X hX hbl hbA G rfl (by omega) hL dL_law_622 ?_
  refine lv_aload_n hx hb dL_law_623 rfl (lv_at hl 0 rfl) ?_
  refine lv_iload_n hx hb dL_law_624 rfl (lv_at hl 3 rfl) ?_
  refine lv_iconst (v := 3) hx hb dL_law_625 (by decide) ?_
  refine n_iadd i 3 rfl rfl hx hb dL_law_626 ?_
  refine g_sld (j := i + 3) X hX hbl hbA G rfl (by omega) hL dL_law_627 ?_
  refine g_callV (As := [.int (xs (i + 1)), .int (xs (i + 2)), .int (xs (i + 3))]) (rest := [_]) X kL_65 (C4 _) G 0 rfl rfl ⟨Nat.le_of_ble_eq_true rfl, Nat.le_of_ble_eq_true rfl⟩ ⟨Nat.le_of_ble_eq_true rfl, Nat.le_of_ble_eq_true rfl⟩ rfl hl.1 rfl (Nat.le_of_ble_eq_true rfl) dL_law_628 (fun H locs G => ?_)
  have G := Gw_perm (pw E a b0 b1 mo h0 g0 k0 fo st i0 i1 kp mm).symm G
  exact lv_icmp_eq (tgt := 774) hx hb dL_law_631 (by decide) (fun _ => TL st i0 i1 mm kp H locs (Full_mono (Nat.le_add_right T 100) F) G) (fun h => absurd u h)
set_option maxHeartbeats 1000000 in
theorem lc_block (hL : L ≤ 3072) (hi : i + 6 ≤ L) (hT : T + 100 ≤ 100000) (X : Cx p s m #[Value.ref b] meth c cL_law 4 RL E (AA s)) (hZ : ZZ (AA s) s) (hX : va_X b L xs s s.heap) (hbl : b < s.heap.size) (hf0 : fo 0 = some (b0 0)) (hf1 : fo 1 = some (b1 0)) (F : Full st i0 i1 kp mm T) (G : Gw E (AA s) s (wL E a b0 b1 mo h0 g0 k0 fo st i0 i1 kp mm) H locs) (hl : lv_has ls 4 [(0, .ref b), (1, .ref h0), (2, .ref (mo 0)), (3, .int (nI i))]) (TL : ∀ (st i0 i1 mm : St) (kp : Nat → Int32) (H : Heap) (locs : List Loc), Full st i0 i1 kp mm (T + 100) → Gw E (AA s) s (wL E a b0 b1 mo h0 g0 k0 fo st i0 i1 kp mm) H locs → LwW p l e s m below meth c b H locs 774 ls) : LwW p l e s m below meth c b H locs 636 ls := by
  obtain ⟨hx, hb, hml, hown, hts, hK, hA, hlocks⟩ := id X
  have hbA : ¬ AA s b := Nat.not_le.mpr hbl
  obtain ⟨⟨t, ht, R⟩, e0, e1, -, -⟩ := id F
  have hI : isOk mm := isOk_rel R.1
  have C3 := c_X3_block l E a b0 b1 h0 g0 k0 fo st i0 i1 kp (wM E mo mm []) (xs (i + 1))
  have C4 : ∀ w, Ct l yX4_block _ _ _ _ E _ (wM E mo mm w) _ _ := fun w => c_X4_block l E mo mm w (xs (i + 1))
  have u := q_block R.1 (xs (i + 1))
  generalize xBlock st (xs (i + 1)) = y3 at C3 u
  generalize mBlock mm (xs (i + 1)) = y4 at C4 u
  refine lv_aload_n hx hb dL_law_636 rfl (lv_at hl 1 rfl) ?_
  refine lv_aload_n hx hb dL_law_637 rfl (lv_at hl 0 rfl) ?_
  refine lv_iload_n hx hb dL_law_638 rfl (lv_at hl 3 rfl) ?_
  refine lv_iconst (v := 1) hx hb dL_law_639 (by decide) ?_
  refine n_iadd i 1 rfl rfl hx hb dL_law_640 ?_
  refine g_sld (j := i + 1) X hX hbl hbA G rfl (by omega) hL dL_law_641 ?_
  refine g_callV (As := [.int (xs (i + 1))]) (rest := []) X kL_66 C3 G 14 rfl rfl ⟨Nat.le_of_ble_eq_true rfl, Nat.le_of_ble_eq_true rfl⟩ ⟨Nat.le_of_ble_eq_true rfl, Nat.le_of_ble_eq_true rfl⟩ rfl hl.1 rfl (Nat.le_of_ble_eq_true rfl) dL_law_642 (fun H locs G => ?_)
  have G := Gw_perm (pw E a b0 b1 mo h0 g0 k0 fo st i0 i1 kp mm) G
  refine lv_aload_n hx hb dL_law_645 rfl (lv_at hl 2 rfl) ?_
  refine lv_aload_n hx hb dL_law_646 rfl (lv_at hl 0 rfl) ?_
  refine lv_iload_n hx hb dL_law_647 rfl (lv_at hl 3 rfl) ?_
  refine lv_iconst (v := 1) hx hb dL_law_648 (by decide) ?_
  refine n_iadd i 1 rfl rfl hx hb dL_law_649 ?_
  refine g_sld (j := i + 1) X hX hbl hbA G rfl (by omega) hL dL_law_650 ?_
  refine g_callV (As := [.int (xs (i + 1))]) (rest := [_]) X kL_69 (C4 _) G 0 rfl rfl ⟨Nat.le_of_ble_eq_true rfl, Nat.le_of_ble_eq_true rfl⟩ ⟨Nat.le_of_ble_eq_true rfl, Nat.le_of_ble_eq_true rfl⟩ rfl hl.1 rfl (Nat.le_of_ble_eq_true rfl) dL_law_651 (fun H locs G => ?_)
  have G := Gw_perm (pw E a b0 b1 mo h0 g0 k0 fo st i0 i1 kp mm).symm G
  exact lv_icmp_eq (tgt := 774) hx hb dL_law_654 (by decide) (fun _ => TL st i0 i1 mm kp H locs (Full_mono (Nat.le_add_right T 100) F) G) (fun h => absurd u h)
set_option maxHeartbeats 1000000 in
theorem lc_host (hL : L ≤ 3072) (hi : i + 6 ≤ L) (hT : T + 100 ≤ 100000) (X : Cx p s m #[Value.ref b] meth c cL_law 4 RL E (AA s)) (hZ : ZZ (AA s) s) (hX : va_X b L xs s s.heap) (hbl : b < s.heap.size) (hf0 : fo 0 = some (b0 0)) (hf1 : fo 1 = some (b1 0)) (F : Full st i0 i1 kp mm T) (G : Gw E (AA s) s (wL E a b0 b1 mo h0 g0 k0 fo st i0 i1 kp mm) H locs) (hl : lv_has ls 4 [(0, .ref b), (1, .ref h0), (2, .ref (mo 0)), (3, .int (nI i))]) (TL : ∀ (st i0 i1 mm : St) (kp : Nat → Int32) (H : Heap) (locs : List Loc), Full st i0 i1 kp mm (T + 100) → Gw E (AA s) s (wL E a b0 b1 mo h0 g0 k0 fo st i0 i1 kp mm) H locs → LwW p l e s m below meth c b H locs 774 ls) : LwW p l e s m below meth c b H locs 659 ls := by
  obtain ⟨hx, hb, hml, hown, hts, hK, hA, hlocks⟩ := id X
  have hbA : ¬ AA s b := Nat.not_le.mpr hbl
  obtain ⟨⟨t, ht, R⟩, e0, e1, -, -⟩ := id F
  have hI : isOk mm := isOk_rel R.1
  have C3 := c_X3_host l E a b0 b1 h0 g0 k0 fo st i0 i1 kp (wM E mo mm []) (xs (i + 1)) (xs (i + 2))
  have C4 : ∀ w, Ct l yX4_host _ _ _ _ E _ (wM E mo mm w) _ _ := fun w => c_X4_host l E mo mm w (xs (i + 1)) (xs (i + 2))
  have u := q_host R.1 (xs (i + 1)) (xs (i + 2))
  generalize xHost st (xs (i + 1)) (xs (i + 2)) = y3 at C3 u
  generalize mHost mm (xs (i + 1)) (xs (i + 2)) = y4 at C4 u
  refine lv_aload_n hx hb dL_law_659 rfl (lv_at hl 1 rfl) ?_
  refine lv_aload_n hx hb dL_law_660 rfl (lv_at hl 0 rfl) ?_
  refine lv_iload_n hx hb dL_law_661 rfl (lv_at hl 3 rfl) ?_
  refine lv_iconst (v := 1) hx hb dL_law_662 (by decide) ?_
  refine n_iadd i 1 rfl rfl hx hb dL_law_663 ?_
  refine g_sld (j := i + 1) X hX hbl hbA G rfl (by omega) hL dL_law_664 ?_
  refine lv_aload_n hx hb dL_law_665 rfl (lv_at hl 0 rfl) ?_
  refine lv_iload_n hx hb dL_law_666 rfl (lv_at hl 3 rfl) ?_
  refine lv_iconst (v := 2) hx hb dL_law_667 (by decide) ?_
  refine n_iadd i 2 rfl rfl hx hb dL_law_668 ?_
  refine g_sld (j := i + 2) X hX hbl hbA G rfl (by omega) hL dL_law_669 ?_
  refine g_callV (As := [.int (xs (i + 1)), .int (xs (i + 2))]) (rest := []) X kL_70 C3 G 14 rfl rfl ⟨Nat.le_of_ble_eq_true rfl, Nat.le_of_ble_eq_true rfl⟩ ⟨Nat.le_of_ble_eq_true rfl, Nat.le_of_ble_eq_true rfl⟩ rfl hl.1 rfl (Nat.le_of_ble_eq_true rfl) dL_law_670 (fun H locs G => ?_)
  have G := Gw_perm (pw E a b0 b1 mo h0 g0 k0 fo st i0 i1 kp mm) G
  refine lv_aload_n hx hb dL_law_673 rfl (lv_at hl 2 rfl) ?_
  refine lv_aload_n hx hb dL_law_674 rfl (lv_at hl 0 rfl) ?_
  refine lv_iload_n hx hb dL_law_675 rfl (lv_at hl 3 rfl) ?_
  refine lv_iconst (v := 1) hx hb dL_law_676 (by decide) ?_
  refine n_iadd i 1 rfl rfl hx hb dL_law_677 ?_
  refine g_sld (j := i + 1) X hX hbl hbA G rfl (by omega) hL dL_law_678 ?_
  refine lv_aload_n hx hb dL_law_679 rfl (lv_at hl 0 rfl) ?_
  refine lv_iload_n hx hb dL_law_680 rfl (lv_at hl 3 rfl) ?_
  refine lv_iconst (v := 2) hx hb dL_law_681 (by decide) ?_
  refine n_iadd i 2 rfl rfl hx hb dL_law_682 ?_
  refine g_sld (j := i + 2) X hX hbl hbA G rfl (by omega) hL dL_law_683 ?_
  refine g_callV (As := [.int (xs (i + 1)), .int (xs (i + 2))]) (rest := [_]) X kL_73 (C4 _) G 0 rfl rfl ⟨Nat.le_of_ble_eq_true rfl, Nat.le_of_ble_eq_true rfl⟩ ⟨Nat.le_of_ble_eq_true rfl, Nat.le_of_ble_eq_true rfl⟩ rfl hl.1 rfl (Nat.le_of_ble_eq_true rfl) dL_law_684 (fun H locs G => ?_)
  have G := Gw_perm (pw E a b0 b1 mo h0 g0 k0 fo st i0 i1 kp mm).symm G
  exact lv_icmp_eq (tgt := 774) hx hb dL_law_687 (by decide) (fun _ => TL st i0 i1 mm kp H locs (Full_mono (Nat.le_add_right T 100) F) G) (fun h => absurd u h)
set_option maxHeartbeats 1000000 in
theorem lc_soon (hL : L ≤ 3072) (hi : i + 6 ≤ L) (hT : T + 100 ≤ 100000) (X : Cx p s m #[Value.ref b] meth c cL_law 4 RL E (AA s)) (hZ : ZZ (AA s) s) (hX : va_X b L xs s s.heap) (hbl : b < s.heap.size) (hf0 : fo 0 = some (b0 0)) (hf1 : fo 1 = some (b1 0)) (F : Full st i0 i1 kp mm T) (G : Gw E (AA s) s (wL E a b0 b1 mo h0 g0 k0 fo st i0 i1 kp mm) H locs) (hl : lv_has ls 4 [(0, .ref b), (1, .ref h0), (2, .ref (mo 0)), (3, .int (nI i))]) (TL : ∀ (st i0 i1 mm : St) (kp : Nat → Int32) (H : Heap) (locs : List Loc), Full st i0 i1 kp mm (T + 100) → Gw E (AA s) s (wL E a b0 b1 mo h0 g0 k0 fo st i0 i1 kp mm) H locs → LwW p l e s m below meth c b H locs 774 ls) : LwW p l e s m below meth c b H locs 692 ls := by
  obtain ⟨hx, hb, hml, hown, hts, hK, hA, hlocks⟩ := id X
  have hbA : ¬ AA s b := Nat.not_le.mpr hbl
  obtain ⟨⟨t, ht, R⟩, e0, e1, -, -⟩ := id F
  have hI : isOk mm := isOk_rel R.1
  have C3 := c_X3_soon l E a b0 b1 h0 g0 k0 fo st i0 i1 kp (wM E mo mm []) 
  have C4 : ∀ w, Ct l yX4_soon _ _ _ _ E _ (wM E mo mm w) _ _ := fun w => c_X4_soon l E mo mm w  hI
  have u := soon_eq R.1 R.2
  generalize ltF st 16 0 (-6) = y3 at C3 u
  generalize soonF mm 16 0 (-6) = y4 at C4 u
  refine lv_aload_n hx hb dL_law_692 rfl (lv_at hl 1 rfl) ?_
  refine g_callV (As := []) (rest := []) X kL_74 C3 G 14 rfl rfl ⟨Nat.le_of_ble_eq_true rfl, Nat.le_of_ble_eq_true rfl⟩ ⟨Nat.le_of_ble_eq_true rfl, Nat.le_of_ble_eq_true rfl⟩ rfl hl.1 rfl (Nat.le_of_ble_eq_true rfl) dL_law_693 (fun H locs G => ?_)
  have G := Gw_perm (pw E a b0 b1 mo h0 g0 k0 fo st i0 i1 kp mm) G
  refine lv_aload_n hx hb dL_law_696 rfl (lv_at hl 2 rfl) ?_
  refine g_callV (As := []) (rest := [_]) X kL_78 (C4 _) G 0 rfl rfl ⟨Nat.le_of_ble_eq_true rfl, Nat.le_of_ble_eq_true rfl⟩ ⟨Nat.le_of_ble_eq_true rfl, Nat.le_of_ble_eq_true rfl⟩ rfl hl.1 rfl (Nat.le_of_ble_eq_true rfl) dL_law_697 (fun H locs G => ?_)
  have G := Gw_perm (pw E a b0 b1 mo h0 g0 k0 fo st i0 i1 kp mm).symm G
  exact lv_icmp_eq (tgt := 774) hx hb dL_law_700 (by decide) (fun _ => TL st i0 i1 mm kp H locs (Full_mono (Nat.le_add_right T 100) F) G) (fun h => absurd u h)
set_option maxHeartbeats 1000000 in
theorem lc_image (hL : L ≤ 3072) (hi : i + 6 ≤ L) (hT : T + 100 ≤ 100000) (X : Cx p s m #[Value.ref b] meth c cL_law 4 RL E (AA s)) (hZ : ZZ (AA s) s) (hX : va_X b L xs s s.heap) (hbl : b < s.heap.size) (hf0 : fo 0 = some (b0 0)) (hf1 : fo 1 = some (b1 0)) (F : Full st i0 i1 kp mm T) (G : Gw E (AA s) s (wL E a b0 b1 mo h0 g0 k0 fo st i0 i1 kp mm) H locs) (hl : lv_has ls 4 [(0, .ref b), (1, .ref h0), (2, .ref (mo 0)), (3, .int (nI i))]) (TL : ∀ (st i0 i1 mm : St) (kp : Nat → Int32) (H : Heap) (locs : List Loc), Full st i0 i1 kp mm (T + 100) → Gw E (AA s) s (wL E a b0 b1 mo h0 g0 k0 fo st i0 i1 kp mm) H locs → LwW p l e s m below meth c b H locs 774 ls) : LwW p l e s m below meth c b H locs 705 ls := by
  obtain ⟨hx, hb, hml, hown, hts, hK, hA, hlocks⟩ := id X
  have hbA : ¬ AA s b := Nat.not_le.mpr hbl
  obtain ⟨⟨t, ht, R⟩, e0, e1, -, -⟩ := id F
  have hI : isOk mm := isOk_rel R.1
  generalize ev : xs (i + 1) = v
  have go : ∀ (r : Int32) (st2 j0 j1 mm2 : St) (kp2 : Nat → Int32), Ct l yX3_image cX3_image 2 (some .int) 3 E [.ref h0, .int (xs (i + 1))] (wL E a b0 b1 mo h0 g0 k0 fo st i0 i1 kp mm) r (wL E a b0 b1 mo h0 g0 k0 fo st2 j0 j1 kp2 mm) → (∀ w, Ct l yX4_image cX4_image 3 (some .int) 1 E [.ref (mo 0), .int (xs (i + 1))] (wM E mo mm w) r (wM E mo mm2 w)) → Full st2 j0 j1 kp2 mm2 T → LwW p l e s m below meth c b H locs 705 ls := by
    intro r st2 j0 j1 mm2 kp2 C3 C4 F2
    refine lv_aload_n hx hb dL_law_705 rfl (lv_at hl 1 rfl) ?_
    refine lv_aload_n hx hb dL_law_706 rfl (lv_at hl 0 rfl) ?_
    refine lv_iload_n hx hb dL_law_707 rfl (lv_at hl 3 rfl) ?_
    refine lv_iconst (v := 1) hx hb dL_law_708 (by decide) ?_
    refine n_iadd i 1 rfl rfl hx hb dL_law_709 ?_
    refine g_sld (j := i + 1) X hX hbl hbA G rfl (by omega) hL dL_law_710 ?_
    refine g_callV (As := [.int (xs (i + 1))]) (rest := []) X kL_79 C3 G 14 rfl rfl ⟨Nat.le_of_ble_eq_true rfl, Nat.le_of_ble_eq_true rfl⟩ ⟨Nat.le_of_ble_eq_true rfl, Nat.le_of_ble_eq_true rfl⟩ rfl hl.1 rfl (Nat.le_of_ble_eq_true rfl) dL_law_711 (fun H locs G => ?_)
    have G := Gw_perm (pw E a b0 b1 mo h0 g0 k0 fo st2 j0 j1 kp2 mm) G
    refine lv_aload_n hx hb dL_law_714 rfl (lv_at hl 2 rfl) ?_
    refine lv_aload_n hx hb dL_law_715 rfl (lv_at hl 0 rfl) ?_
    refine lv_iload_n hx hb dL_law_716 rfl (lv_at hl 3 rfl) ?_
    refine lv_iconst (v := 1) hx hb dL_law_717 (by decide) ?_
    refine n_iadd i 1 rfl rfl hx hb dL_law_718 ?_
    refine g_sld (j := i + 1) X hX hbl hbA G rfl (by omega) hL dL_law_719 ?_
    refine g_callV (As := [.int (xs (i + 1))]) (rest := [_]) X kL_82 (C4 _) G 0 rfl rfl ⟨Nat.le_of_ble_eq_true rfl, Nat.le_of_ble_eq_true rfl⟩ ⟨Nat.le_of_ble_eq_true rfl, Nat.le_of_ble_eq_true rfl⟩ rfl hl.1 rfl (Nat.le_of_ble_eq_true rfl) dL_law_720 (fun H locs G => ?_)
    have G := Gw_perm (pw E a b0 b1 mo h0 g0 k0 fo st2 j0 j1 kp2 mm2).symm G
    exact lv_icmp_eq (tgt := 774) hx hb dL_law_723 (by decide) (fun _ => TL st2 j0 j1 mm2 kp2 H locs (Full_mono (Nat.le_add_right T 100) F2) G) (fun h => absurd rfl h)
  rw [ev] at go
  rcases rg2_cases v with hv | hv | hv
  · refine go (-2) st i0 i1 mm kp (c_X3_imageB l E a b0 b1 h0 g0 k0 fo st i0 i1 kp (wM E mo mm []) v hv) (fun w => ?_) F
    have C4 := c_X4_image l E mo mm w v
    rw [mImage_B hv] at C4
    exact C4
  · rw [hv] at go
    refine go 1 st (cpA i0 st) i1 (sU (iF (imgS 0) 503 0 mm) 2 0 1) (upd kp 0 1) (c_X3_image0 l E a b0 b1 h0 g0 k0 fo st i0 i1 kp (wM E mo mm []) hf0) (fun w => ?_) (Full_image0 F)
    have C4 := c_X4_image l E mo mm w 0
    rw [mImage_0] at C4
    dsimp only at C4
    exact C4
  · rw [hv] at go
    refine go 1 st i0 (cpA i1 st) (sU (iF (imgS 1) 503 0 mm) 2 1 1) (upd kp 1 1) (c_X3_image1 l E a b0 b1 h0 g0 k0 fo st i0 i1 kp (wM E mo mm []) hf1) (fun w => ?_) (Full_image1 F)
    have C4 := c_X4_image l E mo mm w 1
    rw [mImage_1] at C4
    dsimp only at C4
    exact C4
set_option maxHeartbeats 1000000 in
theorem lc_restore (hL : L ≤ 3072) (hi : i + 6 ≤ L) (hT : T + 100 ≤ 100000) (X : Cx p s m #[Value.ref b] meth c cL_law 4 RL E (AA s)) (hZ : ZZ (AA s) s) (hX : va_X b L xs s s.heap) (hbl : b < s.heap.size) (hf0 : fo 0 = some (b0 0)) (hf1 : fo 1 = some (b1 0)) (F : Full st i0 i1 kp mm T) (G : Gw E (AA s) s (wL E a b0 b1 mo h0 g0 k0 fo st i0 i1 kp mm) H locs) (hl : lv_has ls 4 [(0, .ref b), (1, .ref h0), (2, .ref (mo 0)), (3, .int (nI i))]) (TL : ∀ (st i0 i1 mm : St) (kp : Nat → Int32) (H : Heap) (locs : List Loc), Full st i0 i1 kp mm (T + 100) → Gw E (AA s) s (wL E a b0 b1 mo h0 g0 k0 fo st i0 i1 kp mm) H locs → LwW p l e s m below meth c b H locs 774 ls) : LwW p l e s m below meth c b H locs 728 ls := by
  obtain ⟨hx, hb, hml, hown, hts, hK, hA, hlocks⟩ := id X
  have hbA : ¬ AA s b := Nat.not_le.mpr hbl
  obtain ⟨⟨t, ht, R⟩, e0, e1, -, -⟩ := id F
  have hI : isOk mm := isOk_rel R.1
  generalize ev : xs (i + 1) = v
  have go : ∀ (r : Int32) (st2 j0 j1 mm2 : St) (kp2 : Nat → Int32), Ct l yX3_restore cX3_restore 2 (some .int) 3 E [.ref h0, .int (xs (i + 1))] (wL E a b0 b1 mo h0 g0 k0 fo st i0 i1 kp mm) r (wL E a b0 b1 mo h0 g0 k0 fo st2 j0 j1 kp2 mm) → (∀ w, Ct l yX4_restore cX4_restore 3 (some .int) 1 E [.ref (mo 0), .int (xs (i + 1))] (wM E mo mm w) r (wM E mo mm2 w)) → Full st2 j0 j1 kp2 mm2 T → LwW p l e s m below meth c b H locs 728 ls := by
    intro r st2 j0 j1 mm2 kp2 C3 C4 F2
    refine lv_aload_n hx hb dL_law_728 rfl (lv_at hl 1 rfl) ?_
    refine lv_aload_n hx hb dL_law_729 rfl (lv_at hl 0 rfl) ?_
    refine lv_iload_n hx hb dL_law_730 rfl (lv_at hl 3 rfl) ?_
    refine lv_iconst (v := 1) hx hb dL_law_731 (by decide) ?_
    refine n_iadd i 1 rfl rfl hx hb dL_law_732 ?_
    refine g_sld (j := i + 1) X hX hbl hbA G rfl (by omega) hL dL_law_733 ?_
    refine g_callV (As := [.int (xs (i + 1))]) (rest := []) X kL_83 C3 G 14 rfl rfl ⟨Nat.le_of_ble_eq_true rfl, Nat.le_of_ble_eq_true rfl⟩ ⟨Nat.le_of_ble_eq_true rfl, Nat.le_of_ble_eq_true rfl⟩ rfl hl.1 rfl (Nat.le_of_ble_eq_true rfl) dL_law_734 (fun H locs G => ?_)
    have G := Gw_perm (pw E a b0 b1 mo h0 g0 k0 fo st2 j0 j1 kp2 mm) G
    refine lv_aload_n hx hb dL_law_737 rfl (lv_at hl 2 rfl) ?_
    refine lv_aload_n hx hb dL_law_738 rfl (lv_at hl 0 rfl) ?_
    refine lv_iload_n hx hb dL_law_739 rfl (lv_at hl 3 rfl) ?_
    refine lv_iconst (v := 1) hx hb dL_law_740 (by decide) ?_
    refine n_iadd i 1 rfl rfl hx hb dL_law_741 ?_
    refine g_sld (j := i + 1) X hX hbl hbA G rfl (by omega) hL dL_law_742 ?_
    refine g_callV (As := [.int (xs (i + 1))]) (rest := [_]) X kL_86 (C4 _) G 0 rfl rfl ⟨Nat.le_of_ble_eq_true rfl, Nat.le_of_ble_eq_true rfl⟩ ⟨Nat.le_of_ble_eq_true rfl, Nat.le_of_ble_eq_true rfl⟩ rfl hl.1 rfl (Nat.le_of_ble_eq_true rfl) dL_law_743 (fun H locs G => ?_)
    have G := Gw_perm (pw E a b0 b1 mo h0 g0 k0 fo st2 j0 j1 kp2 mm2).symm G
    exact lv_icmp_eq (tgt := 774) hx hb dL_law_746 (by decide) (fun _ => TL st2 j0 j1 mm2 kp2 H locs (Full_mono (Nat.le_add_right T 100) F2) G) (fun h => absurd rfl h)
  rw [ev] at go
  rcases rg2_cases v with hv | hv | hv
  · refine go (-2) st i0 i1 mm kp (c_X3_restoreB l E a b0 b1 h0 g0 k0 fo st i0 i1 kp (wM E mo mm []) v hv) (fun w => ?_) F
    have C4 := c_X4_restore l E mo mm w v
    rw [mRestore_B hv] at C4
    exact C4
  · rw [hv] at go
    by_cases hk : kp 0 = 0
    · refine go (-3) st i0 i1 mm kp (c_X3_restore0N l E a b0 b1 h0 g0 k0 fo st i0 i1 kp (wM E mo mm []) hf0 hk) (fun w => ?_) F
      have C4 := c_X4_restore l E mo mm w 0
      rw [mRestore_0N (by rw [← e0]; exact hk)] at C4
      exact C4
    · refine go 1 (cpA st i0) i0 i1 (iF (resS 0) 503 0 mm) kp (c_X3_restore0 l E a b0 b1 h0 g0 k0 fo st i0 i1 kp (wM E mo mm []) hf0 hk) (fun w => ?_) (Full_restore0 hk F)
      have C4 := c_X4_restore l E mo mm w 0
      rw [mRestore_0 (by rw [← e0]; exact hk)] at C4
      dsimp only at C4
      exact C4
  · rw [hv] at go
    by_cases hk : kp 1 = 0
    · refine go (-3) st i0 i1 mm kp (c_X3_restore1N l E a b0 b1 h0 g0 k0 fo st i0 i1 kp (wM E mo mm []) hf1 hk) (fun w => ?_) F
      have C4 := c_X4_restore l E mo mm w 1
      rw [mRestore_1N (by rw [← e1]; exact hk)] at C4
      exact C4
    · refine go 1 (cpA st i1) i0 i1 (iF (resS 1) 503 0 mm) kp (c_X3_restore1 l E a b0 b1 h0 g0 k0 fo st i0 i1 kp (wM E mo mm []) hf1 hk) (fun w => ?_) (Full_restore1 hk F)
      have C4 := c_X4_restore l E mo mm w 1
      rw [mRestore_1 (by rw [← e1]; exact hk)] at C4
      dsimp only at C4
      exact C4
set_option maxHeartbeats 1000000 in
theorem lc_count (hL : L ≤ 3072) (hi : i + 6 ≤ L) (hT : T + 100 ≤ 100000) (X : Cx p s m #[Value.ref b] meth c cL_law 4 RL E (AA s)) (hZ : ZZ (AA s) s) (hX : va_X b L xs s s.heap) (hbl : b < s.heap.size) (hf0 : fo 0 = some (b0 0)) (hf1 : fo 1 = some (b1 0)) (F : Full st i0 i1 kp mm T) (G : Gw E (AA s) s (wL E a b0 b1 mo h0 g0 k0 fo st i0 i1 kp mm) H locs) (hl : lv_has ls 4 [(0, .ref b), (1, .ref h0), (2, .ref (mo 0)), (3, .int (nI i))]) (TL : ∀ (st i0 i1 mm : St) (kp : Nat → Int32) (H : Heap) (locs : List Loc), Full st i0 i1 kp mm (T + 100) → Gw E (AA s) s (wL E a b0 b1 mo h0 g0 k0 fo st i0 i1 kp mm) H locs → LwW p l e s m below meth c b H locs 774 ls) : LwW p l e s m below meth c b H locs 751 ls := by
  obtain ⟨hx, hb, hml, hown, hts, hK, hA, hlocks⟩ := id X
  have hbA : ¬ AA s b := Nat.not_le.mpr hbl
  obtain ⟨⟨t, ht, R⟩, e0, e1, -, -⟩ := id F
  have hI : isOk mm := isOk_rel R.1
  have C3 := c_X3_count l E a b0 b1 h0 g0 k0 fo st i0 i1 kp (wM E mo mm []) (xs (i + 1))
  have C4 : ∀ w, Ct l yX4_count _ _ _ _ E _ (wM E mo mm w) _ _ := fun w => c_X4_count l E mo mm w (xs (i + 1))
  have u := q_count R.1 e0 e1 (xs (i + 1))
  generalize xCount st kp (xs (i + 1)) = y3 at C3 u
  generalize mCount mm (xs (i + 1)) = y4 at C4 u
  refine lv_aload_n hx hb dL_law_751 rfl (lv_at hl 1 rfl) ?_
  refine lv_aload_n hx hb dL_law_752 rfl (lv_at hl 0 rfl) ?_
  refine lv_iload_n hx hb dL_law_753 rfl (lv_at hl 3 rfl) ?_
  refine lv_iconst (v := 1) hx hb dL_law_754 (by decide) ?_
  refine n_iadd i 1 rfl rfl hx hb dL_law_755 ?_
  refine g_sld (j := i + 1) X hX hbl hbA G rfl (by omega) hL dL_law_756 ?_
  refine g_callV (As := [.int (xs (i + 1))]) (rest := []) X kL_87 C3 G 14 rfl rfl ⟨Nat.le_of_ble_eq_true rfl, Nat.le_of_ble_eq_true rfl⟩ ⟨Nat.le_of_ble_eq_true rfl, Nat.le_of_ble_eq_true rfl⟩ rfl hl.1 rfl (Nat.le_of_ble_eq_true rfl) dL_law_757 (fun H locs G => ?_)
  have G := Gw_perm (pw E a b0 b1 mo h0 g0 k0 fo st i0 i1 kp mm) G
  refine lv_aload_n hx hb dL_law_760 rfl (lv_at hl 2 rfl) ?_
  refine lv_aload_n hx hb dL_law_761 rfl (lv_at hl 0 rfl) ?_
  refine lv_iload_n hx hb dL_law_762 rfl (lv_at hl 3 rfl) ?_
  refine lv_iconst (v := 1) hx hb dL_law_763 (by decide) ?_
  refine n_iadd i 1 rfl rfl hx hb dL_law_764 ?_
  refine g_sld (j := i + 1) X hX hbl hbA G rfl (by omega) hL dL_law_765 ?_
  refine g_callV (As := [.int (xs (i + 1))]) (rest := [_]) X kL_90 (C4 _) G 0 rfl rfl ⟨Nat.le_of_ble_eq_true rfl, Nat.le_of_ble_eq_true rfl⟩ ⟨Nat.le_of_ble_eq_true rfl, Nat.le_of_ble_eq_true rfl⟩ rfl hl.1 rfl (Nat.le_of_ble_eq_true rfl) dL_law_766 (fun H locs G => ?_)
  have G := Gw_perm (pw E a b0 b1 mo h0 g0 k0 fo st i0 i1 kp mm).symm G
  exact lv_icmp_eq (tgt := 774) hx hb dL_law_769 (by decide) (fun _ => TL st i0 i1 mm kp H locs (Full_mono (Nat.le_add_right T 100) F) G) (fun h => absurd u h)
end LAW
