theorem RelF_co {st st' m m' : St} {t : Nat} (h0 : ∀ i, i < 6 → st' 0 i = st 0 i) (h1 : ∀ K i, 1 ≤ K → K ≤ 5 → i < 16 → st' K i = st K i) (h6 : ∀ i, i < 80 → st' 6 i = st 6 i) (h7 : ∀ K i, 7 ≤ K → K ≤ 8 → i < 32 → st' K i = st K i) (h9 : ∀ K i, 9 ≤ K → K ≤ 10 → i < 6 → st' K i = st K i) (h11 : st' 11 0 = st 11 0) (hm : ∀ j, j < 503 → m' 0 j = m 0 j) (R : RelF st m t) : RelF st' m' t := by
  obtain ⟨⟨a1, a2, a3, a4, a5, a6, a7, a8, a9⟩, aN⟩ := R
  have b0 : m' 0 0 = m 0 0 := hm 0 (by omega)
  refine ⟨⟨?_, ?_, ?_, ?_, ?_, ?_, ?_, ?_, ?_⟩, ?_⟩
  · unfold rTime at *
    rw [h11, hm 6 (by omega)]
    exact a1
  · unfold rRule at *
    refine ⟨fun i hi => by rw [h0 i hi, hm i (by omega)]; exact a2.1 i hi, by rw [b0]; exact a2.2.1, fun i x y => by rw [hm i (by omega)]; exact a2.2.2 i x y⟩
  · intro o ho
    have z := a3 o ho
    rw [h1 2 o (by omega) (by omega) ho, h1 3 o (by omega) (by omega) ho, h1 4 o (by omega) (by omega) ho, h1 5 o (by omega) (by omega) ho, hm (71 + o) (by omega), hm (87 + o) (by omega), hm (39 + o) (by omega), hm (55 + o) (by omega)]
    refine ⟨z.1, z.2.1, z.2.2.1, z.2.2.2.1, z.2.2.2.2.1, z.2.2.2.2.2.1, fun r hr => ?_⟩
    rw [h6 (o * 5 + r) (by omega), hm (103 + 5 * o + r) (by omega)]
    exact z.2.2.2.2.2.2 r hr
  · intro o ho
    rw [h1 1 o (by omega) (by omega) ho, hm (7 + o) (by omega), hm (23 + o) (by omega)]
    exact a4 o ho
  · intro o ho
    rw [hm (7 + o) (by omega), b0, hm (39 + o) (by omega), hm (55 + o) (by omega)]
    exact a5 o ho
  · intro o o' ho ho'
    rw [h1 1 o (by omega) (by omega) ho, h1 1 o' (by omega) (by omega) ho', hm (7 + o) (by omega), hm (39 + o) (by omega), hm (55 + o) (by omega), hm (39 + o') (by omega), hm (55 + o') (by omega)]
    exact a6 o o' ho ho'
  · intro o o' ho ho'
    rw [hm (7 + o) (by omega), hm (7 + o') (by omega)]
    exact a7 o o' ho ho'
  · intro k hk
    rw [hm (183 + k) (by omega), hm (215 + k) (by omega), h7 7 k (by omega) (by omega) hk, h7 8 k (by omega) (by omega) hk]
    obtain ⟨y, y1, y2, y3⟩ := a8 k hk
    refine ⟨y, y1, y2, ?_⟩
    rcases y3 with y3 | ⟨y3, y4, y5, o, o1, o2, o3, o4⟩
    · exact Or.inl y3
    · exact Or.inr ⟨y3, y4, y5, o, o1, o2, o3, by rw [hm (7 + o) (by omega)]; exact o4⟩
  · obtain ⟨c1, c2, c3⟩ := a9
    refine ⟨fun v hv => ?_, fun p hp => ?_, fun p p' hp hp' => ?_⟩
    · rw [hm (247 + v) (by omega)]
      obtain ⟨y, y1, y2, y3⟩ := c1 v hv
      refine ⟨y, y1, y2, fun q => ?_⟩
      obtain ⟨p, p1, p2⟩ := y3 q
      exact ⟨p, p1, by rw [h9 9 p (by omega) (by omega) p1]; exact p2⟩
    · rw [h9 9 p (by omega) (by omega) hp, h9 10 p (by omega) (by omega) hp]
      rcases c2 p hp with c2 | ⟨v, y, v1, v2, v3, v4, v5⟩
      · exact Or.inl c2
      · exact Or.inr ⟨v, y, v1, v2, v3, by rw [hm (247 + v) (by omega)]; exact v4, v5⟩
    · rw [h9 9 p (by omega) (by omega) hp, h9 9 p' (by omega) (by omega) hp']
      exact c3 p p' hp hp'
  · intro o ho
    have e1 : lentC st' o = lentC st o := by unfold lentC; rw [h1 1 o (by omega) (by omega) ho]
    have e2 : leftC st' o = leftC st o := by
      unfold leftC lifeC
      rw [h1 3 o (by omega) (by omega) ho, h1 2 o (by omega) (by omega) ho, h11, h0 3 (by omega), h0 4 (by omega), h0 5 (by omega)]
    rw [e1, e2]
    exact aN o ho
theorem cpA_0 (st st2 : St) {i : Nat} (h : i < 6) : cpA st st2 0 i = st2 0 i := by
  unfold cpA cpP cpB
  simp [sU_at, sC_at, h]
theorem cpA_1 (st st2 : St) {K i : Nat} (h1 : 1 ≤ K) (h2 : K ≤ 5) (h : i < 16) : cpA st st2 K i = st2 K i := by
  unfold cpA cpP cpB
  rcases (by omega : K = 1 ∨ K = 2 ∨ K = 3 ∨ K = 4 ∨ K = 5) with q | q | q | q | q <;> (rw [q]; simp [sU_at, sC_at, h])
theorem cpA_6 (st st2 : St) {i : Nat} (h : i < 80) : cpA st st2 6 i = st2 6 i := by
  unfold cpA cpP cpB
  simp [sU_at, sC_at, h]
theorem cpA_7 (st st2 : St) {K i : Nat} (h1 : 7 ≤ K) (h2 : K ≤ 8) (h : i < 32) : cpA st st2 K i = st2 K i := by
  unfold cpA cpP cpB
  rcases (by omega : K = 7 ∨ K = 8) with q | q <;> (rw [q]; simp [sU_at, sC_at, h])
theorem cpA_9 (st st2 : St) {K i : Nat} (h1 : 9 ≤ K) (h2 : K ≤ 10) (h : i < 6) : cpA st st2 K i = st2 K i := by
  unfold cpA cpP cpB
  rcases (by omega : K = 9 ∨ K = 10) with q | q <;> (rw [q]; simp [sU_at, sC_at, h])
theorem cpA_11 (st st2 : St) : cpA st st2 11 0 = st2 11 0 := by
  unfold cpA
  simp [sU_at]
theorem RelF_cp {st st2 m m' : St} {t : Nat} (hm : ∀ j, j < 503 → m' 0 j = m 0 j) (R : RelF st2 m t) : RelF (cpA st st2) m' t :=
  RelF_co (fun _ h => cpA_0 st st2 h) (fun _ _ a b h => cpA_1 st st2 a b h) (fun _ h => cpA_6 st st2 h) (fun _ _ a b h => cpA_7 st st2 a b h) (fun _ _ a b h => cpA_9 st st2 a b h) (cpA_11 st st2) hm R
theorem RelF_m {st m m' : St} {t : Nat} (hm : ∀ j, j < 503 → m' 0 j = m 0 j) (R : RelF st m t) : RelF st m' t :=
  RelF_co (fun _ _ => rfl) (fun _ _ _ _ _ => rfl) (fun _ _ => rfl) (fun _ _ _ _ _ => rfl) (fun _ _ _ _ _ => rfl) rfl hm R
theorem img_form (k : Nat) : ∀ (n i : Nat) (x : St) (K j : Nat), iF (imgS k) n i x K j = if K = 1 ∧ 503 * k + i ≤ j ∧ j < 503 * k + i + n then x 0 (j - 503 * k) else x K j
  | 0, i, x, K, j => by rw [if_neg (by omega)]; rfl
  | n + 1, i, x, K, j => by
    rw [iF_s, img_form k n (i + 1) (imgS k i x) K j]
    unfold imgS
    rw [sU_at, sU_at, if_neg (c := 0 = 1 ∧ j - 503 * k = 503 * k + i) (by omega)]
    by_cases hj : K = 1 ∧ j = 503 * k + i
    · obtain ⟨q1, q2⟩ := hj
      rw [if_neg (by omega), if_pos ⟨q1, q2⟩, if_pos ⟨q1, by omega, by omega⟩, show j - 503 * k = i by omega]
    · rw [if_neg hj]
      by_cases hr : K = 1 ∧ 503 * k + i ≤ j ∧ j < 503 * k + i + (n + 1)
      · rw [if_pos hr, if_pos ⟨hr.1, by omega, by omega⟩]
      · rw [if_neg hr, if_neg (fun q => hr ⟨q.1, by omega, by omega⟩)]
theorem res_form (k : Nat) : ∀ (n i : Nat) (x : St) (K j : Nat), iF (resS k) n i x K j = if K = 0 ∧ i ≤ j ∧ j < i + n then x 1 (503 * k + j) else x K j
  | 0, i, x, K, j => by rw [if_neg (by omega)]; rfl
  | n + 1, i, x, K, j => by
    rw [iF_s, res_form k n (i + 1) (resS k i x) K j]
    unfold resS
    rw [sU_at, sU_at, if_neg (c := 1 = 0 ∧ 503 * k + j = i) (by omega)]
    by_cases hj : K = 0 ∧ j = i
    · obtain ⟨q1, q2⟩ := hj
      rw [if_neg (by omega), if_pos ⟨q1, q2⟩, if_pos ⟨q1, by omega, by omega⟩, q2]
    · rw [if_neg hj]
      by_cases hr : K = 0 ∧ i ≤ j ∧ j < i + (n + 1)
      · rw [if_pos hr, if_pos ⟨hr.1, by omega, by omega⟩]
      · rw [if_neg hr, if_neg (fun q => hr ⟨q.1, by omega, by omega⟩)]
/-! the reference's sheets but the first stay as they are -/
def Kp (m m' : St) : Prop := ∀ k, ¬ k = 0 → ∀ j, m' k j = m k j
theorem Kp_r (m : St) : Kp m m := fun _ _ _ => rfl
theorem Kp_t {a b c : St} (h1 : Kp a b) (h2 : Kp b c) : Kp a c := fun k hk j => (h2 k hk j).trans (h1 k hk j)
theorem Kp_u (m : St) (i : Nat) (v : Int32) : Kp m (sU m 0 i v) := fun k hk j => by rw [sU_at, if_neg (fun q => hk q.1)]
theorem Kp_iF {f : Nat → St → St} (h : ∀ j y, Kp y (f j y)) : ∀ (n i : Nat) (x : St), Kp x (iF f n i x)
  | 0, _, x => Kp_r x
  | n + 1, i, x => by
    rw [iF_s]
    exact Kp_t (h i x) (Kp_iF h n (i + 1) _)
theorem Kp_iF2 {f : Nat → St × Nat → St × Nat} (h : ∀ j y, Kp y.1 (f j y).1) : ∀ (n i : Nat) (x : St × Nat), Kp x.1 (iF f n i x).1
  | 0, _, x => Kp_r x.1
  | n + 1, i, x => by
    rw [iF_s]
    exact Kp_t (h i x) (Kp_iF2 h n (i + 1) _)
theorem kp_end (o : Nat) (m : St) : Kp m (mEnd o m) := by
  unfold mEnd
  refine Kp_t (Kp_u m _ _) (Kp_iF (fun j y => ?_) _ _ _)
  unfold mEndK
  split
  · exact Kp_u _ _ _
  · exact Kp_r _
theorem kp_lapse (m : St) : Kp m (lapseC m).1 := by
  unfold lapseC
  refine Kp_iF2 (fun j y => ?_) 16 0 (m, 0)
  unfold mLap
  split
  · dsimp only
    exact kp_end j y.1
  · exact Kp_r _
theorem kp_rule (m : St) (what v : Int32) : Kp m (mRule m what v).2 := by
  unfold mRule
  split
  · exact Kp_r _
  · split
    · exact Kp_r _
    · dsimp only
      refine Kp_t (Kp_t (Kp_u m _ _) (Kp_iF (fun j y => ?_) _ _ _)) (kp_lapse _)
      unfold ruleS
      split
      · exact kp_end _ _
      · exact Kp_r _
theorem kp_tick (m : St) (n : Int32) : Kp m (mTick m n).2 := by
  unfold mTick
  split
  · exact Kp_r _
  · dsimp only
    refine Kp_iF2 (fun j y => ?_) _ 0 (m, 0)
    unfold tickS
    dsimp only
    exact Kp_t (Kp_u _ _ _) (kp_lapse _)
theorem kp_drop (m : St) (h : Int32) : Kp m (mDrop m h).2 := by
  unfold mDrop
  split
  · exact Kp_r _
  · dsimp only
    refine Kp_iF2 (fun j y => ?_) _ 0 (m, 0)
    unfold dropM
    split
    · dsimp only
      exact kp_end j y.1
    · exact Kp_r _
theorem kp_flagO (m : St) (j f : Nat) : Kp m (flagOM m j f) := by
  unfold flagOM
  split
  · exact Kp_u _ _ _
  · split
    · split
      · exact Kp_u _ _ _
      · exact Kp_r _
    · exact Kp_r _
theorem kp_fin (m : St) (j r rp f : Nat) : Kp m (sendFin m j r rp f) := by
  unfold sendFin markM
  exact Kp_t (Kp_t (Kp_u _ _ _) (Kp_u _ _ _)) (kp_flagO _ _ _)
theorem kp_make (m : St) (o : Nat) (h pt r rp : Int32) : Kp m (makeM m o h pt r rp) := by
  unfold makeM make3 make2 make1
  refine Kp_t (Kp_t (Kp_t (Kp_t (Kp_t (Kp_u _ _ _) (Kp_u _ _ _)) (Kp_u _ _ _)) (Kp_u _ _ _)) (Kp_u _ _ _)) (Kp_iF (fun j y => ?_) _ _ _)
  unfold zero5M
  exact Kp_u _ _ _
theorem kp_send (m : St) (h p r rp f : Nat) : Kp m (sendC m h p r rp f) := by
  unfold sendC
  split
  · exact kp_fin _ _ _ _ _
  · split
    · exact Kp_r _
    · exact Kp_t (kp_make _ _ _ _ _ _) (kp_fin _ _ _ _ _)
theorem kp_recv (m : St) (r rp o f : Nat) : Kp m (recvC m r rp o f) := by
  unfold recvC
  split
  · refine Kp_t (Kp_u m (87 + o) (m 0 6)) ?_
    unfold flagIM
    split
    · exact Kp_u _ _ _
    · split
      · exact Kp_u _ _ _
      · exact Kp_r _
  · exact Kp_r _
theorem kp_out (m : St) (h pt r rp f : Int32) : Kp m (mOut m h pt r rp f).2 := by
  unfold mOut
  split
  · exact Kp_r _
  · split
    · exact Kp_r _
    · exact kp_send _ _ _ _ _ _
theorem kp_in (m : St) (r rp o f : Int32) : Kp m (mIn m r rp o f).2 := by
  unfold mIn
  split
  · exact Kp_r _
  · split
    · exact Kp_r _
    · split
      · exact Kp_r _
      · exact kp_recv _ _ _ _ _
theorem kp_turn (m : St) (h pt o f : Int32) : Kp m (mTurn m h pt o f).2 := by
  unfold mTurn
  split
  · exact Kp_r _
  · split
    · exact Kp_r _
    · split
      · exact Kp_r _
      · split
        · exact Kp_r _
        · split
          · exact kp_send _ _ _ _ _ _
          · exact Kp_t (kp_send _ _ _ _ _ _) (kp_recv _ _ _ _ _)
theorem kp_let (m : St) (k : Nat) : Kp m (letGoC m k).1 := by
  unfold letGoC
  refine Kp_iF2 (fun j y => ?_) _ 0 (m, 0)
  unfold letS
  exact Kp_u _ _ _
theorem kp_part (m : St) (r nm pt rp o : Int32) : Kp m (mPart m r nm pt rp o).2 := by
  unfold mPart
  split
  · exact Kp_r _
  · split
    · split
      · exact Kp_r _
      · split
        · exact Kp_r _
        · unfold firstM
          dsimp only
          split
          · exact Kp_t (Kp_t (kp_let _ _) (kp_recv _ _ _ _ _)) (Kp_t (Kp_u _ _ _) (Kp_u _ _ _))
          · exact Kp_t (Kp_t (kp_let _ _) (kp_recv _ _ _ _ _)) (Kp_u _ _ _)
    · split
      · exact Kp_r _
      · unfold holdM
        split
        · exact Kp_r _
        · split
          · exact Kp_r _
          · exact Kp_u _ _ _
/-- the sheet that is kept at k -/
def shM (m : St) (k : Nat) : St := fun K i => if K = 0 then m 1 (503 * k + i) else 0
theorem shM_kp {m m' : St} (h : Kp m m') (k : Nat) : shM m' k = shM m k := by
  unfold shM
  funext K i
  rw [h 1 (by decide)]
/-- class and reference agree, images too; T bounds the time -/
def Full (st i0 i1 : St) (kp : Nat → Int32) (m : St) (T : Nat) : Prop := (∃ t, t ≤ T ∧ RelF st m t) ∧ kp 0 = m 2 0 ∧ kp 1 = m 2 1 ∧ (¬ kp 0 = 0 → ∃ t, t ≤ T ∧ RelF i0 (shM m 0) t) ∧ (¬ kp 1 = 0 → ∃ t, t ≤ T ∧ RelF i1 (shM m 1) t)
theorem Full_mono {st i0 i1 : St} {kp : Nat → Int32} {m : St} {T T' : Nat} (h : T ≤ T') (F : Full st i0 i1 kp m T) : Full st i0 i1 kp m T' := by
  obtain ⟨⟨t, t1, t2⟩, f1, f2, f3, f4⟩ := F
  refine ⟨⟨t, Nat.le_trans t1 h, t2⟩, f1, f2, fun q => ?_, fun q => ?_⟩
  · obtain ⟨t, t1, t2⟩ := f3 q
    exact ⟨t, Nat.le_trans t1 h, t2⟩
  · obtain ⟨t, t1, t2⟩ := f4 q
    exact ⟨t, Nat.le_trans t1 h, t2⟩
theorem Full_kp {st st' i0 i1 : St} {kp : Nat → Int32} {m m' : St} {T T' : Nat} (h : T ≤ T') (hk : Kp m m') (R : ∃ t, t ≤ T' ∧ RelF st' m' t) (F : Full st i0 i1 kp m T) : Full st' i0 i1 kp m' T' := by
  obtain ⟨-, f1, f2, f3, f4⟩ := Full_mono h F
  refine ⟨R, by rw [hk 2 (by decide)]; exact f1, by rw [hk 2 (by decide)]; exact f2, ?_, ?_⟩
  · rw [shM_kp hk]; exact f3
  · rw [shM_kp hk]; exact f4
theorem mImage_0 (m : St) : mImage m 0 = (1, sU (iF (imgS 0) 503 0 m) 2 0 1) := by
  unfold mImage
  rw [if_neg (c := frB 0 0 1 = false) (by decide), show cl 0 = 0 from by decide]
theorem mImage_1 (m : St) : mImage m 1 = (1, sU (iF (imgS 1) 503 0 m) 2 1 1) := by
  unfold mImage
  rw [if_neg (c := frB 1 0 1 = false) (by decide), show cl 1 = 1 from by decide]
theorem mImage_B {m : St} {k : Int32} (h : rg k 2 = false) : mImage m k = (-2, m) := by
  unfold mImage
  rw [frB_rg k (k := 1) (hi := 1) (by decide) rfl, if_pos h]
theorem mRestore_B {m : St} {k : Int32} (h : rg k 2 = false) : mRestore m k = (-2, m) := by
  unfold mRestore
  rw [frB_rg k (k := 1) (hi := 1) (by decide) rfl, if_pos h]
theorem mRestore_0N {m : St} (h : m 2 0 = 0) : mRestore m 0 = (-3, m) := by
  unfold mRestore
  rw [if_neg (c := frB 0 0 1 = false) (by decide), show cl 0 = 0 from by decide, if_pos h]
theorem mRestore_1N {m : St} (h : m 2 1 = 0) : mRestore m 1 = (-3, m) := by
  unfold mRestore
  rw [if_neg (c := frB 1 0 1 = false) (by decide), show cl 1 = 1 from by decide, if_pos h]
theorem mRestore_0 {m : St} (h : ¬ m 2 0 = 0) : mRestore m 0 = (1, iF (resS 0) 503 0 m) := by
  unfold mRestore
  rw [if_neg (c := frB 0 0 1 = false) (by decide), show cl 0 = 0 from by decide, if_neg h]
theorem mRestore_1 {m : St} (h : ¬ m 2 1 = 0) : mRestore m 1 = (1, iF (resS 1) 503 0 m) := by
  unfold mRestore
  rw [if_neg (c := frB 1 0 1 = false) (by decide), show cl 1 = 1 from by decide, if_neg h]
theorem rg2_cases (k : Int32) : rg k 2 = false ∨ k = 0 ∨ k = 1 := by
  cases h : rg k 2 with
  | false => exact Or.inl rfl
  | true =>
    obtain ⟨j, h1, h2⟩ := rg_nat (by decide) h
    rcases (by omega : j = 0 ∨ j = 1) with q | q
    · rw [q] at h2; exact Or.inr (Or.inl h2)
    · rw [q] at h2; exact Or.inr (Or.inr h2)
theorem Full_image0 {st i0 i1 : St} {kp : Nat → Int32} {m : St} {T : Nat} (F : Full st i0 i1 kp m T) : Full st (cpA i0 st) i1 (upd kp 0 1) (sU (iF (imgS 0) 503 0 m) 2 0 1) T := by
  obtain ⟨⟨t, t1, t2⟩, f1, f2, f3, f4⟩ := F
  have e0 : ∀ j, sU (iF (imgS 0) 503 0 m) 2 0 1 0 j = m 0 j := fun j => by
    rw [sU_at, if_neg (c := 0 = 2 ∧ j = 0) (by omega), img_form, if_neg (by omega)]
  have e1 : ∀ j, j < 503 → sU (iF (imgS 0) 503 0 m) 2 0 1 1 j = m 0 j := fun j hj => by
    rw [sU_at, if_neg (c := 1 = 2 ∧ j = 0) (by omega), img_form, if_pos (by omega), show j - 503 * 0 = j by omega]
  have e2 : ∀ j, j < 503 → sU (iF (imgS 0) 503 0 m) 2 0 1 1 (503 * 1 + j) = m 1 (503 * 1 + j) := fun j hj => by
    rw [sU_at, if_neg (c := 1 = 2 ∧ 503 * 1 + j = 0) (by omega), img_form, if_neg (by omega)]
  refine ⟨⟨t, t1, RelF_m (fun j _ => e0 j) t2⟩, ?_, ?_, fun _ => ⟨t, t1, RelF_cp (fun j hj => ?_) t2⟩, fun q => ?_⟩
  · rw [sU_at, if_pos ⟨rfl, rfl⟩]; rfl
  · rw [sU_at, if_neg (c := 2 = 2 ∧ 1 = 0) (by omega), img_form, if_neg (by omega)]; exact f2
  · show (if 0 = 0 then sU (iF (imgS 0) 503 0 m) 2 0 1 1 (503 * 0 + j) else 0) = m 0 j
    rw [if_pos rfl, show 503 * 0 + j = j by omega]
    exact e1 j hj
  · have q' : ¬ kp 1 = 0 := q
    obtain ⟨u, u1, u2⟩ := f4 q'
    refine ⟨u, u1, RelF_m (fun j hj => ?_) u2⟩
    show (if 0 = 0 then sU (iF (imgS 0) 503 0 m) 2 0 1 1 (503 * 1 + j) else 0) = (if 0 = 0 then m 1 (503 * 1 + j) else 0)
    rw [if_pos rfl, if_pos rfl]
    exact e2 j hj
theorem Full_image1 {st i0 i1 : St} {kp : Nat → Int32} {m : St} {T : Nat} (F : Full st i0 i1 kp m T) : Full st i0 (cpA i1 st) (upd kp 1 1) (sU (iF (imgS 1) 503 0 m) 2 1 1) T := by
  obtain ⟨⟨t, t1, t2⟩, f1, f2, f3, f4⟩ := F
  have e0 : ∀ j, sU (iF (imgS 1) 503 0 m) 2 1 1 0 j = m 0 j := fun j => by
    rw [sU_at, if_neg (c := 0 = 2 ∧ j = 1) (by omega), img_form, if_neg (by omega)]
  have e1 : ∀ j, j < 503 → sU (iF (imgS 1) 503 0 m) 2 1 1 1 (503 * 1 + j) = m 0 j := fun j hj => by
    rw [sU_at, if_neg (c := 1 = 2 ∧ 503 * 1 + j = 1) (by omega), img_form, if_pos (by omega), show 503 * 1 + j - 503 * 1 = j by omega]
  have e2 : ∀ j, j < 503 → sU (iF (imgS 1) 503 0 m) 2 1 1 1 (503 * 0 + j) = m 1 (503 * 0 + j) := fun j hj => by
    rw [sU_at, if_neg (c := 1 = 2 ∧ 503 * 0 + j = 1) (by omega), img_form, if_neg (by omega)]
  refine ⟨⟨t, t1, RelF_m (fun j _ => e0 j) t2⟩, ?_, ?_, fun q => ?_, fun _ => ⟨t, t1, RelF_cp (fun j hj => ?_) t2⟩⟩
  · rw [sU_at, if_neg (c := 2 = 2 ∧ 0 = 1) (by omega), img_form, if_neg (by omega)]; exact f1
  · rw [sU_at, if_pos ⟨rfl, rfl⟩]; rfl
  · have q' : ¬ kp 0 = 0 := q
    obtain ⟨u, u1, u2⟩ := f3 q'
    refine ⟨u, u1, RelF_m (fun j hj => ?_) u2⟩
    show (if 0 = 0 then sU (iF (imgS 1) 503 0 m) 2 1 1 1 (503 * 0 + j) else 0) = (if 0 = 0 then m 1 (503 * 0 + j) else 0)
    rw [if_pos rfl, if_pos rfl]
    exact e2 j hj
  · show (if 0 = 0 then sU (iF (imgS 1) 503 0 m) 2 1 1 1 (503 * 1 + j) else 0) = m 0 j
    rw [if_pos rfl]
    exact e1 j hj
theorem kp_res (k : Nat) (m : St) : Kp m (iF (resS k) 503 0 m) := Kp_iF (fun j y => by unfold resS; exact Kp_u _ _ _) _ _ _
theorem Full_restore0 {st i0 i1 : St} {kp : Nat → Int32} {m : St} {T : Nat} (h : ¬ kp 0 = 0) (F : Full st i0 i1 kp m T) : Full (cpA st i0) i0 i1 kp (iF (resS 0) 503 0 m) T := by
  refine Full_kp (Nat.le_refl _) (kp_res 0 m) ?_ F
  obtain ⟨u, u1, u2⟩ := F.2.2.2.1 h
  refine ⟨u, u1, RelF_cp (fun j hj => ?_) u2⟩
  rw [res_form, if_pos (by omega)]
  rfl
theorem Full_restore1 {st i0 i1 : St} {kp : Nat → Int32} {m : St} {T : Nat} (h : ¬ kp 1 = 0) (F : Full st i0 i1 kp m T) : Full (cpA st i1) i0 i1 kp (iF (resS 1) 503 0 m) T := by
  refine Full_kp (Nat.le_refl _) (kp_res 1 m) ?_ F
  obtain ⟨u, u1, u2⟩ := F.2.2.2.2 h
  refine ⟨u, u1, RelF_cp (fun j hj => ?_) u2⟩
  rw [res_form, if_pos (by omega)]
  rfl
