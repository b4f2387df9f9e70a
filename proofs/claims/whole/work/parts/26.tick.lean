theorem iF_pt {K : Nat} {v : Int32} {c : St → Nat → Bool} {f : Nat → St → St} (hf : ∀ i st, f i st = if c st i then sU st K i v else st) (hc : ∀ st i j, i ≠ j → c (sU st K j v) i = c st i) : ∀ (n i : Nat) (st : St) (k j : Nat), iF f n i st k j = if k = K ∧ i ≤ j ∧ j < i + n ∧ c st j = true then v else st k j
  | 0, i, st, k, j => by
    rw [if_neg (by omega)]
    rfl
  | n + 1, i, st, k, j => by
    have e1 : f i st k j = if k = K ∧ j = i ∧ c st i = true then v else st k j := by
      rw [hf]
      by_cases h : c st i = true
      · rw [if_pos h, sU_at]
        by_cases h2 : k = K ∧ j = i
        · rw [if_pos h2, if_pos ⟨h2.1, h2.2, h⟩]
        · rw [if_neg h2, if_neg (fun q => h2 ⟨q.1, q.2.1⟩)]
      · rw [if_neg h, if_neg (fun q => h q.2.2)]
    have e2 : ¬ j = i → c (f i st) j = c st j := by
      intro hj
      rw [hf]
      by_cases h : c st i = true
      · rw [if_pos h]
        exact hc st j i hj
      · rw [if_neg h]
    rw [iF_s, iF_pt hf hc n (i + 1) (f i st) k j, e1]
    by_cases hk : k = K
    · by_cases hj : j = i
      · subst hj
        rw [if_neg (fun q => by omega)]
        by_cases h : c st j = true
        · rw [if_pos ⟨hk, rfl, h⟩, if_pos ⟨hk, by omega, by omega, h⟩]
        · rw [if_neg (fun q => h q.2.2), if_neg (fun q => h q.2.2.2)]
      · rw [e2 hj, if_neg (c := k = K ∧ j = i ∧ c st i = true) (fun q => hj q.2.1)]
        by_cases hr : i ≤ j ∧ j < i + (n + 1) ∧ c st j = true
        · rw [if_pos ⟨hk, by omega, by omega, hr.2.2⟩, if_pos ⟨hk, hr.1, hr.2.1, hr.2.2⟩]
        · rw [if_neg (fun q => hr ⟨by omega, by omega, q.2.2.2⟩), if_neg (fun q => hr ⟨q.2.1, q.2.2.1, q.2.2.2⟩)]
    · rw [if_neg (fun q => hk q.1), if_neg (fun q => hk q.1), if_neg (fun q => hk q.1)]
def cK (T : Int32) (st : St) (k : Nat) : Bool := knownC st k && !decide (T - st 8 k < 5)
def cH (T : Int32) (st : St) (i : Nat) : Bool := !decide (st 9 i = -6) && !decide (T - st 10 i < 5)
theorem endOld_at (st : St) (T : Int32) (k j : Nat) : endOldC st T k j = if k = 7 ∧ j < 32 ∧ cK T st j = true then -6 else if k = 9 ∧ j < 6 ∧ cH T st j = true then -6 else st k j := by
  have f1 := iF_pt (K := 7) (v := -6) (c := cK T) (f := oldK T) (fun i st => rfl) (fun st i j h => by
    unfold cK knownC
    rw [sU_at, sU_at, if_neg (fun q => h q.2), if_neg (by omega)])
  have f2 := iF_pt (K := 9) (v := -6) (c := cH T) (f := oldH T) (fun i st => rfl) (fun st i j h => by
    unfold cH
    rw [sU_at, sU_at, if_neg (fun q => h q.2), if_neg (by omega)])
  unfold endOldC
  rw [f2, f1]
  have e : cH T (iF (oldK T) 32 0 st) j = cH T st j := by
    unfold cH
    rw [f1, f1, if_neg (by omega), if_neg (by omega)]
  rw [e]
  by_cases h7 : k = 7 ∧ j < 32 ∧ cK T st j = true
  · rw [if_neg (fun q => by omega), if_pos ⟨h7.1, by omega, by omega, h7.2.2⟩, if_pos h7]
  · rw [if_neg (c := k = 7 ∧ 0 ≤ j ∧ j < 0 + 32 ∧ cK T st j = true) (fun q => h7 ⟨q.1, by omega, q.2.2.2⟩), if_neg h7]
    by_cases h9 : k = 9 ∧ j < 6 ∧ cH T st j = true
    · rw [if_pos ⟨h9.1, by omega, by omega, h9.2.2⟩, if_pos h9]
    · rw [if_neg (fun q => h9 ⟨q.1, by omega, q.2.2.2⟩), if_neg h9]
theorem sub_5 {a b : Nat} (ha : a < 2 ^ 30) (hb : b < 2 ^ 30) : (nI a - nI b < 5) ↔ a < b + 5 := by
  rw [Int32.lt_iff_toInt_lt, pk_sub_toInt ha hb, show (5 : Int32).toInt = 5 by decide]
  omega
/-- the numbers of the reference behind n ticks: which bindings are gone by then, told of the numbers before -/
def goneM (m : St) (T : Nat) (o : Nat) : Bool := mLent m o && !decide (nI T < endOfM m o)
def TickM (m : St) (t n : Nat) (x : St × Nat) : Prop :=
  x.1 0 6 = nI (t + n) ∧ (∀ o, o < 16 → x.1 0 (7 + o) = if goneM m (t + n) o then -6 else m 0 (7 + o)) ∧
  (∀ k, k < 32 → (x.1 0 (183 + k) = m 0 (183 + k) ∨ (x.1 0 (183 + k) = 0 ∧ ∃ o, o < 16 ∧ goneM m (t + n) o = true ∧ m 0 (215 + k) = nI o)) ∧ (¬ m 0 (183 + k) ≤ nI (t + n) → (∃ o, o < 16 ∧ goneM m (t + n) o = true ∧ m 0 (215 + k) = nI o) → x.1 0 (183 + k) = 0)) ∧
  (∀ j, (j < 6 ∨ (23 ≤ j ∧ j < 183) ∨ 215 ≤ j) → x.1 0 j = m 0 j) ∧ (∀ k i, k ≠ 0 → x.1 k i = m k i) ∧ x.2 = cF (goneM m (t + n)) 16 0
theorem tick_form {st m : St} {t : Nat} (R : RelF st m t) : ∀ n, n ≤ 100 → TickM m t n (iF tickS n 0 (m, 0)) := by
  have hT := R.1.1
  have hH := R.1.2.2.2.1
  have hI := isOk_rel R.1
  have hb := hT.2.2
  have ends : ∀ o, o < 16 → ∃ e, e < 2 ^ 30 ∧ endOfM m o = nI e ∧ (mLent m o = true → t < e) := by
    intro o ho
    obtain ⟨u, z, h1, h2, h3, h4, h5, h6, h7⟩ := left_form hT R.1.2.1 R.1.2.2.1 ho
    refine ⟨u + z, by omega, h6, fun hl => ?_⟩
    exact h7.mp (R.2 o ho (by rw [lent_eq hH ho]; exact hl))
  have gone_iff : ∀ T o, T < 2 ^ 30 → o < 16 → ∀ e, e < 2 ^ 30 → endOfM m o = nI e → (goneM m T o = true ↔ mLent m o = true ∧ e ≤ T) := by
    intro T o h1 h2 e h3 h4
    unfold goneM
    rw [h4]
    simp only [Bool.and_eq_true, Bool.not_eq_true', decide_eq_false_iff_not, nI_ltI (show T < 2 ^ 31 by omega) (show e < 2 ^ 31 by omega)]
    constructor
    · intro ⟨a, b⟩; exact ⟨a, by omega⟩
    · intro ⟨a, b⟩; exact ⟨a, by omega⟩
  have later : ∀ (n i : Nat) (x : St × Nat), iF tickS n i x = iF tickS n 0 x := by
    intro n
    induction n with
    | zero => intro i x; rfl
    | succ n ih => intro i x; rw [iF_s, iF_s, ih (i + 1), ih (0 + 1)]; rfl
  have snoc : ∀ (n : Nat) (x : St × Nat), iF tickS (n + 1) 0 x = tickS 0 (iF tickS n 0 x) := by
    intro n
    induction n with
    | zero => intro x; rfl
    | succ n ih => intro x; rw [iF_s, later, ih, iF_s, later n (0 + 1)]
  intro n
  induction n with
  | zero =>
    intro _
    have none0 : ∀ o, o < 16 → goneM m t o = false := by
      intro o ho
      obtain ⟨e, e1, e2, e3⟩ := ends o ho
      cases hg : goneM m t o with
      | false => rfl
      | true =>
        have := (gone_iff t o (by omega) ho e e1 e2).mp hg
        have := e3 this.1
        omega
    refine ⟨hT.2.1, fun o ho => ?_, fun k hk => ⟨Or.inl rfl, fun _ q => ?_⟩, fun _ _ => rfl, fun _ _ _ => rfl, ?_⟩
    · rw [Nat.add_zero, none0 o ho]; rfl
    · obtain ⟨o, q1, q2, -⟩ := q
      rw [Nat.add_zero, none0 o q1] at q2
      cases q2
    · rw [cF_zero (fun j _ hj => by rw [Nat.add_zero]; exact none0 j (by omega))]
      rfl
  | succ n ih =>
    intro hn
    have ih := ih (by omega)
    rw [snoc]
    generalize iF tickS n 0 (m, 0) = x at ih
    obtain ⟨x1, x2, x3, x4, x5, x6⟩ := ih
    -- the clock goes on
    have c6 : sU x.1 0 6 (x.1 0 6 + 1) 0 6 = nI (t + (n + 1)) := by
      rw [sU_at, if_pos ⟨rfl, rfl⟩, x1, nI_1]
      rfl
    have cj : ∀ j, ¬ j = 6 → sU x.1 0 6 (x.1 0 6 + 1) 0 j = x.1 0 j := fun j hj => by rw [sU_at, if_neg (fun q => hj q.2)]
    have ck : ∀ k i, ¬ k = 0 → sU x.1 0 6 (x.1 0 6 + 1) k i = x.1 k i := fun k i hk => by rw [sU_at, if_neg (fun q => hk q.1)]
    have tS1 : (tickS 0 x).1 = (lapseC (sU x.1 0 6 (x.1 0 6 + 1))).1 := by unfold tickS; dsimp only
    have tS2 : (tickS 0 x).2 = x.2 + (lapseC (sU x.1 0 6 (x.1 0 6 + 1))).2 := by unfold tickS; dsimp only
    have hI1 : isOk (sU x.1 0 6 (x.1 0 6 + 1)) := isOk_of (fun o ho => by rw [cj (71 + o) (by omega), x4 (71 + o) (by omega)]) hI
    obtain ⟨b0, bc⟩ := lapse_form hI1
    have eo : ∀ o, o < 16 → endOfM (sU x.1 0 6 (x.1 0 6 + 1)) o = endOfM m o := by
      intro o ho
      obtain ⟨z, hz, ez⟩ := hI o ho
      unfold endOfM
      rw [cj (71 + o) (by omega), x4 (71 + o) (by omega), ez, cl_nI (by omega), cj (87 + o) (by omega), x4 (87 + o) (by omega), cj (3 + z) (by omega), x4 (3 + z) (by omega)]
    have lo : ∀ o, o < 16 → lapM (sU x.1 0 6 (x.1 0 6 + 1)) o = (goneM m (t + (n + 1)) o && !goneM m (t + n) o) := by
      intro o ho
      unfold lapM
      rw [c6, eo o ho]
      have hl : mLent (sU x.1 0 6 (x.1 0 6 + 1)) o = (mLent m o && !goneM m (t + n) o) := by
        unfold mLent
        rw [cj (7 + o) (by omega), x2 o ho]
        cases hg : goneM m (t + n) o with
        | true => simp
        | false => simp
      rw [hl]
      show _ = (mLent m o && !decide (nI (t + (n + 1)) < endOfM m o) && !goneM m (t + n) o)
      cases mLent m o <;> cases goneM m (t + n) o <;> simp
    have mono : ∀ o, o < 16 → goneM m (t + n) o = true → goneM m (t + (n + 1)) o = true := by
      intro o ho hg
      obtain ⟨e, e1, e2, e3⟩ := ends o ho
      have := (gone_iff (t + n) o (by omega) ho e e1 e2).mp hg
      exact (gone_iff (t + (n + 1)) o (by omega) ho e e1 e2).mpr ⟨this.1, by omega⟩
    obtain ⟨b1, b2, b3, b4, b5⟩ := b0
    refine ⟨?_, fun o ho => ?_, fun k hk => ?_, fun j hj => ?_, fun k i hk => ?_, ?_⟩
    · rw [tS1, b4 6 (by omega), c6]
    · rw [tS1, b1 o ho, lo o ho, cj (7 + o) (by omega), x2 o ho]
      cases h1 : goneM m (t + n) o with
      | true => rw [mono o ho h1]; rfl
      | false => cases goneM m (t + (n + 1)) o <;> rfl
    · obtain ⟨y1, y2⟩ := x3 k hk
      have e183 : sU x.1 0 6 (x.1 0 6 + 1) 0 (183 + k) = x.1 0 (183 + k) := cj _ (by omega)
      have e215 : sU x.1 0 6 (x.1 0 6 + 1) 0 (215 + k) = m 0 (215 + k) := by rw [cj _ (by omega), x4 _ (by omega)]
      by_cases q : ¬ sU x.1 0 6 (x.1 0 6 + 1) 0 (183 + k) ≤ sU x.1 0 6 (x.1 0 6 + 1) 0 6 ∧ ∃ o, o < 16 ∧ lapM (sU x.1 0 6 (x.1 0 6 + 1)) o = true ∧ sU x.1 0 6 (x.1 0 6 + 1) 0 (215 + k) = nI o
      · have z := b2 k hk q.1 q.2
        obtain ⟨-, o, q1, q2, q3⟩ := q
        rw [lo o q1, Bool.and_eq_true] at q2
        rw [e215] at q3
        rw [tS1]
        exact ⟨Or.inr ⟨z, o, q1, q2.1, q3⟩, fun _ _ => z⟩
      · have z := b3 k hk q
        rw [tS1, z, e183]
        refine ⟨?_, fun w1 w2 => ?_⟩
        · rcases y1 with y | ⟨y, o, q1, q2, q3⟩
          · exact Or.inl y
          · exact Or.inr ⟨y, o, q1, mono o q1 q2, q3⟩
        · obtain ⟨o, q1, q2, q3⟩ := w2
          have hm : ¬ m 0 (183 + k) ≤ nI (t + n) := fun w => w1 (by
            rw [Int32.le_iff_toInt_le, nI_toInt (by omega)] at w ⊢
            omega)
          cases hg : goneM m (t + n) o with
          | true => exact y2 hm ⟨o, q1, hg, q3⟩
          | false =>
            rcases y1 with y | ⟨y, -⟩
            · exfalso
              apply q
              refine ⟨?_, o, q1, ?_, ?_⟩
              · rw [e183, y, c6]; exact w1
              · rw [lo o q1, q2, hg]; rfl
              · rw [e215]; exact q3
            · exact y
    · rw [tS1, b4 j (by omega), cj j (by omega), x4 j hj]
    · rw [tS1, b5 k i hk, ck k i hk, x5 k i hk]
    · rw [tS2, x6, bc, cF_congr (q := fun o => goneM m (t + (n + 1)) o && !goneM m (t + n) o) (fun j _ hj => lo j (by omega))]
      refine cF_add (fun j _ hj => ?_)
      cases h1 : goneM m (t + n) j with
      | true => rw [mono j (by omega) h1]; rfl
      | false => cases goneM m (t + (n + 1)) j <;> rfl
theorem u_tick {st m : St} {t : Nat} (R : RelF st m t) (ht : t + 100 ≤ 100000) (n : Int32) : (xTick st n).1 = (mTick m n).1 ∧ ∃ t', t' ≤ t + 100 ∧ RelF (xTick st n).2 (mTick m n).2 t' := by
  unfold xTick mTick
  by_cases g1 : frB n 1 100 = false
  · rw [if_pos g1, if_pos g1]
    exact ⟨rfl, t, by omega, R⟩
  · rw [if_neg g1, if_neg g1]
    have g1' : frB n 1 100 = true := by cases z : frB n 1 100; exact absurd z g1; rfl
    obtain ⟨d, d1, d2, rfl⟩ := frB_nat (lo := 1) (hi := 100) 1 100 (by decide) (by decide) rfl rfl g1'
    rw [cl_nI (by omega)]
    dsimp only
    have hF := tick_form R d d2
    generalize iF tickS d 0 (m, 0) = x at hF
    obtain ⟨x1, x2, x3, x4, x5, x6⟩ := hF
    obtain ⟨⟨hT, hR, hBd, hH, hM, hU, hB, hKn, hHe⟩, hN⟩ := R
    have hT0 : st 11 0 + nI d = nI (t + d) := by rw [hT.1, nI_add]
    -- the class's box, before what is over is ended
    obtain ⟨s2, es2⟩ : ∃ z, z = endOldC (sU st 11 0 (st 11 0 + nI d)) (sU st 11 0 (st 11 0 + nI d) 11 0) := ⟨_, rfl⟩
    have hp : passC st (nI d) = endLapC s2 := by rw [es2]; rfl
    have t11 : sU st 11 0 (st 11 0 + nI d) 11 0 = nI (t + d) := by rw [sU_at, if_pos ⟨rfl, rfl⟩, hT0]
    have u0 : ∀ k i, ¬ k = 11 → sU st 11 0 (st 11 0 + nI d) k i = st k i := fun k i hk => by rw [sU_at, if_neg (fun q => hk q.1)]
    have cK0 : ∀ k, cK (nI (t + d)) (sU st 11 0 (st 11 0 + nI d)) k = cK (nI (t + d)) st k := fun k => by unfold cK knownC; rw [u0 7 k (by omega), u0 8 k (by omega)]
    have cH0 : ∀ k, cH (nI (t + d)) (sU st 11 0 (st 11 0 + nI d)) k = cH (nI (t + d)) st k := fun k => by unfold cH; rw [u0 9 k (by omega), u0 10 k (by omega)]
    have s2at : ∀ k j, s2 k j = if k = 7 ∧ j < 32 ∧ cK (nI (t + d)) st j = true then -6 else if k = 9 ∧ j < 6 ∧ cH (nI (t + d)) st j = true then -6 else sU st 11 0 (st 11 0 + nI d) k j := fun k j => by
      rw [es2, endOld_at, t11, cK0, cH0]
    have s2o : ∀ k j, ¬ k = 7 → ¬ k = 9 → ¬ k = 11 → s2 k j = st k j := fun k j h7 h9 h11 => by
      rw [s2at, if_neg (fun q => h7 q.1), if_neg (fun q => h9 q.1), u0 k j h11]
    have s2t : s2 11 0 = nI (t + d) := by rw [s2at, if_neg (by omega), if_neg (by omega), t11]
    obtain ⟨a0, ac⟩ := endLap_form s2
    rw [hp]
    have lb : ∀ o, o < 16 → lapB s2 o = goneM m (t + d) o := by
      intro o ho
      obtain ⟨u, z, h1, h2, h3, h4, h5, h6, h7⟩ := left_form hT hR hBd ho
      unfold lapB goneM
      have e1 : lentC s2 o = mLent m o := by
        rw [← lent_eq hH ho]
        unfold lentC
        rw [s2o 1 o (by omega) (by omega) (by omega)]
      have e2 : leftC s2 o = nI (u + z) - nI (t + d) := by
        obtain ⟨y, y1, y2, y3, y4⟩ := life_eq hR hBd ho
        have e3 : lifeC s2 o = lifeC st o := by
          unfold lifeC
          rw [s2o 2 o (by omega) (by omega) (by omega), s2o 0 3 (by omega) (by omega) (by omega), s2o 0 4 (by omega) (by omega) (by omega), s2o 0 5 (by omega) (by omega) (by omega)]
        have e4 : leftC st o = st 3 o + lifeC st o - st 11 0 := rfl
        unfold leftC
        rw [e3, s2o 3 o (by omega) (by omega) (by omega), s2t]
        have e5 : st 3 o + lifeC st o = nI (u + z) := by
          have : endOfM m o = m 0 (87 + o) + m 0 (3 + cl (m 0 (71 + o))) := rfl
          rw [y4, ← y3] at this
          rw [(hBd o ho).2.2.1, ← this, h6]
        rw [e5]
      have e3 : decide (0 < nI (u + z) - nI (t + d)) = decide (nI (t + d) < nI (u + z)) := by
        rw [Bool.eq_iff_iff]
        simp only [decide_eq_true_eq]
        rw [nI_0s (by omega) (by omega), nI_ltI (by omega) (by omega)]
      rw [e1, e2, h6, e3]
    have a0' := EndB_congr lb a0
    obtain ⟨a1, a2, a3, a4⟩ := a0'
    refine ⟨?_, t + d, by omega, ⟨⟨?_, x1, by omega⟩, ⟨fun i hi => ?_, ?_, fun i h1 h2 => ?_⟩, fun o ho => ?_, fun o ho => ?_, fun o ho h => ?_, fun o o' ho ho' h1 h2 h3 h4 => ?_, fun o o' ho ho' h1 h2 h3 => ?_, fun k hk => ?_, fun v hv => ?_, fun p hp => ?_, fun p p' hp hp' h1 h2 => ?_⟩, ?_⟩
    · rw [ac, x6, cF_congr (fun j _ hj => lb j (by omega))]
    · rw [a4 11 0 (by omega) (by omega)]; exact s2t
    · rw [a4 0 i (by omega) (by omega), s2o 0 i (by omega) (by omega) (by omega), x4 i (by omega)]; exact hR.1 i hi
    · rw [x4 0 (by omega)]; exact hR.2.1
    · rw [x4 i (by omega)]; exact hR.2.2 i h1 h2
    · obtain ⟨c1, c2, c3, ⟨u, c4, c4'⟩, c5, c6, c7⟩ := hBd o ho
      rw [a4 2 o (by omega) (by omega), a4 3 o (by omega) (by omega), a4 4 o (by omega) (by omega), a4 5 o (by omega) (by omega), s2o 2 o (by omega) (by omega) (by omega), s2o 3 o (by omega) (by omega) (by omega), s2o 4 o (by omega) (by omega) (by omega), s2o 5 o (by omega) (by omega) (by omega), x4 (71 + o) (by omega), x4 (87 + o) (by omega), x4 (39 + o) (by omega), x4 (55 + o) (by omega)]
      exact ⟨c1, c2, c3, ⟨u, by omega, c4'⟩, c5, c6, fun r hr => by rw [a4 6 _ (by omega) (by omega), s2o 6 _ (by omega) (by omega) (by omega), x4 (103 + 5 * o + r) (by omega)]; exact c7 r hr⟩
    · rw [a1 o ho, x2 o ho, x4 (23 + o) (by omega), s2o 1 o (by omega) (by omega) (by omega)]
      cases goneM m (t + d) o with
      | true => exact Or.inl ⟨rfl, rfl⟩
      | false => exact hH o ho
    · have e := x2 o ho
      cases hg : goneM m (t + d) o with
      | true => rw [hg] at e; exact absurd e h
      | false =>
        rw [hg] at e
        rw [x4 0 (by omega), x4 (39 + o) (by omega), x4 (55 + o) (by omega)]
        exact hM o ho (by rw [← show x.1 0 (7 + o) = m 0 (7 + o) from e]; exact h)
    · have e := x2 o ho
      rw [x4 (39 + o) (by omega), x4 (39 + o') (by omega)] at h3
      rw [x4 (55 + o) (by omega), x4 (55 + o') (by omega)] at h4
      rw [a1 o ho, a1 o' ho', s2o 1 o (by omega) (by omega) (by omega), s2o 1 o' (by omega) (by omega) (by omega)] at h2
      cases hg : goneM m (t + d) o with
      | true => rw [hg] at e; exact absurd e h1
      | false =>
        rw [hg] at e h2
        have hne : ¬ m 0 (7 + o) = -6 := by rw [← show x.1 0 (7 + o) = m 0 (7 + o) from e]; exact h1
        refine hU o o' ho ho' hne ?_ h3 h4
        cases hg' : goneM m (t + d) o' with
        | true =>
          rw [hg'] at h2
          have := (lent_ne hH ho).mpr hne
          unfold lentC at this
          rw [show st 1 o = -6 from h2] at this
          cases this
        | false => rw [hg'] at h2; exact h2
    · have e := x2 o ho
      have e' := x2 o' ho'
      cases hg : goneM m (t + d) o with
      | true => rw [hg] at e; exact absurd e h2
      | false =>
        cases hg' : goneM m (t + d) o' with
        | true => rw [hg'] at e'; exact absurd e' h3
        | false =>
          rw [hg] at e
          rw [hg'] at e'
          rw [show x.1 0 (7 + o) = m 0 (7 + o) from e] at h2 ⊢
          rw [show x.1 0 (7 + o') = m 0 (7 + o') from e'] at h3 ⊢
          exact hB o o' ho ho' h1 h2 h3
    · obtain ⟨y, y1, y2, y3⟩ := hKn k hk
      obtain ⟨w1, w2⟩ := x3 k hk
      rw [y1] at w1 w2
      have e7 : s2 7 k = if cK (nI (t + d)) st k = true then -6 else st 7 k := by
        rw [s2at]
        by_cases q : cK (nI (t + d)) st k = true
        · rw [if_pos ⟨rfl, hk, q⟩, if_pos q]
        · rw [if_neg (fun z => q z.2.2), if_neg (by omega), u0 7 k (by omega), if_neg q]
      have stay : s2 7 k = -6 → (endLapC s2).1 7 k = -6 := fun q => by
        rw [a3 k hk (fun z => ?_)]
        · exact q
        · obtain ⟨o, q1, -, q3⟩ := z
          rw [q] at q3
          exact m6_ne q1 q3
      have low : y ≤ t + d → (endLapC s2).1 7 k = -6 → ∃ y', x.1 0 (183 + k) = nI y' ∧ y' ≤ t + d + 5 ∧ ((y' ≤ t + d ∧ (endLapC s2).1 7 k = -6) ∨ (t + d < y' ∧ 5 ≤ y' ∧ (endLapC s2).1 8 k = nI (y' - 5) ∧ ∃ o, o < 16 ∧ (endLapC s2).1 7 k = nI o ∧ x.1 0 (215 + k) = nI o ∧ ¬ x.1 0 (7 + o) = -6)) := fun hy q => by
        rcases w1 with z | ⟨z, -⟩
        · exact ⟨y, z, by omega, Or.inl ⟨hy, q⟩⟩
        · exact ⟨0, z, by omega, Or.inl ⟨by omega, q⟩⟩
      rcases y3 with ⟨z1, z2⟩ | ⟨z1, z2, z3, o, ho, z4, z5, z6⟩
      · refine low (by omega) (stay ?_)
        rw [e7, z2]
        split <;> rfl
      · have hkn : knownC st k = true := by
          unfold knownC
          rw [z4, decide_eq_false (nI_m6 (by omega))]
          rfl
        have hck : cK (nI (t + d)) st k = true ↔ y ≤ t + d := by
          unfold cK
          rw [hkn, z3]
          simp only [Bool.true_and, Bool.not_eq_true', decide_eq_false_iff_not]
          rw [sub_5 (by omega) (by omega)]
          omega
        by_cases hy : y ≤ t + d
        · refine low hy (stay ?_)
          rw [e7, if_pos (hck.mpr hy)]
        · have e7' : s2 7 k = nI o := by rw [e7, if_neg (fun q => hy (hck.mp q))]; exact z4
          have hm : ¬ nI y ≤ nI (t + d) := nI_ge (by omega) (by omega)
          cases hg : goneM m (t + d) o with
          | true =>
            refine ⟨0, w2 hm ⟨o, ho, hg, z5⟩, by omega, Or.inl ⟨by omega, ?_⟩⟩
            exact a2 k hk ⟨o, ho, hg, e7'⟩
          | false =>
            have no : ∀ o', o' < 16 → goneM m (t + d) o' = true → ¬ nI o = nI o' := fun o' h1 h2 h3 => by
              have := nI_inj (by omega) (by omega) h3
              subst this
              rw [hg] at h2
              cases h2
            refine ⟨y, ?_, by omega, Or.inr ⟨by omega, z2, ?_, o, ho, ?_, ?_, ?_⟩⟩
            · rcases w1 with z | ⟨-, o', q1, q2, q3⟩
              · exact z
              · rw [z5] at q3
                exact absurd q3 (no o' q1 q2)
            · rw [a4 8 k (by omega) (by omega), s2o 8 k (by omega) (by omega) (by omega)]; exact z3
            · rw [a3 k hk (fun q => ?_)]
              · exact e7'
              · obtain ⟨o', q1, q2, q3⟩ := q
                rw [e7'] at q3
                exact no o' q1 q2 q3
            · rw [x4 (215 + k) (by omega)]; exact z5
            · rw [x2 o ho, hg]; exact z6
    · obtain ⟨y, y1, y2, y3⟩ := hHe.1 v hv
      refine ⟨y, by rw [x4 (247 + v) (by omega)]; exact y1, by omega, fun q => ?_⟩
      obtain ⟨p, p1, p2⟩ := y3 (by omega)
      refine ⟨p, p1, ?_⟩
      rcases hHe.2.1 p p1 with w | ⟨v', y', z1, z2, z3, z4, z5, z6, z7, z8⟩
      · rw [p2] at w
        exact absurd w (nI_m6 (by omega))
      · rw [p2] at z3
        have := nI_inj (by omega) (by omega) z3
        subst this
        rw [y1] at z4
        have := nI_inj (by omega) (by omega) z4
        subst this
        rw [a4 9 p (by omega) (by omega), s2at, if_neg (by omega), if_neg (fun w => ?_), u0 9 p (by omega)]
        · exact p2
        · have := w.2.2
          unfold cH at this
          rw [z8] at this
          simp only [Bool.and_eq_true, Bool.not_eq_true', decide_eq_false_iff_not] at this
          exact this.2 ((sub_5 (by omega) (by omega)).mpr (by omega))
    · rw [a4 9 p (by omega) (by omega), a4 10 p (by omega) (by omega), s2o 10 p (by omega) (by omega) (by omega), s2at, if_neg (by omega)]
      by_cases hc : cH (nI (t + d)) st p = true
      · rw [if_pos ⟨rfl, hp, hc⟩]
        exact Or.inl rfl
      · rw [if_neg (fun q => hc q.2.2), u0 9 p (by omega)]
        rcases hHe.2.1 p hp with w | ⟨v', y', z1, z2, z3, z4, z5, z6, z7, z8⟩
        · exact Or.inl w
        · refine Or.inr ⟨v', y', z1, z2, z3, by rw [x4 (247 + v') (by omega)]; exact z4, ?_, z6, by omega, z8⟩
          rcases Nat.lt_or_ge (t + d) y' with w | w
          · exact w
          · exfalso
            apply hc
            unfold cH
            rw [z3, z8]
            simp only [Bool.and_eq_true, Bool.not_eq_true', decide_eq_false_iff_not]
            refine ⟨nI_m6 (by omega), ?_⟩
            rw [sub_5 (by omega) (by omega)]
            omega
    · have e9 : ∀ p, p < 6 → ¬ (endLapC s2).1 9 p = -6 → (endLapC s2).1 9 p = st 9 p := by
        intro p hp h
        rw [a4 9 p (by omega) (by omega), s2at, if_neg (by omega)] at h ⊢
        by_cases hc : cH (nI (t + d)) st p = true
        · rw [if_pos ⟨rfl, hp, hc⟩] at h
          exact absurd rfl h
        · rw [if_neg (fun q => hc q.2.2), u0 9 p (by omega)]
      have f1 := e9 p hp h2
      have f2 := e9 p' hp' (by rw [← h1]; exact h2)
      rw [f1, f2] at h1
      rw [f1] at h2
      exact hHe.2.2 p p' hp hp' h1 h2
    · refine end_NL a0 (fun o ho hp hl => ?_)
      unfold lapB at hp
      rw [hl] at hp
      simpa using hp
