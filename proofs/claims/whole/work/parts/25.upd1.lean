theorem end_sim {st st' m m' : St} {t : Nat} {P : Nat → Bool} (hT : rTime st m t) (hR : rRule st m) (hBd : rBind st m t) (hH : rHost st m) (hU : rUniq st m) (hB : rBlock m) (hKn : rKnown st m t) (hHe : rHeld st m t) (E1 : EndB P st st') (E2 : EndM P m m') :
    rTime st' m' t ∧ rRule st' m' ∧ rBind st' m' t ∧ rHost st' m' ∧ rUniq st' m' ∧ rBlock m' ∧ rKnown st' m' t ∧ rHeld st' m' t := by
  obtain ⟨a1, a2, a3, a4⟩ := E1
  obtain ⟨b1, b2, b3, b4, b5⟩ := E2
  have hb := hT.2.2
  have kept : ∀ o, o < 16 → ¬ m' 0 (7 + o) = -6 → P o = false ∧ m' 0 (7 + o) = m 0 (7 + o) ∧ st' 1 o = st 1 o := by
    intro o ho h
    have e := b1 o ho
    cases hp : P o with
    | true => rw [hp] at e; exact absurd e h
    | false =>
      rw [hp] at e
      refine ⟨rfl, e, ?_⟩
      rw [a1 o ho, hp]
      rfl
  refine ⟨⟨?_, ?_, hb⟩, ⟨fun i hi => ?_, ?_, fun i h1 h2 => ?_⟩, fun o ho => ?_, fun o ho => ?_, fun o o' ho ho' h1 h2 h3 h4 => ?_, fun o o' ho ho' h1 h2 h3 => ?_, fun k hk => ?_, ?_⟩
  · rw [a4 11 0 (by omega) (by omega)]; exact hT.1
  · rw [b4 6 (by omega)]; exact hT.2.1
  · rw [a4 0 i (by omega) (by omega), b4 i (by omega)]; exact hR.1 i hi
  · rw [b4 0 (by omega)]; exact hR.2.1
  · rw [b4 i (by omega)]; exact hR.2.2 i h1 h2
  · obtain ⟨c1, c2, c3, c4, c5, c6, c7⟩ := hBd o ho
    rw [a4 2 o (by omega) (by omega), a4 3 o (by omega) (by omega), a4 4 o (by omega) (by omega), a4 5 o (by omega) (by omega), b4 (71 + o) (by omega), b4 (87 + o) (by omega), b4 (39 + o) (by omega), b4 (55 + o) (by omega)]
    exact ⟨c1, c2, c3, c4, c5, c6, fun r hr => by rw [a4 6 _ (by omega) (by omega), b4 (103 + 5 * o + r) (by omega)]; exact c7 r hr⟩
  · rw [a1 o ho, b1 o ho, b4 (23 + o) (by omega)]
    cases hp : P o with
    | true => exact Or.inl ⟨rfl, rfl⟩
    | false => exact hH o ho
  · obtain ⟨p1, p2, p3⟩ := kept o ho h1
    have hne : ¬ m 0 (7 + o) = -6 := by rw [← p2]; exact h1
    rw [b4 (39 + o) (by omega), b4 (39 + o') (by omega)] at h3
    rw [b4 (55 + o) (by omega), b4 (55 + o') (by omega)] at h4
    refine hU o o' ho ho' hne ?_ h3 h4
    rw [p3, a1 o' ho'] at h2
    cases hp : P o' with
    | true =>
      rw [hp] at h2
      rcases hH o ho with ⟨z, -⟩ | ⟨h, p, q1, q2, q3, -⟩
      · exact absurd (by rcases hH o ho with ⟨-, y⟩ | ⟨h, p, q1, q2, q3, q4, -⟩; exact y; rw [z] at q3; exact absurd q3.symm (nI_m6 (by omega))) hne
      · rw [q3] at h2
        exact absurd h2 (nI_m6 (by omega))
    | false => rw [hp] at h2; exact h2
  · obtain ⟨p1, p2, p3⟩ := kept o ho h2
    obtain ⟨q1, q2, q3⟩ := kept o' ho' h3
    rw [p2, q2]
    exact hB o o' ho ho' h1 (by rw [← p2]; exact h2) (by rw [← q2]; exact h3)
  · obtain ⟨y, y1, y2, y3⟩ := hKn k hk
    rcases y3 with ⟨z1, z2⟩ | ⟨z1, z2, z3, o, ho, z4, z5, z6⟩
    · refine ⟨y, ?_, y2, Or.inl ⟨z1, ?_⟩⟩
      · rw [b3 k hk (fun q => q.1 ?_)]
        · exact y1
        · rw [y1, hT.2.1]
          exact nI_le z1 (by omega)
      · rw [a3 k hk (fun q => ?_)]
        · exact z2
        · obtain ⟨o, q1, q2, q3⟩ := q
          rw [z2] at q3
          exact m6_ne q1 q3
    · have hc : ¬ m 0 (183 + k) ≤ m 0 6 := by
        rw [y1, hT.2.1]
        exact nI_ge z1 (by omega)
      cases hp : P o with
      | true =>
        refine ⟨0, ?_, by omega, Or.inl ⟨by omega, ?_⟩⟩
        · rw [b2 k hk hc ⟨o, ho, hp, z5⟩]
          rfl
        · exact a2 k hk ⟨o, ho, hp, z4⟩
      | false =>
        have no : ∀ o', o' < 16 → P o' = true → ¬ nI o = nI o' := fun o' h1 h2 h3 => by
          have := nI_inj (by omega) (by omega) h3
          subst this
          rw [hp] at h2
          cases h2
        refine ⟨y, ?_, y2, Or.inr ⟨z1, z2, ?_, o, ho, ?_, ?_, ?_⟩⟩
        · rw [b3 k hk (fun q => ?_)]
          · exact y1
          · obtain ⟨-, o', q1, q2, q3⟩ := q
            rw [z5] at q3
            exact no o' q1 q2 q3
        · rw [a4 8 k (by omega) (by omega)]; exact z3
        · rw [a3 k hk (fun q => ?_)]
          · exact z4
          · obtain ⟨o', q1, q2, q3⟩ := q
            rw [z4] at q3
            exact no o' q1 q2 q3
        · rw [b4 (215 + k) (by omega)]; exact z5
        · rw [b1 o ho, hp]; exact z6
  · refine ⟨fun v hv => ?_, fun p hp => ?_, fun p p' hp hp' => ?_⟩
    · obtain ⟨y, y1, y2, y3⟩ := hHe.1 v hv
      refine ⟨y, by rw [b4 (247 + v) (by omega)]; exact y1, y2, fun q => ?_⟩
      obtain ⟨p, p1, p2⟩ := y3 q
      exact ⟨p, p1, by rw [a4 9 p (by omega) (by omega)]; exact p2⟩
    · rw [a4 9 p (by omega) (by omega), a4 10 p (by omega) (by omega)]
      rcases hHe.2.1 p hp with z | ⟨v, y, z1, z2, z3, z4, z5⟩
      · exact Or.inl z
      · exact Or.inr ⟨v, y, z1, z2, z3, by rw [b4 (247 + v) (by omega)]; exact z4, z5⟩
    · rw [a4 9 p (by omega) (by omega), a4 9 p' (by omega) (by omega)]
      exact hHe.2.2 p p' hp hp'
theorem map_end {m m' : St} {P : Nat → Bool} (hM : rMap m) (E2 : EndM P m m') : rMap m' := by
  obtain ⟨b1, b2, b3, b4, b5⟩ := E2
  intro o ho h
  have e := b1 o ho
  cases hp : P o with
  | true => rw [hp] at e; exact absurd e h
  | false =>
    rw [hp] at e
    rw [b4 0 (by omega), b4 (39 + o) (by omega), b4 (55 + o) (by omega)]
    exact hM o ho (by rw [← show m' 0 (7 + o) = m 0 (7 + o) from e]; exact h)
theorem end_rel {st st' m m' : St} {t : Nat} {P : Nat → Bool} (R : RelB st m t) (E1 : EndB P st st') (E2 : EndM P m m') : RelB st' m' t := by
  obtain ⟨hT, hR, hBd, hH, hM, hU, hB, hKn, hHe⟩ := R
  obtain ⟨c1, c2, c3, c4, c5, c6, c7, c8⟩ := end_sim hT hR hBd hH hU hB hKn hHe E1 E2
  exact ⟨c1, c2, c3, c4, map_end hM E2, c5, c6, c7, c8⟩
theorem end_NL {st st' : St} {P : Nat → Bool} (E1 : EndB P st st') (h : ∀ o, o < 16 → P o = false → lentC st o = true → 0 < leftC st o) : rNL st' := by
  obtain ⟨a1, a2, a3, a4⟩ := E1
  intro o ho hl
  have hp : P o = false ∧ lentC st o = true := by
    unfold lentC at hl
    rw [a1 o ho] at hl
    cases hp : P o with
    | true => rw [hp] at hl; cases hl
    | false => rw [hp] at hl; exact ⟨rfl, hl⟩
  have e : leftC st' o = leftC st o := by
    unfold leftC lifeC
    rw [a4 3 o (by omega) (by omega), a4 2 o (by omega) (by omega), a4 0 3 (by omega) (by omega), a4 0 4 (by omega) (by omega), a4 0 5 (by omega) (by omega), a4 11 0 (by omega) (by omega)]
  rw [e]
  exact h o ho hp.1 hp.2
def RelF (st m : St) (t : Nat) : Prop := RelB st m t ∧ rNL st
theorem u_drop {st m : St} {t : Nat} (R : RelF st m t) (h : Int32) : (xDrop st h).1 = (mDrop m h).1 ∧ RelF (xDrop st h).2 (mDrop m h).2 t := by
  unfold xDrop mDrop
  by_cases g1 : rg h 4 = false
  · rw [if_pos g1, if_pos g1]
    exact ⟨rfl, R⟩
  · rw [if_neg g1, if_neg g1]
    obtain ⟨j, hj, rfl⟩ := rgN g1 (by decide)
    obtain ⟨a1, a2⟩ := drop_form st (nI j)
    obtain ⟨b1, b2⟩ := dropM_form m hj
    have hH := R.1.2.2.2.1
    have e : ∀ o, o < 16 → decide (hostC st o = nI j) = decide (m 0 (7 + o) = nI j) := fun o ho => by rw [host_eq hH ho]
    dsimp only
    refine ⟨?_, end_rel R.1 (EndB_congr e a1) b1, end_NL a1 (fun o ho _ hl => R.2 o ho hl)⟩
    rw [a2, b2, cF_congr (fun o _ ho => e o (by omega))]
theorem EndB_lent {st st' m : St} {t : Nat} (hH : rHost st m) (hKn : rKnown st m t) (E1 : EndB (fun _ => true) st st') : EndB (mLent m) st st' := by
  obtain ⟨a1, a2, a3, a4⟩ := E1
  refine ⟨fun o ho => ?_, fun k hk q => ?_, fun k hk q => ?_, a4⟩
  · rw [a1 o ho, ← lent_eq hH ho]
    unfold lentC
    by_cases h : st 1 o = -6
    · simp [h]
    · simp [h]
  · obtain ⟨o, q1, q2, q3⟩ := q
    exact a2 k hk ⟨o, q1, rfl, q3⟩
  · refine a3 k hk (fun z => q ?_)
    obtain ⟨o, q1, q2, q3⟩ := z
    obtain ⟨y, y1, y2, y3⟩ := hKn k hk
    rcases y3 with ⟨z1, z2⟩ | ⟨z1, z2, z3, o', ho', z4, z5, z6⟩
    · rw [z2] at q3
      exact absurd q3 (m6_ne q1)
    · rw [z4] at q3
      have := nI_inj (by omega) (by omega) q3
      subst this
      exact ⟨o', q1, (mLent_ne hH q1).mpr z6, z4⟩
theorem rule_range {k z : Nat} (hk : k < 6) (h1 : leastN k ≤ z) (h2 : z ≤ mostN k) : (k = 0 → z ≤ 2) ∧ (3 ≤ k → 1 ≤ z ∧ z ≤ 60) := by
  refine ⟨fun q => ?_, fun q => ?_⟩
  · subst q
    rw [mostN_a (by omega)] at h2
    exact h2
  · rw [leastN_a q] at h1
    rw [mostN_c (by omega) (by omega)] at h2
    exact ⟨h1, h2⟩
theorem set_sim {st m : St} {t k z : Nat} (R : RelB st m t) (hk : k < 6) (h1 : leastN k ≤ z) (h2 : z ≤ mostN k) : rTime (sU st 0 k (nI z)) (sU m 0 k (nI z)) t ∧ rRule (sU st 0 k (nI z)) (sU m 0 k (nI z)) ∧ rBind (sU st 0 k (nI z)) (sU m 0 k (nI z)) t ∧ rHost (sU st 0 k (nI z)) (sU m 0 k (nI z)) ∧ rUniq (sU st 0 k (nI z)) (sU m 0 k (nI z)) ∧ rBlock (sU m 0 k (nI z)) ∧ rKnown (sU st 0 k (nI z)) (sU m 0 k (nI z)) t ∧ rHeld (sU st 0 k (nI z)) (sU m 0 k (nI z)) t := by
  obtain ⟨hT, hR, hBd, hH, hM, hU, hB, hKn, hHe⟩ := R
  have es : ∀ k' i, ¬ k' = 0 → sU st 0 k (nI z) k' i = st k' i := fun k' i h => by rw [sU_at, if_neg (fun q => h q.1)]
  have em : ∀ j, 6 ≤ j → sU m 0 k (nI z) 0 j = m 0 j := fun j h => by rw [sU_at, if_neg (by omega)]
  obtain ⟨r0, r3⟩ := rule_range hk h1 h2
  refine ⟨⟨?_, ?_, hT.2.2⟩, ⟨fun i hi => ?_, ?_, fun i i1 i2 => ?_⟩, fun o ho => ?_, fun o ho => ?_, fun o o' ho ho' => ?_, fun o o' ho ho' => ?_, fun q hq => ?_, fun v hv => ?_, fun p hp => ?_, fun p p' hp hp' => ?_⟩
  · rw [es 11 0 (by omega)]; exact hT.1
  · rw [em 6 (by omega)]; exact hT.2.1
  · rw [sU_at, sU_at, hR.1 i hi]
  · rw [sU_at]
    by_cases q : k = 0
    · rw [if_pos ⟨rfl, q.symm⟩]
      exact ⟨z, r0 q, rfl⟩
    · rw [if_neg (fun y => q y.2.symm)]
      exact hR.2.1
  · rw [sU_at]
    by_cases q : i = k
    · rw [if_pos ⟨rfl, q⟩]
      exact ⟨z, (r3 (by omega)).1, (r3 (by omega)).2, rfl⟩
    · rw [if_neg (fun y => q y.2)]
      exact hR.2.2 i i1 i2
  · rw [es 2 o (by omega), es 3 o (by omega), es 4 o (by omega), es 5 o (by omega), em (71 + o) (by omega), em (87 + o) (by omega), em (39 + o) (by omega), em (55 + o) (by omega)]
    obtain ⟨c1, c2, c3, c4, c5, c6, c7⟩ := hBd o ho
    exact ⟨c1, c2, c3, c4, c5, c6, fun r hr => by rw [es 6 _ (by omega), em (103 + 5 * o + r) (by omega)]; exact c7 r hr⟩
  · rw [es 1 o (by omega), em (7 + o) (by omega), em (23 + o) (by omega)]; exact hH o ho
  · rw [es 1 o (by omega), es 1 o' (by omega), em (7 + o) (by omega), em (39 + o) (by omega), em (39 + o') (by omega), em (55 + o) (by omega), em (55 + o') (by omega)]
    exact hU o o' ho ho'
  · rw [em (7 + o) (by omega), em (7 + o') (by omega)]
    exact hB o o' ho ho'
  · obtain ⟨y, y1, y2, y3⟩ := hKn q hq
    refine ⟨y, by rw [em (183 + q) (by omega)]; exact y1, y2, ?_⟩
    rw [es 7 q (by omega), es 8 q (by omega), em (215 + q) (by omega)]
    rcases y3 with w | ⟨w1, w2, w3, o, ho, w4, w5, w6⟩
    · exact Or.inl w
    · exact Or.inr ⟨w1, w2, w3, o, ho, w4, w5, by rw [em (7 + o) (by omega)]; exact w6⟩
  · obtain ⟨y, y1, y2, y3⟩ := hHe.1 v hv
    refine ⟨y, by rw [em (247 + v) (by omega)]; exact y1, y2, fun q => ?_⟩
    obtain ⟨p, p1, p2⟩ := y3 q
    exact ⟨p, p1, by rw [es 9 p (by omega)]; exact p2⟩
  · rw [es 9 p (by omega), es 10 p (by omega)]
    rcases hHe.2.1 p hp with w | ⟨v, y, z1, z2, z3, z4, z5⟩
    · exact Or.inl w
    · exact Or.inr ⟨v, y, z1, z2, z3, by rw [em (247 + v) (by omega)]; exact z4, z5⟩
  · rw [es 9 p (by omega), es 9 p' (by omega)]
    exact hHe.2.2 p p' hp hp'
theorem lapse_rel {st m : St} {t : Nat} (R : RelB st m t) : RelF (endLapC st).1 (lapseC m).1 t ∧ (endLapC st).2 = (lapseC m).2 := by
  obtain ⟨a1, a2⟩ := endLap_form st
  obtain ⟨b1, b2⟩ := lapse_form (isOk_rel R)
  have e : ∀ o, o < 16 → lapB st o = lapM m o := fun o ho => lap_eq R.1 R.2.1 R.2.2.1 R.2.2.2.1 ho
  refine ⟨⟨end_rel R (EndB_congr e a1) b1, end_NL a1 (fun o ho hp hl => ?_)⟩, ?_⟩
  · unfold lapB at hp
    rw [hl] at hp
    simpa using hp
  · rw [a2, b2]
    exact cF_congr (fun o _ ho => e o (by omega))
theorem u_rule {st m : St} {t : Nat} (R : RelF st m t) (what v : Int32) : (xRule st what v).1 = (mRule m what v).1 ∧ RelF (xRule st what v).2 (mRule m what v).2 t := by
  by_cases g1 : frB what 0 5 = false
  · unfold xRule mRule
    rw [if_pos g1, if_pos g1]
    exact ⟨rfl, R⟩
  · have g1' : frB what 0 5 = true := by cases z : frB what 0 5; exact absurd z g1; rfl
    obtain ⟨k, -, hk, rfl⟩ := frB_nat (lo := 0) (hi := 5) 0 5 (by decide) (by decide) rfl rfl g1'
    by_cases g2 : frB v (nI (leastN k)) (nI (mostN k)) = false
    · unfold xRule mRule
      rw [cl_nI (by omega), if_neg g1, if_neg g1, if_pos g2, if_pos g2]
      exact ⟨rfl, R⟩
    · have g2' : frB v (nI (leastN k)) (nI (mostN k)) = true := by cases z : frB v (nI (leastN k)) (nI (mostN k)); exact absurd z g2; rfl
      have l1 := leastN_le k
      have l2 := mostN_le k
      obtain ⟨z, z1, z2, rfl⟩ := frB_nat (leastN k) (mostN k) (by omega) (by omega) rfl rfl g2'
      rw [xRule_c (by omega) g2', mRule_1 _ _ _ (by omega) g2', mRule_2 _ _ _ (by omega) g2']
      have hR := R.1.2.1
      dsimp only
      refine ⟨hR.1 k (by omega), ?_⟩
      unfold setRuleC
      refine (lapse_rel ?_).1
      obtain ⟨c1, c2, c3, c4, c5, c6, c7, c8⟩ := set_sim R.1 (by omega) z1 z2
      by_cases hc : k = 0 ∧ ¬ nI z = st 0 k
      · have hb : (decide (k = 0) && !decide (nI z = m 0 k)) = true := by
          rw [← hR.1 k (by omega)]
          simp [hc.1]
          have := hc.2
          rw [hc.1] at this
          exact this
        rw [if_pos hc, hb]
        have E1 := EndB_lent c4 c7 (endAll_form (sU st 0 k (nI z)))
        have E2 := ruleM_form (sU m 0 k (nI z)) true
        have E2 : EndM (mLent (sU m 0 k (nI z))) (sU m 0 k (nI z)) (iF (ruleS true) 16 0 (sU m 0 k (nI z))) := EndM_congr (fun o _ => by simp) E2
        obtain ⟨d1, d2, d3, d4, d5, d6, d7, d8⟩ := end_sim c1 c2 c3 c4 c5 c6 c7 c8 E1 E2
        refine ⟨d1, d2, d3, d4, fun o ho h => ?_, d5, d6, d7, d8⟩
        exfalso
        have e := E2.1 o ho
        cases hp : mLent (sU m 0 k (nI z)) o with
        | true => rw [hp] at e; exact h e
        | false =>
          rw [hp] at e
          rw [show iF (ruleS true) 16 0 (sU m 0 k (nI z)) 0 (7 + o) = sU m 0 k (nI z) 0 (7 + o) from e] at h
          have := (mLent_ne c4 ho).mpr h
          rw [hp] at this
          cases this
      · have hb : (decide (k = 0) && !decide (nI z = m 0 k)) = false := by
          rw [← hR.1 k (by omega)]
          by_cases q : k = 0
          · have : nI z = st 0 k := by
              by_cases y : nI z = st 0 k
              · exact y
              · exact absurd ⟨q, y⟩ hc
            simp [this]
          · simp [q]
        rw [if_neg hc, hb, iF_ruleF rfl]
        refine ⟨c1, c2, c3, c4, fun o ho h => ?_, c5, c6, c7, c8⟩
        have em : ∀ j, 6 ≤ j → sU m 0 k (nI z) 0 j = m 0 j := fun j h => by rw [sU_at, if_neg (by omega)]
        have e0 : sU m 0 k (nI z) 0 0 = m 0 0 := by
          rw [sU_at]
          by_cases q : k = 0
          · have : nI z = st 0 k := by
              by_cases y : nI z = st 0 k
              · exact y
              · exact absurd ⟨q, y⟩ hc
            rw [if_pos ⟨rfl, q.symm⟩, this, q]
            exact hR.1 0 (by omega)
          · rw [if_neg (fun y => q y.2.symm)]
        rw [em (7 + o) (by omega)] at h
        rw [e0, em (39 + o) (by omega), em (55 + o) (by omega)]
        exact R.1.2.2.2.2.1 o ho h
