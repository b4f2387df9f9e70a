theorem RelB_congr {st m m' : St} {t : Nat} (h : ∀ j, m' 0 j = m 0 j) (R : RelB st m t) : RelB st m' t := by
  have e : m' 0 = m 0 := funext h
  unfold RelB rTime rRule rBind rHost rMap rUniq rBlock rKnown rHeld at *
  simp only [e]
  exact R
theorem relP_upd {st : St} {kk : Int32} {i j : Nat} (h : i ≠ j) : relP (sU st 9 j (-6)) kk i = relP st kk i := by
  unfold relP
  rw [sU_at, if_neg (fun q => h q.2)]
theorem rel_form (kk : Int32) : ∀ (n i : Nat) (x : St × Nat), (∀ K j, (iF (relS kk) n i x).1 K j = if K = 9 ∧ i ≤ j ∧ j < i + n ∧ relP x.1 kk j = true then -6 else x.1 K j) ∧ (iF (relS kk) n i x).2 = x.2 + cF (relP x.1 kk) n i
  | 0, i, x => ⟨fun K j => by rw [if_neg (by omega)]; rfl, rfl⟩
  | n + 1, i, x => by
    rw [iF_s]
    obtain ⟨a, b⟩ := rel_form kk n (i + 1) (relS kk i x)
    have cs : cF (relP x.1 kk) (n + 1) i = (if relP x.1 kk i then 1 else 0) + cF (relP x.1 kk) n (i + 1) := rfl
    by_cases hp : relP x.1 kk i = true
    · have e : relS kk i x = (sU x.1 9 i (-6), x.2 + 1) := by unfold relS; rw [if_pos hp]
      rw [e] at a b ⊢
      dsimp only at a b
      refine ⟨fun K j => ?_, ?_⟩
      · rw [a, sU_at]
        by_cases hj : j = i
        · subst hj
          rw [if_neg (fun q => by omega)]
          by_cases hK : K = 9
          · rw [if_pos ⟨hK, rfl⟩, if_pos ⟨hK, by omega, by omega, hp⟩]
          · rw [if_neg (fun q => hK q.1), if_neg (fun q => hK q.1)]
        · rw [relP_upd hj, if_neg (c := K = 9 ∧ j = i) (fun q => hj q.2)]
          by_cases hr : K = 9 ∧ i ≤ j ∧ j < i + (n + 1) ∧ relP x.1 kk j = true
          · rw [if_pos ⟨hr.1, by omega, by omega, hr.2.2.2⟩, if_pos hr]
          · rw [if_neg (fun q => hr ⟨q.1, by omega, by omega, q.2.2.2⟩), if_neg hr]
      · rw [b, cs, if_pos hp, cF_congr (q := relP x.1 kk) (fun j h1 _ => relP_upd (by omega))]
        omega
    · have e : relS kk i x = x := by unfold relS; rw [if_neg hp]
      rw [e] at a b ⊢
      refine ⟨fun K j => ?_, ?_⟩
      · rw [a]
        by_cases hr : K = 9 ∧ i ≤ j ∧ j < i + (n + 1) ∧ relP x.1 kk j = true
        · have : ¬ j = i := fun z => by rw [z] at hr; exact hp hr.2.2.2
          rw [if_pos ⟨hr.1, by omega, by omega, hr.2.2.2⟩, if_pos hr]
        · rw [if_neg (fun q => hr ⟨q.1, by omega, by omega, q.2.2.2⟩), if_neg hr]
      · rw [b, cs, if_neg hp]
        omega
theorem let_form (k : Nat) : ∀ (n i : Nat) (x : St × Nat), (∀ K j, (iF (letS k) n i x).1 K j = if K = 0 ∧ 247 + 8 * k + i ≤ j ∧ j < 247 + 8 * k + i + n then 0 else x.1 K j) ∧ (iF (letS k) n i x).2 = x.2 + cF (fun q => heldM x.1 (8 * k + q)) n i
  | 0, i, x => ⟨fun K j => by rw [if_neg (by omega)]; rfl, rfl⟩
  | n + 1, i, x => by
    rw [iF_s]
    obtain ⟨a, b⟩ := let_form k n (i + 1) (letS k i x)
    have e1 : (letS k i x).1 = sU x.1 0 (247 + 8 * k + i) 0 := by unfold letS; dsimp only
    have e2 : (letS k i x).2 = x.2 + (if heldM x.1 (8 * k + i) then 1 else 0) := by
      unfold letS heldM
      dsimp only
      rw [Nat.add_assoc]
    rw [e1] at a b
    rw [e2] at b
    have cs : cF (fun q => heldM x.1 (8 * k + q)) (n + 1) i = (if heldM x.1 (8 * k + i) then 1 else 0) + cF (fun q => heldM x.1 (8 * k + q)) n (i + 1) := rfl
    refine ⟨fun K j => ?_, ?_⟩
    · rw [a, sU_at]
      by_cases h : K = 0 ∧ 247 + 8 * k + i ≤ j ∧ j < 247 + 8 * k + i + (n + 1)
      · rw [if_pos h]
        by_cases h2 : j = 247 + 8 * k + i
        · rw [if_neg (by omega), if_pos ⟨h.1, h2⟩]
        · rw [if_pos ⟨h.1, by omega, by omega⟩]
      · rw [if_neg h, if_neg (by omega), if_neg (by omega)]
    · rw [b, cs, cF_congr (q := fun q => heldM x.1 (8 * k + q)) (fun j h1 _ => ?_)]
      · omega
      · unfold heldM
        rw [sU_at, sU_at, if_neg (by omega), if_neg (by omega)]
theorem relP_iff {st m : St} {t k : Nat} (hHe : rHeld st m t) (hk : k < 32) {p : Nat} (hp : p < 6) : relP st (nI k) p = true ↔ ¬ st 9 p = -6 ∧ hv st p / 8 = k := by
  unfold relP
  simp only [Bool.and_eq_true, Bool.not_eq_true', decide_eq_false_iff_not, decide_eq_true_eq]
  constructor
  · intro ⟨a, b⟩
    obtain ⟨h1, h2, h3⟩ := hv_of hHe hp a
    refine ⟨a, ?_⟩
    rw [h2] at b
    have : nI (hv st p) / nI 8 = nI k := b
    rw [pk_div (by omega) (by decide) (by decide)] at this
    exact nI_inj (by omega) (by omega) this
  · intro ⟨a, b⟩
    obtain ⟨h1, h2, h3⟩ := hv_of hHe hp a
    refine ⟨a, ?_⟩
    rw [h2]
    show nI (hv st p) / nI 8 = nI k
    rw [pk_div (by omega) (by decide) (by decide), b]
/-- a part that is held no more -/
theorem held_sim {st st' m m' : St} {t : Nat} (R : RelF st m t) (hs : ∀ k i, ¬ k = 9 → ¬ k = 10 → st' k i = st k i) (hm : ∀ j, j < 247 → m' 0 j = m 0 j) (hh : rHeld st' m' t) : RelF st' m' t := by
  obtain ⟨⟨hT, hR, hBd, hH, hM, hU, hB, hKn, hHe⟩, hN⟩ := R
  refine ⟨⟨⟨?_, ?_, hT.2.2⟩, ⟨fun i hi => ?_, ?_, fun i a b => ?_⟩, fun o ho => ?_, fun o ho => ?_, fun o ho => ?_, fun o o' ho ho' => ?_, fun o o' ho ho' => ?_, fun k hk => ?_, hh⟩, fun o ho hl => ?_⟩
  · rw [hs 11 0 (by omega) (by omega)]; exact hT.1
  · rw [hm 6 (by omega)]; exact hT.2.1
  · rw [hs 0 i (by omega) (by omega), hm i (by omega)]; exact hR.1 i hi
  · rw [hm 0 (by omega)]; exact hR.2.1
  · rw [hm i (by omega)]; exact hR.2.2 i a b
  · obtain ⟨c1, c2, c3, c4, c5, c6, c7⟩ := hBd o ho
    rw [hs 2 o (by omega) (by omega), hs 3 o (by omega) (by omega), hs 4 o (by omega) (by omega), hs 5 o (by omega) (by omega), hm (71 + o) (by omega), hm (87 + o) (by omega), hm (39 + o) (by omega), hm (55 + o) (by omega)]
    exact ⟨c1, c2, c3, c4, c5, c6, fun r hr => by rw [hs 6 _ (by omega) (by omega), hm (103 + 5 * o + r) (by omega)]; exact c7 r hr⟩
  · rw [hs 1 o (by omega) (by omega), hm (7 + o) (by omega), hm (23 + o) (by omega)]; exact hH o ho
  · rw [hm (7 + o) (by omega), hm 0 (by omega), hm (39 + o) (by omega), hm (55 + o) (by omega)]; exact hM o ho
  · rw [hs 1 o (by omega) (by omega), hs 1 o' (by omega) (by omega), hm (7 + o) (by omega), hm (39 + o) (by omega), hm (39 + o') (by omega), hm (55 + o) (by omega), hm (55 + o') (by omega)]
    exact hU o o' ho ho'
  · rw [hm (7 + o) (by omega), hm (7 + o') (by omega)]; exact hB o o' ho ho'
  · obtain ⟨y, y1, y2, y3⟩ := hKn k hk
    refine ⟨y, by rw [hm (183 + k) (by omega)]; exact y1, y2, ?_⟩
    rw [hs 7 k (by omega) (by omega), hs 8 k (by omega) (by omega), hm (215 + k) (by omega)]
    rcases y3 with w | ⟨w1, w2, w3, o, ho, w4, w5, w6⟩
    · exact Or.inl w
    · exact Or.inr ⟨w1, w2, w3, o, ho, w4, w5, by rw [hm (7 + o) (by omega)]; exact w6⟩
  · have e1 : lentC st' o = lentC st o := by unfold lentC; rw [hs 1 o (by omega) (by omega)]
    have e2 : leftC st' o = leftC st o := by
      unfold leftC lifeC
      rw [hs 3 o (by omega) (by omega), hs 2 o (by omega) (by omega), hs 0 3 (by omega) (by omega), hs 0 4 (by omega) (by omega), hs 0 5 (by omega) (by omega), hs 11 0 (by omega) (by omega)]
    rw [e2]
    exact hN o ho (by rw [← e1]; exact hl)
theorem release_sim {st m : St} {t k : Nat} (R : RelF st m t) (hk : k < 32) : RelF (iF (relS (nI k)) 6 0 (st, 0)).1 (letGoC m k).1 t ∧ (iF (relS (nI k)) 6 0 (st, 0)).2 = (letGoC m k).2 := by
  have hT := R.1.1
  have hHe := R.1.2.2.2.2.2.2.2.2
  have hb := hT.2.2
  obtain ⟨a, ac⟩ := rel_form (nI k) 6 0 (st, 0)
  obtain ⟨b, bc⟩ := let_form k 8 0 (m, 0)
  unfold letGoC
  dsimp only at a ac b bc
  refine ⟨held_sim R (fun K i h9 _ => ?_) (fun j hj => ?_) ⟨fun v hv0 => ?_, fun p hp => ?_, fun p p' hp hp' h1 h2 => ?_⟩, ?_⟩
  · rw [a, if_neg (fun q => h9 q.1)]
  · rw [b, if_neg (by omega)]
  · obtain ⟨y, y1, y2, y3⟩ := hHe.1 v hv0
    by_cases hv8 : v / 8 = k
    · refine ⟨0, ?_, by omega, fun q => by omega⟩
      rw [b, if_pos ⟨rfl, by omega, by omega⟩]
      rfl
    · refine ⟨y, ?_, y2, fun q => ?_⟩
      · rw [b, if_neg (by omega)]; exact y1
      · obtain ⟨p, p1, p2⟩ := y3 q
        refine ⟨p, p1, ?_⟩
        rw [a, if_neg (fun w => ?_)]
        · exact p2
        · have := ((relP_iff hHe hk p1).mp w.2.2.2).2
          unfold hv at this
          rw [p2, cl_nI (by omega)] at this
          exact hv8 this
  · rw [a, a]
    by_cases hr : relP st (nI k) p = true
    · rw [if_pos ⟨rfl, by omega, by omega, hr⟩]
      exact Or.inl rfl
    · rw [if_neg (fun q => hr q.2.2.2), if_neg (by omega)]
      rcases hHe.2.1 p hp with w | ⟨v, y, z1, z2, z3, z4, z5⟩
      · exact Or.inl w
      · refine Or.inr ⟨v, y, z1, z2, z3, ?_, z5⟩
        rw [b, if_neg (fun q => hr ((relP_iff hHe hk hp).mpr ⟨by rw [z3]; exact nI_m6 (by omega), ?_⟩))]
        · exact z4
        · unfold hv
          rw [z3, cl_nI (by omega)]
          omega
  · have e9 : ∀ p, p < 6 → ¬ (iF (relS (nI k)) 6 0 (st, 0)).1 9 p = -6 → (iF (relS (nI k)) 6 0 (st, 0)).1 9 p = st 9 p := by
      intro p hp h
      rw [a] at h ⊢
      by_cases hr : relP st (nI k) p = true
      · rw [if_pos ⟨rfl, by omega, by omega, hr⟩] at h
        exact absurd rfl h
      · rw [if_neg (fun q => hr q.2.2.2)]
    have f1 := e9 p hp h2
    have f2 := e9 p' hp' (by rw [← h1]; exact h2)
    rw [f1, f2] at h1
    rw [f1] at h2
    exact hHe.2.2 p p' hp hp' h1 h2
  · rw [ac, bc, Nat.zero_add, Nat.zero_add]
    symm
    refine cF_places (relP st (nI k)) (fun p => hv st p - 8 * k) 8 6 (fun p hp h => ?_) (fun p p' hp hp' h h' e => ?_) _ (fun v hv' => ?_)
    · have := ((relP_iff hHe hk hp).mp h).2
      show hv st p - 8 * k < 8
      omega
    · have g := (relP_iff hHe hk hp).mp h
      have g' := (relP_iff hHe hk hp').mp h'
      have e' : hv st p = hv st p' := by
        have := g.2
        have := g'.2
        have e : hv st p - 8 * k = hv st p' - 8 * k := e
        omega
      exact hHe.2.2 p p' hp hp' (by rw [(hv_of hHe hp g.1).2.1, (hv_of hHe hp' g'.1).2.1, e']) g.1
    · rw [held_iff hT hHe (by omega)]
      constructor
      · intro ⟨p, hp, e⟩
        have hvp : hv st p = 8 * k + v := by unfold hv; rw [e, cl_nI (by omega)]
        refine ⟨p, hp, (relP_iff hHe hk hp).mpr ⟨by rw [e]; exact nI_m6 (by omega), by omega⟩, ?_⟩
        show hv st p - 8 * k = v
        omega
      · intro ⟨p, hp, h, e⟩
        have g := (relP_iff hHe hk hp).mp h
        refine ⟨p, hp, ?_⟩
        have e : hv st p - 8 * k = v := e
        have e2 : hv st p = 8 * k + v := by
          have := g.2
          omega
        rw [(hv_of hHe hp g.1).2.1, e2]
theorem kn_sim {st st' m m' : St} {t k : Nat} (R : RelF st m t) (hk : k < 32) (hs : ∀ K i, ¬ (K = 7 ∧ i = k) → ¬ (K = 8 ∧ i = k) → st' K i = st K i) (hm : ∀ j, ¬ j = 183 + k → ¬ j = 215 + k → m' 0 j = m 0 j)
    (hh : ∃ y, m' 0 (183 + k) = nI y ∧ y ≤ t + 5 ∧ ((y ≤ t ∧ st' 7 k = -6) ∨ (t < y ∧ 5 ≤ y ∧ st' 8 k = nI (y - 5) ∧ ∃ o, o < 16 ∧ st' 7 k = nI o ∧ m' 0 (215 + k) = nI o ∧ ¬ m 0 (7 + o) = -6))) : RelF st' m' t := by
  obtain ⟨⟨hT, hR, hBd, hH, hM, hU, hB, hKn, hHe⟩, hN⟩ := R
  have s0 : ∀ K i, ¬ K = 7 → ¬ K = 8 → st' K i = st K i := fun K i a b => hs K i (fun q => a q.1) (fun q => b q.1)
  have m0 : ∀ j, j < 183 ∨ 247 ≤ j → m' 0 j = m 0 j := fun j h => hm j (by omega) (by omega)
  refine ⟨⟨⟨?_, ?_, hT.2.2⟩, ⟨fun i hi => ?_, ?_, fun i a b => ?_⟩, fun o ho => ?_, fun o ho => ?_, fun o ho => ?_, fun o o' ho ho' => ?_, fun o o' ho ho' => ?_, fun q hq => ?_, fun v hv => ?_, fun p hp => ?_, fun p p' hp hp' => ?_⟩, fun o ho hl => ?_⟩
  · rw [s0 11 0 (by omega) (by omega)]; exact hT.1
  · rw [m0 6 (by omega)]; exact hT.2.1
  · rw [s0 0 i (by omega) (by omega), m0 i (by omega)]; exact hR.1 i hi
  · rw [m0 0 (by omega)]; exact hR.2.1
  · rw [m0 i (by omega)]; exact hR.2.2 i a b
  · obtain ⟨c1, c2, c3, c4, c5, c6, c7⟩ := hBd o ho
    rw [s0 2 o (by omega) (by omega), s0 3 o (by omega) (by omega), s0 4 o (by omega) (by omega), s0 5 o (by omega) (by omega), m0 (71 + o) (by omega), m0 (87 + o) (by omega), m0 (39 + o) (by omega), m0 (55 + o) (by omega)]
    exact ⟨c1, c2, c3, c4, c5, c6, fun r hr => by rw [s0 6 _ (by omega) (by omega), m0 (103 + 5 * o + r) (by omega)]; exact c7 r hr⟩
  · rw [s0 1 o (by omega) (by omega), m0 (7 + o) (by omega), m0 (23 + o) (by omega)]; exact hH o ho
  · rw [m0 (7 + o) (by omega), m0 0 (by omega), m0 (39 + o) (by omega), m0 (55 + o) (by omega)]; exact hM o ho
  · rw [s0 1 o (by omega) (by omega), s0 1 o' (by omega) (by omega), m0 (7 + o) (by omega), m0 (39 + o) (by omega), m0 (39 + o') (by omega), m0 (55 + o) (by omega), m0 (55 + o') (by omega)]
    exact hU o o' ho ho'
  · rw [m0 (7 + o) (by omega), m0 (7 + o') (by omega)]; exact hB o o' ho ho'
  · by_cases hqk : q = k
    · subst hqk
      obtain ⟨y, y1, y2, y3⟩ := hh
      refine ⟨y, y1, y2, ?_⟩
      rcases y3 with w | ⟨w1, w2, w3, o, ho, w4, w5, w6⟩
      · exact Or.inl w
      · exact Or.inr ⟨w1, w2, w3, o, ho, w4, w5, by rw [m0 (7 + o) (by omega)]; exact w6⟩
    · obtain ⟨y, y1, y2, y3⟩ := hKn q hq
      refine ⟨y, by rw [hm (183 + q) (by omega) (by omega)]; exact y1, y2, ?_⟩
      rw [hs 7 q (by omega) (by omega), hs 8 q (by omega) (by omega), hm (215 + q) (by omega) (by omega)]
      rcases y3 with w | ⟨w1, w2, w3, o, ho, w4, w5, w6⟩
      · exact Or.inl w
      · exact Or.inr ⟨w1, w2, w3, o, ho, w4, w5, by rw [m0 (7 + o) (by omega)]; exact w6⟩
  · obtain ⟨y, y1, y2, y3⟩ := hHe.1 v hv
    refine ⟨y, by rw [m0 (247 + v) (by omega)]; exact y1, y2, fun q => ?_⟩
    obtain ⟨p, p1, p2⟩ := y3 q
    exact ⟨p, p1, by rw [s0 9 p (by omega) (by omega)]; exact p2⟩
  · rw [s0 9 p (by omega) (by omega), s0 10 p (by omega) (by omega)]
    rcases hHe.2.1 p hp with w | ⟨v, y, z1, z2, z3, z4, z5⟩
    · exact Or.inl w
    · exact Or.inr ⟨v, y, z1, z2, z3, by rw [m0 (247 + v) (by omega)]; exact z4, z5⟩
  · rw [s0 9 p (by omega) (by omega), s0 9 p' (by omega) (by omega)]
    exact hHe.2.2 p p' hp hp'
  · have e1 : lentC st' o = lentC st o := by unfold lentC; rw [s0 1 o (by omega) (by omega)]
    have e2 : leftC st' o = leftC st o := by
      unfold leftC lifeC
      rw [s0 3 o (by omega) (by omega), s0 2 o (by omega) (by omega), s0 0 3 (by omega) (by omega), s0 0 4 (by omega) (by omega), s0 0 5 (by omega) (by omega), s0 11 0 (by omega) (by omega)]
    rw [e2]
    exact hN o ho (by rw [← e1]; exact hl)
theorem recv_let (m : St) (k r rp o : Nat) (hr : r < 5) (ho : o < 16) (hk : k < 32) : whyM (letGoC m k).1 r rp o = whyM m r rp o ∧ (∀ j, recvC (letGoC m k).1 r rp o 0 0 j = (letGoC (recvC m r rp o 0) k).1 0 j) ∧ recvR (letGoC m k).1 r rp o 0 = recvR m r rp o 0 ∧ (letGoC (recvC m r rp o 0) k).2 = (letGoC m k).2 := by
  obtain ⟨b, bc⟩ := let_form k 8 0 (m, 0)
  obtain ⟨d, dc⟩ := let_form k 8 0 (recvC m r rp o 0, 0)
  have e : ∀ j, j < 247 → (letGoC m k).1 0 j = m 0 j := fun j hj => by unfold letGoC; rw [b, if_neg (by omega)]
  have hw : whyM (letGoC m k).1 r rp o = whyM m r rp o := by
    unfold whyM mLent
    rw [e (7 + o) (by omega), e 1 (by omega), e (103 + 5 * o + r) (by omega)]
  have hc : ∀ j, 247 ≤ j ∨ j = 6 → recvC m r rp o 0 0 j = m 0 j := fun j hj => by
    by_cases h : whyM m r rp o = 0
    · rw [recv_at m h, if_neg (by omega), if_neg (by omega)]
    · unfold recvC
      rw [if_neg h]
  have hj : ∀ j, recvC (letGoC m k).1 r rp o 0 0 j = (letGoC (recvC m r rp o 0) k).1 0 j := by
    intro j
    have e2 : (letGoC (recvC m r rp o 0) k).1 0 j = if 247 + 8 * k ≤ j ∧ j < 247 + 8 * k + 8 then 0 else recvC m r rp o 0 0 j := by
      unfold letGoC
      rw [d]
      simp only [true_and, Nat.add_zero]
    have e3 : (letGoC m k).1 0 j = if 247 + 8 * k ≤ j ∧ j < 247 + 8 * k + 8 then 0 else m 0 j := by
      unfold letGoC
      rw [b]
      simp only [true_and, Nat.add_zero]
    rw [e2]
    by_cases h : whyM m r rp o = 0
    · rw [recv_at _ (hw.trans h), recv_at m h, e (71 + o) (by omega), e 6 (by omega), e3]
      by_cases q : 247 + 8 * k ≤ j ∧ j < 247 + 8 * k + 8
      · rw [if_pos q, if_pos q, if_neg (by omega), if_neg (by omega)]
      · rw [if_neg q, if_neg q]
    · unfold recvC
      rw [if_neg (by rw [hw]; exact h), if_neg h, e3]
  refine ⟨hw, hj, ?_, ?_⟩
  · unfold recvR
    rw [hw]
    by_cases h : whyM m r rp o = 0
    · rw [if_pos h, if_pos h]
      unfold insideM
      rw [recv_at _ (hw.trans h), recv_at _ (hw.trans h), recv_at m h, recv_at m h, if_neg (c := 0 = 0 ∧ 7 + o = 71 + o) (by omega), if_neg (c := 0 = 0 ∧ 7 + o = 87 + o) (by omega), if_neg (c := 0 = 0 ∧ 23 + o = 71 + o) (by omega), if_neg (c := 0 = 0 ∧ 23 + o = 87 + o) (by omega), if_neg (c := 0 = 0 ∧ 7 + o = 71 + o) (by omega), if_neg (c := 0 = 0 ∧ 7 + o = 87 + o) (by omega), if_neg (c := 0 = 0 ∧ 23 + o = 71 + o) (by omega), if_neg (c := 0 = 0 ∧ 23 + o = 87 + o) (by omega), e (7 + o) (by omega), e (23 + o) (by omega)]
    · rw [if_neg h, if_neg h]
  · unfold letGoC
    rw [bc, dc, Nat.zero_add, Nat.zero_add]
    refine cF_congr (fun j _ _ => ?_)
    dsimp only
    unfold heldM
    rw [hc _ (Or.inl (by omega)), hc 6 (Or.inr rfl)]
theorem cF_all {P : Nat → Bool} : ∀ {n i : Nat}, cF P n i = n → ∀ j, i ≤ j → j < i + n → P j = true
  | 0, i, _, j, h1, h2 => by omega
  | n + 1, i, h, j, h1, h2 => by
    have e : cF P (n + 1) i = (if P i then 1 else 0) + cF P n (i + 1) := rfl
    have l := cF_le P n (i + 1)
    by_cases hp : P i = true
    · rw [e, if_pos hp] at h
      by_cases hj : j = i
      · rw [hj]; exact hp
      · exact cF_all (n := n) (i := i + 1) (by omega) j (by omega) (by omega)
    · rw [e, if_neg hp] at h
      omega
theorem cF_all2 {P : Nat → Bool} : ∀ {n i : Nat}, (∀ j, i ≤ j → j < i + n → P j = true) → cF P n i = n
  | 0, _, _ => rfl
  | n + 1, i, h => by
    have e : cF P (n + 1) i = (if P i then 1 else 0) + cF P n (i + 1) := rfl
    rw [e, if_pos (h i (Nat.le_refl _) (by omega)), cF_all2 (n := n) (i := i + 1) (fun j h1 h2 => h j (by omega) (by omega))]
    omega
theorem hold_sim {st m : St} {t k pt : Nat} (R : RelF st m t) (hk : k < 32) (hp1 : 0 < pt) (hp8 : pt < 8) : (holdC st (nI (k * 8 + pt)) (nI t)).1 = (holdM m k pt).1 ∧ RelF (holdC st (nI (k * 8 + pt)) (nI t)).2 (holdM m k pt).2 t := by
  have hT := R.1.1
  have hHe := R.1.2.2.2.2.2.2.2.2
  have hb := hT.2.2
  obtain ⟨v, ev⟩ : ∃ v, v = k * 8 + pt := ⟨_, rfl⟩
  have ev2 : 247 + 8 * k + pt = 247 + v := by omega
  have hv256 : v < 256 := by omega
  have hc : (!decide (m 0 (247 + v) ≤ m 0 6)) = heldM m v := rfl
  unfold holdC holdM
  rw [← ev, ev2, hc]
  cases hs : placeO st (nI v) with
  | some p =>
    have hp := placeO_lt hs
    have e9 : st 9 p = nI v := by
      have := (fF_lt hs).2.2
      unfold placeP at this
      simpa using this
    rw [if_pos ((held_iff hT hHe hv256).mpr ⟨p, hp, e9⟩)]
    exact ⟨rfl, R⟩
  | none =>
    have no : ∀ p, p < 6 → ¬ st 9 p = nI v := by
      intro p hp
      have := fF_none hs p (by omega) (by omega)
      unfold placeP at this
      simpa using this
    rw [if_neg (fun q => by obtain ⟨p, hp, e⟩ := (held_iff hT hHe hv256).mp q; exact no p hp e)]
    have hm := heldMany_eq hT hHe
    unfold countHeldC at hm
    cases hf : placeO st (-6) with
    | none =>
      have all : ∀ p, p < 6 → ¬ st 9 p = -6 := by
        intro p hp
        have := fF_none hf p (by omega) (by omega)
        unfold placeP at this
        simpa using this
      rw [if_pos (by rw [← hm]; exact cF_all2 (fun j _ hj => by have := all j (by omega); simpa using this))]
      exact ⟨rfl, R⟩
    | some j =>
      have hj := placeO_lt hf
      have e9 : st 9 j = -6 := by
        have := (fF_lt hf).2.2
        unfold placeP at this
        simpa using this
      rw [if_neg (fun q => by
        rw [← hm] at q
        have := cF_all q j (by omega) (by omega)
        rw [e9] at this
        simp at this)]
      dsimp only
      refine ⟨rfl, ?_⟩
      have h5 : m 0 6 + 5 = nI (t + 5) := by
        rw [hT.2.1]
        exact nI_add t 5
      rw [h5]
      have sa : ∀ K i, sU (sU st 9 j (nI v)) 10 j (nI t) K i = if K = 10 ∧ i = j then nI t else if K = 9 ∧ i = j then nI v else st K i := fun K i => by rw [sU_at, sU_at]
      have ma : ∀ i, sU m 0 (247 + v) (nI (t + 5)) 0 i = if i = 247 + v then nI (t + 5) else m 0 i := fun i => by rw [sU_at]; simp only [true_and]
      have s9 : ∀ p, ¬ p = j → sU (sU st 9 j (nI v)) 10 j (nI t) 9 p = st 9 p := fun p hp => by rw [sa, if_neg (by omega), if_neg (fun q => hp q.2)]
      have s9j : sU (sU st 9 j (nI v)) 10 j (nI t) 9 j = nI v := by rw [sa, if_neg (by omega), if_pos ⟨rfl, rfl⟩]
      refine held_sim R (fun K i q1 q2 => ?_) (fun i hi => ?_) ⟨fun v' hv' => ?_, fun p hp => ?_, fun p p' hp hp' h1 h2 => ?_⟩
      · rw [sa, if_neg (fun q => q2 q.1), if_neg (fun q => q1 q.1)]
      · rw [ma, if_neg (by omega)]
      · by_cases q : v' = v
        · subst q
          exact ⟨t + 5, by rw [ma, if_pos rfl], Nat.le_refl _, fun _ => ⟨j, hj, s9j⟩⟩
        · obtain ⟨y, y1, y2, y3⟩ := hHe.1 v' hv'
          refine ⟨y, by rw [ma, if_neg (by omega)]; exact y1, y2, fun w => ?_⟩
          obtain ⟨p, p1, p2⟩ := y3 w
          have : ¬ p = j := fun z => by rw [z, e9] at p2; exact nI_m6 (by omega) p2.symm
          exact ⟨p, p1, by rw [s9 p this]; exact p2⟩
      · by_cases q : p = j
        · subst q
          refine Or.inr ⟨v, t + 5, hv256, by omega, s9j, by rw [ma, if_pos rfl], by omega, by omega, Nat.le_refl _, ?_⟩
          rw [sa, if_pos ⟨rfl, rfl⟩, Nat.add_sub_cancel]
        · have s10 : sU (sU st 9 j (nI v)) 10 j (nI t) 10 p = st 10 p := by rw [sa, if_neg (fun w => q w.2), if_neg (by omega)]
          rw [s9 p q, s10]
          rcases hHe.2.1 p hp with w | ⟨v', y, z1, z2, z3, z4, z5⟩
          · exact Or.inl w
          · have : ¬ v' = v := fun z => by rw [z] at z3; exact no p hp z3
            exact Or.inr ⟨v', y, z1, z2, z3, by rw [ma, if_neg (by omega)]; exact z4, z5⟩
      · by_cases q : p = j
        · by_cases q' : p' = j
          · omega
          · exfalso
            rw [q, s9j, s9 p' q'] at h1
            exact no p' hp' h1.symm
        · by_cases q' : p' = j
          · exfalso
            rw [q', s9j, s9 p q] at h1
            exact no p hp h1
          · rw [s9 p q, s9 p' q'] at h1
            rw [s9 p q] at h2
            exact hHe.2.2 p p' hp hp' h1 h2
theorem first_sim {st m : St} {t k r rp o : Nat} (R : RelF st m t) (hk : k < 32) (hr : r < 5) (hrp : rp < 32) (ho : o < 16) : (tfpC st k r rp o).1 = (firstM m r k rp o).1 ∧ RelF (tfpC st k r rp o).2 (firstM m r k rp o).2 t := by
  obtain ⟨e1, e2⟩ := in_sim (f := 0) R hr hrp ho
  obtain ⟨w1, w2, w3, w4⟩ := recv_let m k r rp o hr ho hk
  obtain ⟨f1, f2⟩ := release_sim e2 hk
  have hH := R.1.2.2.2.1
  have hT := R.1.1
  have hb := hT.2.2
  unfold tfpC firstM
  dsimp only
  rw [w3, ← e1]
  obtain ⟨S, eS⟩ : ∃ z, z = iF (relS (nI k)) 6 0 (comeInC st r rp o 0, 0) := ⟨_, rfl⟩
  rw [← eS] at f1 f2 ⊢
  have F : RelF S.1 (recvC (letGoC m k).1 r rp o 0) t := ⟨RelB_congr w2 f1.1, f1.2⟩
  generalize recvC (letGoC m k).1 r rp o 0 = Y at F
  have ht : Y 0 6 = nI t := F.1.1.2.1
  have hs : S.1 11 0 = nI t := F.1.1.1
  by_cases hc : comeInR st r rp o 0 = -6
  · rw [if_pos hc, if_neg (by rw [hc]; decide)]
    refine ⟨rfl, ?_⟩
    dsimp only
    refine kn_sim F hk (fun K i q1 _ => ?_) (fun j q1 _ => ?_) ⟨0, ?_, by omega, Or.inl ⟨by omega, ?_⟩⟩
    · rw [sU_at, if_neg q1]
    · rw [sU_at, if_neg (fun q => q1 q.2)]
    · rw [sU_at, if_pos ⟨rfl, rfl⟩]; rfl
    · rw [sU_at, if_pos ⟨rfl, rfl⟩]
  · have hw : whyM m r rp o = 0 := by
      by_cases q : whyM m r rp o = 0
      · exact q
      · exfalso
        apply hc
        rw [e1]
        unfold recvR
        rw [if_neg q]
    have hl := why_lent hw
    have hpos : 0 ≤ comeInR st r rp o 0 := by
      unfold comeInR
      have h' : reasonC st r rp o = 0 := (reason_eq R.1 hr hrp ho).trans hw
      rw [if_pos h', comeIn_at st h', if_neg (by omega), if_neg (by omega)]
      rcases hH o ho with ⟨-, z⟩ | ⟨a, b, z1, z2, z3, -⟩
      · exact absurd z ((mLent_ne hH ho).mp hl)
      · rw [z3]
        exact nI_pos' (by omega)
    rw [if_neg hc, if_pos hpos]
    dsimp only
    refine ⟨?_, ?_⟩
    · rw [f2, w4, Nat.add_comm]
    · have hF : ¬ Y 0 (7 + o) = -6 := by
        have hH2 := F.1.2.2.2.1
        have l1 : lentC S.1 o = lentC st o := by
          obtain ⟨a, -⟩ := rel_form (nI k) 6 0 (comeInC st r rp o 0, 0)
          have e9 : comeInC st r rp o 0 1 o = st 1 o := by rw [comeIn_at st ((reason_eq R.1 hr hrp ho).trans hw), if_neg (c := 1 = 2 ∧ o = o) (by omega), if_neg (c := 1 = 3 ∧ o = o) (by omega)]
          have e10 : S.1 1 o = st 1 o := by
            rw [eS, a, if_neg (fun q => by omega)]
            exact e9
          unfold lentC
          rw [e10]
        rw [← lent_ne hH2 ho, l1, lent_eq hH ho]
        exact hl
      have h5 : Y 0 6 + 5 = nI (t + 5) := by rw [ht]; exact nI_add t 5
      rw [h5, hs]
      refine kn_sim F hk (fun K i q1 q2 => ?_) (fun j q1 q2 => ?_) ⟨t + 5, ?_, Nat.le_refl _, Or.inr ⟨by omega, by omega, ?_, o, ho, ?_, ?_, hF⟩⟩
      · rw [sU_at, if_neg q2, sU_at, if_neg q1]
      · rw [sU_at, if_neg (fun q => q2 q.2), sU_at, if_neg (fun q => q1 q.2)]
      · rw [sU_at, if_neg (by omega), sU_at, if_pos ⟨rfl, rfl⟩]
      · rw [sU_at, if_pos ⟨rfl, rfl⟩, Nat.add_sub_cancel]
      · rw [sU_at, if_neg (by omega), sU_at, if_pos ⟨rfl, rfl⟩]
      · rw [sU_at, if_pos ⟨rfl, rfl⟩]
theorem u_part {st m : St} {t : Nat} (R : RelF st m t) (r nm pt rp o : Int32) : (xPart st r nm pt rp o).1 = (mPart m r nm pt rp o).1 ∧ RelF (xPart st r nm pt rp o).2 (mPart m r nm pt rp o).2 t := by
  unfold xPart mPart
  rw [frB_rg r (k := 3) (hi := 3) (by decide) rfl, frB_rg nm (k := 7) (hi := 7) (by decide) rfl, frB_rg pt (k := 7) (hi := 7) (by decide) rfl]
  by_cases g1 : rg r 4 = false ∨ rg nm 8 = false ∨ rg pt 8 = false
  · rw [if_pos g1, if_pos g1]; exact ⟨rfl, R⟩
  · rw [if_neg g1, if_neg g1]
    obtain ⟨a, ha, rfl⟩ := rgN (x := r) (n := 4) (fun z => g1 (Or.inl z)) (by decide)
    obtain ⟨b, hb, rfl⟩ := rgN (x := nm) (n := 8) (fun z => g1 (Or.inr (Or.inl z))) (by decide)
    obtain ⟨c, hc, rfl⟩ := rgN (x := pt) (n := 8) (fun z => g1 (Or.inr (Or.inr z))) (by decide)
    rw [cl_nI (show a < 2 ^ 31 by omega), cl_nI (show b < 2 ^ 31 by omega), cl_nI (show c < 2 ^ 31 by omega), Nat.mul_comm 8 a]
    by_cases g2 : c = 0
    · rw [if_pos g2, if_pos (c := c ≤ 0) (by omega)]
      have e : rgR (nI a) rp = rg rp 32 := by
        unfold rgR
        have h1 : rg (nI a) 5 = true := by
          unfold rg
          rw [nI_toInt (by omega), decide_eq_true (by omega), decide_eq_true (by omega)]
          rfl
        have h2 : ¬ nI a = 4 := fun z => by have := nI_inj (b := 4) (by omega) (by omega) z; omega
        rw [h1, if_neg h2]
        rfl
      rw [e]
      by_cases g3 : rg rp 32 = false
      · rw [if_pos g3, if_pos g3]; exact ⟨rfl, R⟩
      · rw [if_neg g3, if_neg g3]
        by_cases g4 : rg o 16 = false
        · rw [if_pos g4, if_pos g4]; exact ⟨rfl, R⟩
        · rw [if_neg g4, if_neg g4]
          obtain ⟨x, hx, rfl⟩ := rgN g3 (by decide)
          obtain ⟨y, hy, rfl⟩ := rgN g4 (by decide)
          rw [cl_nI (show x < 2 ^ 31 by omega), cl_nI (show y < 2 ^ 31 by omega)]
          exact first_sim R (by omega) (by omega) hx hy
    · rw [if_neg g2, if_neg (c := c ≤ 0) (by omega)]
      unfold topC
      rw [known_eq R.1.1 R.1.2.2.2.2.2.2.2.1 (show a * 8 + b < 32 by omega)]
      by_cases g3 : knownM m (a * 8 + b) = true
      · rw [if_pos g3, if_pos g3]; exact ⟨rfl, R⟩
      · rw [if_neg g3, if_neg g3, R.1.1.1]
        exact hold_sim R (by omega) (by omega) hc
