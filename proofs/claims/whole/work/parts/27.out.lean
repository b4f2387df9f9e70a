theorem use_sim {st st' m m' : St} {t j : Nat} (R : RelB st m t) (hj : j < 16) (hl : ¬ m 0 (7 + j) = -6) (hN : ∀ o, o < 16 → ¬ o = j → lentC st o = true → 0 < leftC st o)
    (hs : ∀ k i, ¬ (k = 2 ∧ i = j) → ¬ (k = 3 ∧ i = j) → ¬ (k = 6 ∧ j * 5 ≤ i ∧ i < j * 5 + 5) → st' k i = st k i)
    (hm : ∀ i, ¬ i = 71 + j → ¬ i = 87 + j → ¬ (103 + 5 * j ≤ i ∧ i < 103 + 5 * j + 5) → m' 0 i = m 0 i)
    (h2 : st' 2 j = m' 0 (71 + j)) (h2' : ∃ z, z < 3 ∧ m' 0 (71 + j) = nI z) (h3 : st' 3 j = nI t) (h3' : m' 0 (87 + j) = nI t) (h6 : ∀ r, r < 5 → st' 6 (j * 5 + r) = m' 0 (103 + 5 * j + r)) : RelF st' m' t := by
  obtain ⟨hT, hR, hBd, hH, hM, hU, hB, hKn, hHe⟩ := R
  have s0 : ∀ k i, ¬ k = 2 → ¬ k = 3 → ¬ k = 6 → st' k i = st k i := fun k i a b c => hs k i (fun q => a q.1) (fun q => b q.1) (fun q => c q.1)
  have m0 : ∀ i, i < 71 ∨ 183 ≤ i → m' 0 i = m 0 i := fun i h => hm i (by omega) (by omega) (by omega)
  have hB2 : rBind st' m' t := fun o ho => by
    by_cases hoj : o = j
    · subst hoj
      obtain ⟨c1, c2, c3, c4, c5, c6, c7⟩ := hBd o ho
      rw [s0 4 o (by omega) (by omega) (by omega), s0 5 o (by omega) (by omega) (by omega), m0 (39 + o) (by omega), m0 (55 + o) (by omega)]
      exact ⟨h2, h2', by rw [h3, h3'], ⟨t, Nat.le_refl _, h3'⟩, c5, c6, h6⟩
    · obtain ⟨c1, c2, c3, c4, c5, c6, c7⟩ := hBd o ho
      rw [s0 4 o (by omega) (by omega) (by omega), s0 5 o (by omega) (by omega) (by omega), m0 (39 + o) (by omega), m0 (55 + o) (by omega), hs 2 o (by omega) (by omega) (by omega), hs 3 o (by omega) (by omega) (by omega), hm (71 + o) (by omega) (by omega) (by omega), hm (87 + o) (by omega) (by omega) (by omega)]
      exact ⟨c1, c2, c3, c4, c5, c6, fun r hr => by rw [hs 6 (o * 5 + r) (by omega) (by omega) (by omega), hm (103 + 5 * o + r) (by omega) (by omega) (by omega)]; exact c7 r hr⟩
  have hT2 : rTime st' m' t := ⟨by rw [s0 11 0 (by omega) (by omega) (by omega)]; exact hT.1, by rw [m0 6 (by omega)]; exact hT.2.1, hT.2.2⟩
  have hR2 : rRule st' m' := ⟨fun i hi => by rw [s0 0 i (by omega) (by omega) (by omega), m0 i (by omega)]; exact hR.1 i hi, by rw [m0 0 (by omega)]; exact hR.2.1, fun i a b => by rw [m0 i (by omega)]; exact hR.2.2 i a b⟩
  refine ⟨⟨hT2, hR2, hB2, fun o ho => ?_, fun o ho => ?_, fun o o' ho ho' => ?_, fun o o' ho ho' => ?_, fun k hk => ?_, fun v hv => ?_, fun p hp => ?_, fun p p' hp hp' => ?_⟩, fun o ho hlo => ?_⟩
  · rw [s0 1 o (by omega) (by omega) (by omega), m0 (7 + o) (by omega), m0 (23 + o) (by omega)]; exact hH o ho
  · rw [m0 (7 + o) (by omega), m0 0 (by omega), m0 (39 + o) (by omega), m0 (55 + o) (by omega)]; exact hM o ho
  · rw [s0 1 o (by omega) (by omega) (by omega), s0 1 o' (by omega) (by omega) (by omega), m0 (7 + o) (by omega), m0 (39 + o) (by omega), m0 (39 + o') (by omega), m0 (55 + o) (by omega), m0 (55 + o') (by omega)]
    exact hU o o' ho ho'
  · rw [m0 (7 + o) (by omega), m0 (7 + o') (by omega)]
    exact hB o o' ho ho'
  · obtain ⟨y, y1, y2, y3⟩ := hKn k hk
    refine ⟨y, by rw [m0 (183 + k) (by omega)]; exact y1, y2, ?_⟩
    rw [s0 7 k (by omega) (by omega) (by omega), s0 8 k (by omega) (by omega) (by omega), m0 (215 + k) (by omega)]
    rcases y3 with w | ⟨w1, w2, w3, o, ho, w4, w5, w6⟩
    · exact Or.inl w
    · exact Or.inr ⟨w1, w2, w3, o, ho, w4, w5, by rw [m0 (7 + o) (by omega)]; exact w6⟩
  · obtain ⟨y, y1, y2, y3⟩ := hHe.1 v hv
    refine ⟨y, by rw [m0 (247 + v) (by omega)]; exact y1, y2, fun q => ?_⟩
    obtain ⟨p, p1, p2⟩ := y3 q
    exact ⟨p, p1, by rw [s0 9 p (by omega) (by omega) (by omega)]; exact p2⟩
  · rw [s0 9 p (by omega) (by omega) (by omega), s0 10 p (by omega) (by omega) (by omega)]
    rcases hHe.2.1 p hp with w | ⟨v, y, z1, z2, z3, z4, z5⟩
    · exact Or.inl w
    · exact Or.inr ⟨v, y, z1, z2, z3, by rw [m0 (247 + v) (by omega)]; exact z4, z5⟩
  · rw [s0 9 p (by omega) (by omega) (by omega), s0 9 p' (by omega) (by omega) (by omega)]
    exact hHe.2.2 p p' hp hp'
  · by_cases hoj : o = j
    · subst hoj
      obtain ⟨u, z, q1, q2, q3, q4, q5, q6, q7⟩ := left_form hT2 hR2 hB2 ho
      rw [h3'] at q4
      have := nI_inj (by have := hT.2.2; omega) (by have := hT.2.2; omega) q4
      exact q7.mpr (by omega)
    · have e1 : lentC st' o = lentC st o := by unfold lentC; rw [s0 1 o (by omega) (by omega) (by omega)]
      have e2 : leftC st' o = leftC st o := by
        unfold leftC lifeC
        rw [hs 3 o (by omega) (by omega) (by omega), hs 2 o (by omega) (by omega) (by omega), s0 0 3 (by omega) (by omega) (by omega), s0 0 4 (by omega) (by omega) (by omega), s0 0 5 (by omega) (by omega) (by omega), s0 11 0 (by omega) (by omega) (by omega)]
      rw [e2]
      exact hN o ho hoj (by rw [← e1]; exact hlo)
theorem markC_at (st : St) (o r rp : Nat) (k i : Nat) : markC st o r rp k i = if k = 6 ∧ i = o * 5 + r then st 6 (o * 5 + r) ||| 1 <<< (nI rp &&& 31) else st k i := by unfold markC; rw [sU_at]
theorem markM_at (m : St) (o r rp : Nat) (k i : Nat) : markM m o r rp k i = if k = 0 ∧ i = 103 + 5 * o + r then m 0 (103 + 5 * o + r) ||| 1 <<< (nI rp &&& 31) else m k i := by unfold markM; rw [sU_at]
theorem flagO_at (st : St) (j f : Nat) (k i : Nat) : flagO st j f k i = if k = 2 ∧ i = j then (if f = 2 then 2 else if f = 1 ∧ st 2 j = 2 then 0 else st 2 j) else st k i := by
  unfold flagO
  by_cases q : k = 2 ∧ i = j
  · obtain ⟨rfl, rfl⟩ := q
    by_cases c2 : f = 2 <;> by_cases c1 : f = 1 <;> by_cases c3 : st 2 i = 2 <;> simp [c2, c1, c3, sU_at]
  · by_cases c2 : f = 2 <;> by_cases c1 : f = 1 <;> by_cases c3 : st 2 j = 2 <;> simp [c2, c1, c3, sU_at, q]
theorem flagOM_at (m : St) (j f : Nat) (k i : Nat) : flagOM m j f k i = if k = 0 ∧ i = 71 + j then (if f = 2 then 2 else if f = 1 ∧ m 0 (71 + j) = 2 then 0 else m 0 (71 + j)) else m k i := by
  unfold flagOM
  by_cases q : k = 0 ∧ i = 71 + j
  · obtain ⟨rfl, rfl⟩ := q
    by_cases c2 : f = 2 <;> by_cases c1 : f = 1 <;> by_cases c3 : m 0 (71 + j) = 2 <;> simp [c2, c1, c3, sU_at]
  · by_cases c2 : f = 2 <;> by_cases c1 : f = 1 <;> by_cases c3 : m 0 (71 + j) = 2 <;> simp [c2, c1, c3, sU_at, q]
theorem fin_sim {st m : St} {t j r rp f : Nat} (R : RelB st m t) (hj : j < 16) (hl : ¬ m 0 (7 + j) = -6) (hN : ∀ o, o < 16 → ¬ o = j → lentC st o = true → 0 < leftC st o) (hr : r < 5) : RelF (goFin st j r rp f) (sendFin m j r rp f) t := by
  have hT := R.1
  obtain ⟨c1, ⟨z, hz, ez⟩, c3, c4, c5, c6, c7⟩ := R.2.2.1 j hj
  have a : ∀ k i, goFin st j r rp f k i = if k = 2 ∧ i = j then (if f = 2 then 2 else if f = 1 ∧ st 2 j = 2 then 0 else st 2 j) else if k = 3 ∧ i = j then st 11 0 else if k = 6 ∧ i = j * 5 + r then st 6 (j * 5 + r) ||| 1 <<< (nI rp &&& 31) else st k i := by
    intro k i
    unfold goFin
    have e11 : markC st j r rp 11 0 = st 11 0 := by rw [markC_at, if_neg (by omega)]
    have e2 : sU (markC st j r rp) 3 j (markC st j r rp 11 0) 2 j = st 2 j := by rw [sU_at, if_neg (by omega), markC_at, if_neg (by omega)]
    rw [flagO_at, e2, sU_at, e11, markC_at]
  have b : ∀ i, sendFin m j r rp f 0 i = if i = 71 + j then (if f = 2 then 2 else if f = 1 ∧ m 0 (71 + j) = 2 then 0 else m 0 (71 + j)) else if i = 87 + j then m 0 6 else if i = 103 + 5 * j + r then m 0 (103 + 5 * j + r) ||| 1 <<< (nI rp &&& 31) else m 0 i := by
    intro i
    unfold sendFin
    have e11 : markM m j r rp 0 6 = m 0 6 := by rw [markM_at, if_neg (by omega)]
    have e2 : sU (markM m j r rp) 0 (87 + j) (markM m j r rp 0 6) 0 (71 + j) = m 0 (71 + j) := by rw [sU_at, if_neg (by omega), markM_at, if_neg (by omega)]
    rw [flagOM_at, e2, sU_at, e11, markM_at]
    simp only [true_and]
  have a2 : goFin st j r rp f 2 j = (if f = 2 then 2 else if f = 1 ∧ st 2 j = 2 then 0 else st 2 j) := by rw [a, if_pos (c := 2 = 2 ∧ j = j) ⟨rfl, rfl⟩]
  have b71 : sendFin m j r rp f 0 (71 + j) = (if f = 2 then 2 else if f = 1 ∧ m 0 (71 + j) = 2 then 0 else m 0 (71 + j)) := by rw [b, if_pos (c := 71 + j = 71 + j) rfl]
  refine use_sim R hj hl hN (fun k i q1 q2 q3 => ?_) (fun i q1 q2 q3 => ?_) ?_ ?_ ?_ ?_ (fun q hq => ?_)
  · rw [a, if_neg q1, if_neg q2, if_neg (fun w => q3 ⟨w.1, by omega, by omega⟩)]
  · rw [b, if_neg q1, if_neg q2, if_neg (fun w => q3 ⟨by omega, by omega⟩)]
  · rw [a2, b71, c1]
  · rw [b71]
    by_cases f2 : f = 2
    · rw [if_pos f2]
      exact ⟨2, by omega, rfl⟩
    · rw [if_neg f2]
      by_cases f1 : f = 1 ∧ m 0 (71 + j) = 2
      · rw [if_pos f1]
        exact ⟨0, by omega, rfl⟩
      · rw [if_neg f1]
        exact ⟨z, hz, ez⟩
  · rw [a, if_neg (c := 3 = 2 ∧ j = j) (by omega), if_pos ⟨rfl, rfl⟩]
    exact hT.1
  · rw [b, if_neg (c := 87 + j = 71 + j) (by omega), if_pos rfl]
    exact hT.2.1
  · have eL : goFin st j r rp f 6 (j * 5 + q) = if q = r then st 6 (j * 5 + r) ||| 1 <<< (nI rp &&& 31) else st 6 (j * 5 + q) := by
      rw [a, if_neg (c := 6 = 2 ∧ j * 5 + q = j) (by omega), if_neg (c := 6 = 3 ∧ j * 5 + q = j) (by omega)]
      by_cases hqr : q = r
      · rw [if_pos ⟨rfl, by omega⟩, if_pos hqr]
      · rw [if_neg (by omega), if_neg hqr]
    have eR : sendFin m j r rp f 0 (103 + 5 * j + q) = if q = r then m 0 (103 + 5 * j + r) ||| 1 <<< (nI rp &&& 31) else m 0 (103 + 5 * j + q) := by
      rw [b, if_neg (c := 103 + 5 * j + q = 71 + j) (by omega), if_neg (c := 103 + 5 * j + q = 87 + j) (by omega)]
      by_cases hqr : q = r
      · rw [if_pos (by omega), if_pos hqr]
      · rw [if_neg (by omega), if_neg hqr]
    rw [eL, eR, c7 q hq, c7 r hr]
theorem flagI_at (st : St) (j f : Nat) (k i : Nat) : flagI st j f k i = if k = 2 ∧ i = j then (if f = 2 then 2 else if st 2 j = 0 then 1 else st 2 j) else st k i := by
  unfold flagI
  by_cases c2 : f = 2
  · rw [if_pos c2, if_pos c2, sU_at]
  · rw [if_neg c2, if_neg c2]
    by_cases c3 : st 2 j = 0
    · rw [if_pos c3, if_pos c3, sU_at]
    · rw [if_neg c3, if_neg c3]
      by_cases q : k = 2 ∧ i = j
      · rw [if_pos q, q.1, q.2]
      · rw [if_neg q]
theorem flagIM_at (m : St) (j f : Nat) (k i : Nat) : flagIM m j f k i = if k = 0 ∧ i = 71 + j then (if f = 2 then 2 else if m 0 (71 + j) = 0 then 1 else m 0 (71 + j)) else m k i := by
  unfold flagIM
  by_cases c2 : f = 2
  · rw [if_pos c2, if_pos c2, sU_at]
  · rw [if_neg c2, if_neg c2]
    by_cases c3 : m 0 (71 + j) = 0
    · rw [if_pos c3, if_pos c3, sU_at]
    · rw [if_neg c3, if_neg c3]
      by_cases q : k = 0 ∧ i = 71 + j
      · rw [if_pos q, q.1, q.2]
      · rw [if_neg q]
theorem why_lent {m : St} {r rp o : Nat} (h : whyM m r rp o = 0) : mLent m o = true := by
  unfold whyM at h
  cases hl : mLent m o with
  | true => rfl
  | false => rw [if_pos hl] at h; omega
theorem comeIn_at (st : St) {r rp o f : Nat} (h : reasonC st r rp o = 0) (k i : Nat) : comeInC st r rp o f k i = if k = 2 ∧ i = o then (if f = 2 then 2 else if st 2 o = 0 then 1 else st 2 o) else if k = 3 ∧ i = o then st 11 0 else st k i := by
  unfold comeInC
  rw [if_pos h, flagI_at, sU_at, sU_at, if_neg (c := 2 = 3 ∧ o = o) (by omega)]
theorem recv_at (m : St) {r rp o f : Nat} (h : whyM m r rp o = 0) (k i : Nat) : recvC m r rp o f k i = if k = 0 ∧ i = 71 + o then (if f = 2 then 2 else if m 0 (71 + o) = 0 then 1 else m 0 (71 + o)) else if k = 0 ∧ i = 87 + o then m 0 6 else m k i := by
  unfold recvC
  rw [if_pos h, flagIM_at, sU_at, sU_at, if_neg (c := 0 = 0 ∧ 71 + o = 87 + o) (by omega)]
theorem in_sim {st m : St} {t r rp o f : Nat} (R : RelF st m t) (hr : r < 5) (hrp : rp < 32) (ho : o < 16) : comeInR st r rp o f = recvR m r rp o f ∧ RelF (comeInC st r rp o f) (recvC m r rp o f) t := by
  have hre := reason_eq R.1 hr hrp ho
  by_cases h : whyM m r rp o = 0
  · have h' : reasonC st r rp o = 0 := hre.trans h
    have hl := why_lent h
    have hH := R.1.2.2.2.1
    have hT := R.1.1
    obtain ⟨c1, ⟨z, hz, ez⟩, c3, c4, c5, c6, c7⟩ := R.1.2.2.1 o ho
    refine ⟨?_, use_sim R.1 ho ((mLent_ne hH ho).mp hl) (fun o' ho' _ hl' => R.2 o' ho' hl') (fun k i q1 q2 q3 => ?_) (fun i q1 q2 q3 => ?_) ?_ ?_ ?_ ?_ (fun q hq => ?_)⟩
    · unfold comeInR recvR
      rw [if_pos h', if_pos h, comeIn_at st h', if_neg (by omega), if_neg (by omega), inside_eq hH ho hl]
      unfold insideM
      rw [recv_at m h, recv_at m h, if_neg (by omega), if_neg (by omega), if_neg (by omega), if_neg (by omega)]
    · rw [comeIn_at st h', if_neg q1, if_neg q2]
    · rw [recv_at m h, if_neg (fun w => q1 w.2), if_neg (fun w => q2 w.2)]
    · rw [comeIn_at st h', recv_at m h, if_pos (c := 2 = 2 ∧ o = o) ⟨rfl, rfl⟩, if_pos (c := 0 = 0 ∧ 71 + o = 71 + o) ⟨rfl, rfl⟩, c1]
    · rw [recv_at m h, if_pos ⟨rfl, rfl⟩]
      by_cases f2 : f = 2
      · rw [if_pos f2]
        exact ⟨2, by omega, rfl⟩
      · rw [if_neg f2]
        by_cases f1 : m 0 (71 + o) = 0
        · rw [if_pos f1]
          exact ⟨1, by omega, rfl⟩
        · rw [if_neg f1]
          exact ⟨z, hz, ez⟩
    · rw [comeIn_at st h', if_neg (by omega), if_pos ⟨rfl, rfl⟩]
      exact hT.1
    · rw [recv_at m h, if_neg (by omega), if_pos ⟨rfl, rfl⟩]
      exact hT.2.1
    · rw [comeIn_at st h', recv_at m h, if_neg (by omega), if_neg (by omega), if_neg (by omega), if_neg (by omega)]
      exact c7 q hq
  · have h' : ¬ reasonC st r rp o = 0 := by rw [hre]; exact h
    unfold comeInR recvR comeInC recvC
    rw [if_neg h', if_neg h, if_neg h', if_neg h]
    exact ⟨rfl, R⟩
theorem zero5_at (o : Nat) : ∀ (n i : Nat) (st : St) (k j : Nat), iF (zero5 o) n i st k j = if k = 6 ∧ o * 5 + i ≤ j ∧ j < o * 5 + i + n then 0 else st k j
  | 0, i, st, k, j => by rw [if_neg (by omega)]; rfl
  | n + 1, i, st, k, j => by
    rw [iF_s, zero5_at o n (i + 1)]
    unfold zero5
    rw [sU_at]
    by_cases h : k = 6 ∧ o * 5 + i ≤ j ∧ j < o * 5 + i + (n + 1)
    · rw [if_pos h]
      by_cases h2 : j = o * 5 + i
      · rw [if_neg (by omega), if_pos ⟨h.1, h2⟩]
      · rw [if_pos ⟨h.1, by omega, by omega⟩]
    · rw [if_neg h, if_neg (by omega), if_neg (by omega)]
theorem zero5M_at (o : Nat) : ∀ (n i : Nat) (m : St) (k j : Nat), iF (zero5M o) n i m k j = if k = 0 ∧ 103 + 5 * o + i ≤ j ∧ j < 103 + 5 * o + i + n then 0 else m k j
  | 0, i, st, k, j => by rw [if_neg (by omega)]; rfl
  | n + 1, i, m, k, j => by
    rw [iF_s, zero5M_at o n (i + 1)]
    unfold zero5M
    rw [sU_at]
    by_cases h : k = 0 ∧ 103 + 5 * o + i ≤ j ∧ j < 103 + 5 * o + i + (n + 1)
    · rw [if_pos h]
      by_cases h2 : j = 103 + 5 * o + i
      · rw [if_neg (by omega), if_pos ⟨h.1, h2⟩]
      · rw [if_pos ⟨h.1, by omega, by omega⟩]
    · rw [if_neg h, if_neg (by omega), if_neg (by omega)]
theorem lend_at (st : St) (o : Nat) (ip r rp : Int32) (k j : Nat) : lendC st o ip r rp k j = if k = 6 ∧ o * 5 ≤ j ∧ j < o * 5 + 5 then 0 else if k = 5 ∧ j = o then rp else if k = 4 ∧ j = o then r else if k = 2 ∧ j = o then 0 else if k = 1 ∧ j = o then ip else st k j := by
  unfold lendC
  rw [zero5_at, sU_at, sU_at, sU_at, sU_at]
  rfl
theorem make_at {m : St} {o : Nat} (ho : o < 16) (h pt r rp : Int32) (j : Nat) : makeM m o h pt r rp 0 j = if 103 + 5 * o ≤ j ∧ j < 103 + 5 * o + 5 then 0 else if j = 71 + o then 0 else if j = 55 + o then (if m 0 0 ≤ 1 then -6 else rp) else if j = 39 + o then (if m 0 0 ≤ 0 then -6 else r) else if j = 23 + o then pt else if j = 7 + o then h else m 0 j := by
  have e0 : make1 m o h pt 0 0 = m 0 0 := by unfold make1; rw [sU_at, if_neg (by omega), sU_at, if_neg (by omega)]
  have e1 : make2 (make1 m o h pt) o r 0 0 = m 0 0 := by unfold make2; rw [sU_at, if_neg (by omega), e0]
  unfold makeM
  rw [zero5M_at, sU_at]
  unfold make3
  rw [e1, sU_at]
  unfold make2
  rw [e0, sU_at]
  unfold make1
  rw [sU_at, sU_at]
  simp only [true_and, Nat.add_zero]
theorem make_sim {st m : St} {t o h p r rp : Nat} (R : RelB st m t) (ho : o < 16) (hl : m 0 (7 + o) = -6) (hh : h < 4) (hp : p < 32) (hr : r < 5) (hrp : rp < 32)
    (hblk : ∀ o', o' < 16 → o' / 4 = o / 4 → ¬ m 0 (7 + o') = -6 → m 0 (7 + o') = nI h) (hno : ∀ o', o' < 16 → bindP m (nI h) (nI p) (nI r) (nI rp) o' = false) :
    RelB (lendC st o (nI (h * 32 + p)) (if st 0 0 < 1 then -6 else nI r) (if st 0 0 < 2 then -6 else nI rp)) (makeM m o (nI h) (nI p) (nI r) (nI rp)) t ∧ makeM m o (nI h) (nI p) (nI r) (nI rp) 0 (7 + o) = nI h := by
  have R0 := R
  obtain ⟨hT, hR, hBd, hH, hM, hU, hB, hKn, hHe⟩ := R
  obtain ⟨R1, eR1, eR1'⟩ : ∃ z, z = (if st 0 0 < 1 then -6 else nI r) ∧ z = (if m 0 0 ≤ 0 then -6 else nI r) := by
    refine ⟨_, rfl, ?_⟩
    rw [hR.1 0 (by omega)]
    rcases map_cases hR with z | z | z <;> rw [z] <;> rfl
  obtain ⟨R2, eR2, eR2'⟩ : ∃ z, z = (if st 0 0 < 2 then -6 else nI rp) ∧ z = (if m 0 0 ≤ 1 then -6 else nI rp) := by
    refine ⟨_, rfl, ?_⟩
    rw [hR.1 0 (by omega)]
    rcases map_cases hR with z | z | z <;> rw [z] <;> rfl
  rw [← eR1, ← eR2]
  have a : ∀ k j, lendC st o (nI (h * 32 + p)) R1 R2 k j = if k = 6 ∧ o * 5 ≤ j ∧ j < o * 5 + 5 then 0 else if k = 5 ∧ j = o then R2 else if k = 4 ∧ j = o then R1 else if k = 2 ∧ j = o then 0 else if k = 1 ∧ j = o then nI (h * 32 + p) else st k j := fun k j => lend_at st o _ _ _ k j
  have b : ∀ j, makeM m o (nI h) (nI p) (nI r) (nI rp) 0 j = if 103 + 5 * o ≤ j ∧ j < 103 + 5 * o + 5 then 0 else if j = 71 + o then 0 else if j = 55 + o then R2 else if j = 39 + o then R1 else if j = 23 + o then nI p else if j = 7 + o then nI h else m 0 j := fun j => by rw [make_at ho, ← eR1', ← eR2']
  generalize lendC st o (nI (h * 32 + p)) R1 R2 = st' at a
  generalize makeM m o (nI h) (nI p) (nI r) (nI rp) = m' at b
  have s0 : ∀ k i, ¬ k = 1 → ¬ k = 2 → ¬ k = 4 → ¬ k = 5 → ¬ k = 6 → st' k i = st k i := fun k i q1 q2 q4 q5 q6 => by
    rw [a, if_neg (fun q => q6 q.1), if_neg (fun q => q5 q.1), if_neg (fun q => q4 q.1), if_neg (fun q => q2 q.1), if_neg (fun q => q1 q.1)]
  have s1 : ∀ k i, k < 6 → ¬ i = o → st' k i = st k i := fun k i q1 q2 => by
    rw [a, if_neg (by omega), if_neg (fun q => q2 q.2), if_neg (fun q => q2 q.2), if_neg (fun q => q2 q.2), if_neg (fun q => q2 q.2)]
  have m0 : ∀ i, i < 7 ∨ 87 ≤ i ∧ i < 103 ∨ 183 ≤ i → m' 0 i = m 0 i := fun i q => by
    rw [b, if_neg (by omega), if_neg (by omega), if_neg (by omega), if_neg (by omega), if_neg (by omega), if_neg (by omega)]
  have m1 : ∀ o', ¬ o' = o → o' < 16 → m' 0 (7 + o') = m 0 (7 + o') ∧ m' 0 (23 + o') = m 0 (23 + o') ∧ m' 0 (39 + o') = m 0 (39 + o') ∧ m' 0 (55 + o') = m 0 (55 + o') ∧ m' 0 (71 + o') = m 0 (71 + o') := fun o' q1 q2 => by
    refine ⟨?_, ?_, ?_, ?_, ?_⟩ <;> (rw [b, if_neg (by omega), if_neg (by omega), if_neg (by omega), if_neg (by omega), if_neg (by omega), if_neg (by omega)])
  have mo7 : m' 0 (7 + o) = nI h := by rw [b, if_neg (by omega), if_neg (by omega), if_neg (by omega), if_neg (by omega), if_neg (by omega), if_pos rfl]
  have mo23 : m' 0 (23 + o) = nI p := by rw [b, if_neg (by omega), if_neg (by omega), if_neg (by omega), if_neg (by omega), if_pos rfl]
  have mo39 : m' 0 (39 + o) = R1 := by rw [b, if_neg (by omega), if_neg (by omega), if_neg (by omega), if_pos rfl]
  have mo55 : m' 0 (55 + o) = R2 := by rw [b, if_neg (by omega), if_neg (by omega), if_pos rfl]
  have mo71 : m' 0 (71 + o) = 0 := by rw [b, if_neg (by omega), if_pos rfl]
  have so1 : st' 1 o = nI (h * 32 + p) := by rw [a, if_neg (by omega), if_neg (by omega), if_neg (by omega), if_neg (by omega), if_pos ⟨rfl, rfl⟩]
  have so2 : st' 2 o = 0 := by rw [a, if_neg (by omega), if_neg (by omega), if_neg (by omega), if_pos ⟨rfl, rfl⟩]
  have so4 : st' 4 o = R1 := by rw [a, if_neg (by omega), if_neg (by omega), if_pos ⟨rfl, rfl⟩]
  have so5 : st' 5 o = R2 := by rw [a, if_neg (by omega), if_pos ⟨rfl, rfl⟩]
  -- no other binding is for it
  have uni : ∀ o', o' < 16 → ¬ o' = o → st 1 o' = nI (h * 32 + p) → m 0 (39 + o') = R1 → m 0 (55 + o') = R2 → False := by
    intro o' q1 q2 q3 q4 q5
    have := hno o' q1
    unfold bindP at this
    rcases hH o' q1 with ⟨w, -⟩ | ⟨h', p', w1, w2, w3, w4, w5⟩
    · rw [q3] at w
      exact absurd w (nI_m6 (by omega))
    · rw [q3] at w3
      have w6 := nI_inj (by omega) (by omega) w3
      have e1 : h' = h := by omega
      have e2 : p' = p := by omega
      rw [w4, w5, e1, e2, q4, q5] at this
      rcases map_cases hR with z | z | z
      · rw [z] at this
        simp at this
      · rw [z] at this eR1'
        rw [eR1', if_neg (by decide)] at this
        simp at this
      · rw [z] at this eR1' eR2'
        rw [eR1', if_neg (by decide), eR2', if_neg (by decide)] at this
        simp at this
  refine ⟨⟨⟨?_, ?_, hT.2.2⟩, ⟨fun i hi => ?_, ?_, fun i i1 i2 => ?_⟩, fun o' ho' => ?_, fun o' ho' => ?_, fun o' ho' => ?_, fun o1 o2 ho1 ho2 h1 h2 h3 h4 => ?_, fun o1 o2 ho1 ho2 h1 h2 h3 => ?_, fun k hk => ?_, fun v hv => ?_, fun q hq => ?_, fun q q' hq hq' => ?_⟩, mo7⟩
  · rw [s0 11 0 (by omega) (by omega) (by omega) (by omega) (by omega)]; exact hT.1
  · rw [m0 6 (by omega)]; exact hT.2.1
  · rw [s0 0 i (by omega) (by omega) (by omega) (by omega) (by omega), m0 i (by omega)]; exact hR.1 i hi
  · rw [m0 0 (by omega)]; exact hR.2.1
  · rw [m0 i (by omega)]; exact hR.2.2 i i1 i2
  · obtain ⟨c1, c2, c3, c4, c5, c6, c7⟩ := hBd o' ho'
    by_cases q : o' = o
    · subst q
      rw [so2, so4, so5, mo39, mo55, mo71, m0 (87 + o') (by omega), s0 3 o' (by omega) (by omega) (by omega) (by omega) (by omega)]
      exact ⟨rfl, ⟨0, by omega, rfl⟩, c3, c4, rfl, rfl, fun r' hr' => by rw [a, if_pos ⟨rfl, by omega, by omega⟩, b, if_pos ⟨by omega, by omega⟩]⟩
    · obtain ⟨n1, n2, n3, n4, n5⟩ := m1 o' q ho'
      rw [n3, n4, n5, m0 (87 + o') (by omega), s1 2 o' (by omega) q, s1 3 o' (by omega) q, s1 4 o' (by omega) q, s1 5 o' (by omega) q]
      exact ⟨c1, c2, c3, c4, c5, c6, fun r' hr' => by
        rw [a, if_neg (by omega), if_neg (by omega), if_neg (by omega), if_neg (by omega), if_neg (by omega), b, if_neg (by omega), if_neg (by omega), if_neg (by omega), if_neg (by omega), if_neg (by omega), if_neg (by omega)]
        exact c7 r' hr'⟩
  · by_cases q : o' = o
    · subst q
      exact Or.inr ⟨h, p, hh, hp, so1, mo7, mo23⟩
    · obtain ⟨n1, n2, n3, n4, n5⟩ := m1 o' q ho'
      rw [n1, n2, s1 1 o' (by omega) q]
      exact hH o' ho'
  · intro hne
    rw [m0 0 (by omega)]
    by_cases q : o' = o
    · subst q
      rw [mo39, mo55]
      refine ⟨fun z => ?_, fun z => ?_, fun z => ?_⟩
      · rw [z] at eR1' eR2'
        exact ⟨eR1', eR2'⟩
      · rw [z] at eR1' eR2'
        exact ⟨⟨r, hr, eR1'⟩, eR2'⟩
      · rw [z] at eR1' eR2'
        exact ⟨⟨r, hr, eR1'⟩, rp, hrp, eR2'⟩
    · obtain ⟨n1, n2, n3, n4, n5⟩ := m1 o' q ho'
      rw [n1] at hne
      rw [n3, n4]
      exact hM o' ho' hne
  · by_cases q1 : o1 = o
    · by_cases q2 : o2 = o
      · omega
      · exfalso
        subst q1
        obtain ⟨n1, n2, n3, n4, n5⟩ := m1 o2 q2 ho2
        rw [so1, s1 1 o2 (by omega) q2] at h2
        rw [mo39, n3] at h3
        rw [mo55, n4] at h4
        exact uni o2 ho2 q2 h2.symm h3.symm h4.symm
    · obtain ⟨n1, n2, n3, n4, n5⟩ := m1 o1 q1 ho1
      by_cases q2 : o2 = o
      · exfalso
        subst q2
        rw [so1, s1 1 o1 (by omega) q1] at h2
        rw [mo39, n3] at h3
        rw [mo55, n4] at h4
        exact uni o1 ho1 q1 h2 h3 h4
      · obtain ⟨k1, k2, k3, k4, k5⟩ := m1 o2 q2 ho2
        rw [n1] at h1
        rw [s1 1 o1 (by omega) q1, s1 1 o2 (by omega) q2] at h2
        rw [n3, k3] at h3
        rw [n4, k4] at h4
        exact hU o1 o2 ho1 ho2 h1 h2 h3 h4
  · by_cases q1 : o1 = o
    · by_cases q2 : o2 = o
      · rw [q1, q2]
      · obtain ⟨k1, k2, k3, k4, k5⟩ := m1 o2 q2 ho2
        rw [k1] at h3 ⊢
        rw [q1, mo7]
        exact (hblk o2 ho2 (by rw [← q1]; exact h1.symm) h3).symm
    · obtain ⟨n1, n2, n3, n4, n5⟩ := m1 o1 q1 ho1
      rw [n1] at h2 ⊢
      by_cases q2 : o2 = o
      · rw [q2, mo7]
        exact hblk o1 ho1 (by rw [← q2]; exact h1) h2
      · obtain ⟨k1, k2, k3, k4, k5⟩ := m1 o2 q2 ho2
        rw [k1] at h3 ⊢
        exact hB o1 o2 ho1 ho2 h1 h2 h3
  · obtain ⟨y, y1, y2, y3⟩ := hKn k hk
    refine ⟨y, by rw [m0 (183 + k) (by omega)]; exact y1, y2, ?_⟩
    rw [s0 7 k (by omega) (by omega) (by omega) (by omega) (by omega), s0 8 k (by omega) (by omega) (by omega) (by omega) (by omega), m0 (215 + k) (by omega)]
    rcases y3 with w | ⟨w1, w2, w3, o', ho', w4, w5, w6⟩
    · exact Or.inl w
    · refine Or.inr ⟨w1, w2, w3, o', ho', w4, w5, ?_⟩
      by_cases q : o' = o
      · rw [q, mo7]
        exact nI_m6 (by omega)
      · rw [(m1 o' q ho').1]
        exact w6
  · obtain ⟨y, y1, y2, y3⟩ := hHe.1 v hv
    refine ⟨y, by rw [m0 (247 + v) (by omega)]; exact y1, y2, fun q => ?_⟩
    obtain ⟨q, p1, p2⟩ := y3 q
    exact ⟨q, p1, by rw [s0 9 q (by omega) (by omega) (by omega) (by omega) (by omega)]; exact p2⟩
  · rw [s0 9 q (by omega) (by omega) (by omega) (by omega) (by omega), s0 10 q (by omega) (by omega) (by omega) (by omega) (by omega)]
    rcases hHe.2.1 q hq with w | ⟨v, y, z1, z2, z3, z4, z5⟩
    · exact Or.inl w
    · exact Or.inr ⟨v, y, z1, z2, z3, by rw [m0 (247 + v) (by omega)]; exact z4, z5⟩
  · rw [s0 9 q (by omega) (by omega) (by omega) (by omega) (by omega), s0 9 q' (by omega) (by omega) (by omega) (by omega) (by omega)]
    exact hHe.2.2 q q' hq hq'
theorem chosen_ok {st m : St} (hH : rHost st m) (hB : rBlock m) {h : Int32} {port o : Nat} (hp : port < 32) (q : chosenM m h port = some o) : mLent m o = false ∧ (blockM m (o / 4) = h ∨ blockM m (o / 4) = -6) := by
  have lst : ∀ h', leastM m h' port = some o → mLent m o = false ∧ blockM m (o / 4) = h' := by
    intro h' z
    have := (fF_lt z).2.2
    unfold leastP fitM at this
    simp only [Bool.and_eq_true, decide_eq_true_eq, Bool.not_eq_true'] at this
    exact ⟨this.2.1, this.1⟩
  unfold chosenM at q
  split at q
  · rename_i hc
    have e := Option.some.inj q
    subst e
    unfold fitM at hc
    simp only [Bool.and_eq_true, decide_eq_true_eq, Bool.not_eq_true'] at hc
    exact ⟨hc.2.1, Or.inl hc.1⟩
  · split at q
    · rename_i o' hs
      have e := Option.some.inj q
      subst e
      obtain ⟨a, b⟩ := lst h hs
      exact ⟨a, Or.inl b⟩
    · split at q
      · rename_i hc
        have e := Option.some.inj q
        subst e
        exact ⟨block_none hH hB (by omega) hc, Or.inr hc⟩
      · obtain ⟨a, b⟩ := lst (-6) q
        exact ⟨a, Or.inr b⟩
theorem out_sim {st m : St} {t h p r rp f : Nat} (R : RelF st m t) (hh : h < 4) (hp : p < 32) (hr : r < 5) (hrp : rp < 32) : goOutO st h p r rp = sendO m h p r rp ∧ RelF (goOutC st h p r rp f) (sendC m h p r rp f) t := by
  have hH := R.1.2.2.2.1
  have hB := R.1.2.2.2.2.2.2.1
  have hR := R.1.2.1
  have se := seek_eq R.1 hh hp hr hrp
  have ce := choose_eq hH hB hR (nI h) hp
  unfold goOutO sendO goOutC sendC
  rw [se, ce]
  cases hb : bindO m (nI h) (nI p) (nI r) (nI rp) with
  | some j =>
    refine ⟨rfl, ?_⟩
    dsimp only
    have hj := bindO_lt hb
    have hl : ¬ m 0 (7 + j) = -6 := by
      rcases lF_lt hb with q | ⟨-, -, q⟩
      · cases q
      · unfold bindP at q
        simp only [Bool.and_eq_true, decide_eq_true_eq] at q
        rw [q.1.1.1]
        exact nI_m6 (by omega)
    exact fin_sim R.1 hj hl (fun o ho _ hlo => R.2 o ho hlo) hr
  | none =>
    dsimp only
    cases hc : chosenM m (nI h) p with
    | none =>
      refine ⟨rfl, ?_⟩
      dsimp only
      unfold makeC
      rw [ce, hc]
      exact R
    | some j =>
      refine ⟨rfl, ?_⟩
      dsimp only
      have hj := chosenM_lt hc
      obtain ⟨k1, k2⟩ := chosen_ok hH hB hp hc
      have k1' : m 0 (7 + j) = -6 := by
        by_cases z : m 0 (7 + j) = -6
        · exact z
        · rw [(mLent_ne hH hj).mpr z] at k1
          cases k1
      have hno := (lF_none hb).2
      obtain ⟨R2, e7⟩ := make_sim R.1 hj k1' hh hp hr hrp (fun o' ho' q1 q2 => by
        have := block_host hH hB ho' ((mLent_ne hH ho').mpr q2)
        rw [q1] at this
        rcases k2 with z | z
        · rw [← this, z]
        · rw [z] at this
          exact absurd this.symm q2) (fun o' ho' => hno o' (by omega) (by omega))
      unfold makeC
      rw [ce, hc]
      dsimp only
      refine fin_sim R2 hj (by rw [e7]; exact nI_m6 (by omega)) (fun o ho hoj hlo => ?_) hr
      have s1 : ∀ k i, k < 6 → ¬ i = j → lendC st j (nI (h * 32 + p)) (if st 0 0 < 1 then -6 else nI r) (if st 0 0 < 2 then -6 else nI rp) k i = st k i := fun k i q1 q2 => by
        rw [lend_at, if_neg (by omega), if_neg (fun q => q2 q.2), if_neg (fun q => q2 q.2), if_neg (fun q => q2 q.2), if_neg (fun q => q2 q.2)]
      have s2 : ∀ k i, k = 0 ∨ k = 11 → lendC st j (nI (h * 32 + p)) (if st 0 0 < 1 then -6 else nI r) (if st 0 0 < 2 then -6 else nI rp) k i = st k i := fun k i q1 => by
        rw [lend_at, if_neg (by omega), if_neg (by omega), if_neg (by omega), if_neg (by omega), if_neg (by omega)]
      generalize lendC st j (nI (h * 32 + p)) (if st 0 0 < 1 then -6 else nI r) (if st 0 0 < 2 then -6 else nI rp) = st2 at hlo s1 s2 ⊢
      have e1 : lentC st2 o = lentC st o := by unfold lentC; rw [s1 1 o (by omega) hoj]
      have e2 : leftC st2 o = leftC st o := by
        unfold leftC lifeC
        rw [s1 3 o (by omega) hoj, s1 2 o (by omega) hoj, s2 0 3 (by omega), s2 0 4 (by omega), s2 0 5 (by omega), s2 11 0 (by omega)]
      rw [e2]
      exact R.2 o ho (by rw [← e1]; exact hlo)
theorem rgT {x : Int32} {n : Nat} (h : ¬ rg x n = false) : rg x n = true := by cases z : rg x n; exact absurd z h; rfl
theorem rgRT {r p : Int32} (h : ¬ rgR r p = false) : rgR r p = true := by cases z : rgR r p; exact absurd z h; rfl
theorem u_out {st m : St} {t : Nat} (R : RelF st m t) (h pt r rp f : Int32) : (xOut st h pt r rp f).1 = (mOut m h pt r rp f).1 ∧ RelF (xOut st h pt r rp f).2 (mOut m h pt r rp f).2 t := by
  unfold xOut mOut
  by_cases g1 : rg h 4 = false
  · rw [if_pos g1, if_pos g1]; exact ⟨rfl, R⟩
  · rw [if_neg g1, if_neg g1]
    by_cases g2 : rg pt 32 = false ∨ rgR r rp = false ∨ rg f 3 = false
    · rw [if_pos g2, if_pos g2]; exact ⟨rfl, R⟩
    · rw [if_neg g2, if_neg g2]
      obtain ⟨a, ha, rfl⟩ := rgN g1 (by decide)
      obtain ⟨b, hb, rfl⟩ := rgN (x := pt) (n := 32) (fun z => g2 (Or.inl z)) (by decide)
      obtain ⟨c, d, hc, hd, -, rfl, rfl⟩ := rgR_nat (rgRT (fun z => g2 (Or.inr (Or.inl z))))
      rw [cl_nI (show a < 2 ^ 31 by omega), cl_nI (show b < 2 ^ 31 by omega), cl_nI (show c < 2 ^ 31 by omega), cl_nI (show d < 2 ^ 31 by omega)]
      obtain ⟨e1, e2⟩ := out_sim (f := cl f) R ha hb hc hd
      dsimp only
      exact ⟨by rw [e1], e2⟩
theorem u_in {st m : St} {t : Nat} (R : RelF st m t) (r rp o f : Int32) : (xIn st r rp o f).1 = (mIn m r rp o f).1 ∧ RelF (xIn st r rp o f).2 (mIn m r rp o f).2 t := by
  unfold xIn mIn
  by_cases g1 : rgR r rp = false
  · rw [if_pos g1, if_pos g1]; exact ⟨rfl, R⟩
  · rw [if_neg g1, if_neg g1]
    by_cases g2 : rg o 16 = false
    · rw [if_pos g2, if_pos g2]; exact ⟨rfl, R⟩
    · rw [if_neg g2, if_neg g2]
      by_cases g3 : rg f 3 = false
      · rw [if_pos g3, if_pos g3]; exact ⟨rfl, R⟩
      · rw [if_neg g3, if_neg g3]
        obtain ⟨a, ha, rfl⟩ := rgN g2 (by decide)
        obtain ⟨c, d, hc, hd, -, rfl, rfl⟩ := rgR_nat (rgRT g1)
        rw [cl_nI (show a < 2 ^ 31 by omega), cl_nI (show c < 2 ^ 31 by omega), cl_nI (show d < 2 ^ 31 by omega)]
        dsimp only
        exact in_sim R hc hd ha
theorem u_turn {st m : St} {t : Nat} (R : RelF st m t) (h pt o f : Int32) : (xTurn st h pt o f).1 = (mTurn m h pt o f).1 ∧ RelF (xTurn st h pt o f).2 (mTurn m h pt o f).2 t := by
  unfold xTurn mTurn
  by_cases g1 : rg h 4 = false
  · rw [if_pos g1, if_pos g1]; exact ⟨rfl, R⟩
  · rw [if_neg g1, if_neg g1]
    by_cases g2 : rg pt 32 = false
    · rw [if_pos g2, if_pos g2]; exact ⟨rfl, R⟩
    · rw [if_neg g2, if_neg g2]
      by_cases g3 : rg o 16 = false
      · rw [if_pos g3, if_pos g3]; exact ⟨rfl, R⟩
      · rw [if_neg g3, if_neg g3]
        by_cases g4 : rg f 3 = false
        · rw [if_pos g4, if_pos g4]; exact ⟨rfl, R⟩
        · rw [if_neg g4, if_neg g4]
          obtain ⟨a, ha, rfl⟩ := rgN g1 (by decide)
          obtain ⟨b, hb, rfl⟩ := rgN g2 (by decide)
          obtain ⟨c, hc, rfl⟩ := rgN g3 (by decide)
          rw [cl_nI (show a < 2 ^ 31 by omega), cl_nI (show b < 2 ^ 31 by omega), cl_nI (show c < 2 ^ 31 by omega)]
          obtain ⟨e1, e2⟩ := out_sim (f := cl f) (r := 4) (rp := c) R ha hb (by omega) (by omega)
          rw [e1]
          cases hs : sendO m a b 4 c with
          | none => exact ⟨rfl, e2⟩
          | some j =>
            have hj := sendO_lt hs
            dsimp only
            exact in_sim e2 (by omega) (by omega) hc
