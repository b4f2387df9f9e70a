theorem mS_form : ∀ (n i : Nat) (g : Nat → Int32) (j : Nat), iF mS n i g j = if 7 + i ≤ j ∧ j < 7 + i + n then -6 else g j
  | 0, i, g, j => by rw [if_neg (by omega)]; rfl
  | n + 1, i, g, j => by
    rw [iF_s, mS_form n (i + 1) (mS i g) j]
    unfold mS upd
    by_cases hj : j = 7 + i
    · rw [if_neg (by omega), if_pos hj, if_pos (by omega)]
    · rw [if_neg hj]
      by_cases hr : 7 + i ≤ j ∧ j < 7 + i + (n + 1)
      · rw [if_pos hr, if_pos (by omega)]
      · rw [if_neg hr, if_neg (by omega)]
theorem mN_at (j : Nat) : mN 0 j = if 7 ≤ j ∧ j < 23 then -6 else mF j := by
  show iF mS 16 0 mF j = _
  rw [mS_form]
theorem mN_h {o : Nat} (ho : o < 16) : mN 0 (7 + o) = -6 := by rw [mN_at, if_pos (by omega)]
theorem mN_z {j : Nat} (hj : 23 ≤ j) : mN 0 j = 0 := by
  rw [mN_at, if_neg (by omega)]
  unfold mF upd zf
  rw [if_neg (by omega), if_neg (by omega), if_neg (by omega)]
theorem mN_s {j : Nat} (hj : j < 7) : mN 0 j = mF j := by rw [mN_at, if_neg (by omega)]
theorem stN_f {K n : Nat} (h : stN K = flF (-6) n) {i : Nat} (hi : i < n) : stN K i = -6 := by
  rw [h]
  unfold flF
  rw [if_pos hi]
theorem RelF_N : RelF stN mN 0 := by
  have e1 : ∀ o, o < 16 → stN 1 o = -6 := fun o ho => stN_f (n := 16) rfl ho
  refine ⟨⟨?_, ?_, ?_, ?_, ?_, ?_, ?_, ?_, ?_⟩, ?_⟩
  · exact ⟨rfl, by rw [mN_s (by omega)]; rfl, by omega⟩
  · refine ⟨cases6 ?_ ?_ ?_ ?_ ?_ ?_, ⟨0, by omega, ?_⟩, fun i h1 h2 => ?_⟩
    · rw [mN_s (by omega)]; rfl
    · rw [mN_s (by omega)]; rfl
    · rw [mN_s (by omega)]; rfl
    · rw [mN_s (by omega)]; rfl
    · rw [mN_s (by omega)]; rfl
    · rw [mN_s (by omega)]; rfl
    · rw [mN_s (by omega)]; rfl
    · rw [mN_s (by omega)]
      rcases (by omega : i = 3 ∨ i = 4 ∨ i = 5) with q | q | q
      · rw [q]; exact ⟨4, by omega, by omega, rfl⟩
      · rw [q]; exact ⟨20, by omega, by omega, rfl⟩
      · rw [q]; exact ⟨2, by omega, by omega, rfl⟩
  · intro o ho
    rw [mN_z (by omega), mN_z (by omega), mN_z (by omega), mN_z (by omega)]
    refine ⟨rfl, ⟨0, by omega, rfl⟩, rfl, ⟨0, by omega, rfl⟩, rfl, rfl, fun r hr => ?_⟩
    rw [mN_z (by omega)]
    rfl
  · intro o ho
    exact Or.inl ⟨e1 o ho, mN_h ho⟩
  · intro o ho h
    exact absurd (mN_h ho) h
  · intro o o' ho ho' h
    exact absurd (mN_h ho) h
  · intro o o' ho ho' _ h
    exact absurd (mN_h ho) h
  · intro k hk
    rw [mN_z (by omega)]
    exact ⟨0, rfl, by omega, Or.inl ⟨by omega, stN_f (n := 32) rfl hk⟩⟩
  · refine ⟨fun v hv => ?_, fun q hq => Or.inl (stN_f (n := 6) rfl hq), fun q q' hq hq' _ h => absurd (stN_f (n := 6) rfl hq) h⟩
    rw [mN_z (by omega)]
    exact ⟨0, rfl, by omega, fun z => absurd z (by omega)⟩
  · intro o ho h
    unfold lentC at h
    rw [e1 o ho] at h
    exact absurd h (by decide)
theorem Full_N : Full stN stN stN zf mN 0 := ⟨⟨0, Nat.le_refl _, RelF_N⟩, rfl, rfl, fun h => absurd rfl h, fun h => absurd rfl h⟩
