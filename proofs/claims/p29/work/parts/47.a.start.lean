/-! PURE: the start: the invariant holds -/
theorem rz_0 {i : Nat} (h : (7 ≤ i ∧ i < 20) ∨ i = 2 ∨ 308 ≤ i) : rz i = nI 0 := by
  unfold rz
  rcases h with h | h | h
  · rw [ck_lo (by omega), upd_ne (by omega), upd_ne (by omega), upd_ne (by omega), upd_ne (by omega), upd_ne (by omega), upd_ne (by omega)]
    rfl
  · subst h
    rw [ck_lo (by omega), upd_ne (by omega), upd_ne (by omega), upd_ne (by omega), upd_ne (by omega), upd_ne (by omega), upd_ne (by omega)]
    rfl
  · rw [ck_hi (by omega), upd_ne (by omega), upd_ne (by omega), upd_ne (by omega), upd_ne (by omega), upd_ne (by omega), upd_ne (by omega)]
    rfl
theorem rz_k {k : Nat} (h : k < 48) : rz (20 + k) = nm 5 ∧ rz (68 + k) = nm 5 ∧ rz (116 + k) = nI 0 ∧ rz (164 + k) = nI 0 ∧ rz (212 + k) = nm 5 ∧ rz (260 + k) = nI 46 := by
  unfold rz
  exact ck_k h
theorem rz_h : rz 0 = nI 4 ∧ rz 1 = nI 6 ∧ (∀ p, p < 2 → rz (3 + p) = nm 5) ∧ (∀ p, p < 2 → rz (5 + p) = nm 5) := by
  refine ⟨?_, ?_, fun p hp => ?_, fun p hp => ?_⟩
  · unfold rz
    rw [ck_lo (by omega), upd_ne (by omega), upd_ne (by omega), upd_ne (by omega), upd_ne (by omega), upd_ne (by omega), upd_eq rfl]
  · unfold rz
    rw [ck_lo (by omega), upd_ne (by omega), upd_ne (by omega), upd_ne (by omega), upd_ne (by omega), upd_eq rfl]
  · unfold rz
    rcases (show p = 0 ∨ p = 1 by omega) with rfl | rfl
    · rw [ck_lo (by omega), upd_ne (by omega), upd_ne (by omega), upd_ne (by omega), upd_eq rfl]
    · rw [ck_lo (by omega), upd_ne (by omega), upd_eq rfl]
  · unfold rz
    rcases (show p = 0 ∨ p = 1 by omega) with rfl | rfl
    · rw [ck_lo (by omega), upd_ne (by omega), upd_ne (by omega), upd_eq rfl]
    · rw [ck_lo (by omega), upd_eq rfl]
section ZC
theorem z_1 : Mz.1 1 = fun _ => 0 := rfl
theorem z_2 : Mz.1 2 = fun i => if i = 0 then 4 else if i = 1 then 6 else 0 := rfl
theorem z_3 : Mz.1 3 = cstf (-1) 48 := rfl
theorem z_4 : Mz.1 4 = cstf 46 48 := rfl
theorem z_8 : Mz.1 8 = fun _ => 0 := rfl
theorem z_9 : Mz.1 9 = fun _ => 0 := rfl
theorem z_10 : Mz.1 10 = fun _ => 0 := rfl
theorem z_11 : Mz.1 11 = cstf (-1) 2 := rfl
theorem z_12 : Mz.1 12 = fun i => if i = 2 then (-1) else 0 := rfl
theorem z_13 : Mz.1 13 = fun _ => 0 := rfl
theorem z_14 : Mz.1 14 = fun i => if i = 2 then (-1) else 0 := rfl
theorem z_15 : Mz.1 15 = fun _ => 0 := rfl
theorem z_16 : Mz.1 16 = fun _ => 0 := rfl
theorem z_24 : Mz.1 24 = fun _ => 0 := rfl
theorem z_33 : Mz.1 33 = upd (upd (upd (fun _ => 0) 0 1040187392) 1 1056964608) 2 1048576000 := rfl
theorem y_12 : Mz.2 12 = fun i => if i = 0 then 1082130432 else if i = 1 then 1086324736 else 0 := rfl
theorem y_14 : Mz.2 14 = fun i => if i = 0 then 1090519040 else if i = 1 then 1092616192 else 0 := rfl
theorem y_32 : Mz.2 32 = fun i => if i = 1 then 1040187392 else if i = 2 then 1056964608 else if i = 3 then 1048576000 else 0 := rfl
theorem z_0 : Mz.1 0 = fun _ => 0 := rfl
theorem z_100 : Mz.1 100 = mzH := rfl
theorem z_233 : Mz.1 233 = fun _ => 0 := rfl
theorem z_235 : Mz.1 235 = fun _ => 0 := rfl
theorem z_236 : Mz.1 236 = fun _ => 0 := rfl
theorem y_240 : Mz.2 240 = fun _ => 0 := rfl
end ZC
theorem gm_z : gm 1082130432 ∧ gm 1086324736 ∧ gm 1090519040 ∧ gm 1092616192 := by
  unfold gm
  decide
theorem start_RS : RSp 4 6 0 0 0 0 (vA Mz 1) (vB Mz 1) rz pz := by
  obtain ⟨h0, h1, h3, h5⟩ := rz_h
  obtain ⟨m1, m2, m3, m4⟩ := gm_z
  have c48 : ∀ k, k < 48 → (cstf (-1) 48) k = nm 1 := fun k hk => by
    unfold cstf
    rw [if_pos hk]
    rfl
  refine ⟨⟨by omega, ?_, ?_, h0, h1⟩, fun p hp => .inl ⟨?_, h5 p hp⟩, ⟨fun k hk => .inl ⟨?_, (rz_k (by omega)).1⟩, fun k _ hk => ?_, fun p hp => ?_⟩, ⟨fun i hi d hid => ⟨?_, ?_, ?_⟩, fun i hi d hid => ⟨?_, ?_, ?_⟩⟩, fun k hk => .inl ⟨(rz_k (by omega)).2.1, (rz_k (by omega)).2.2.1⟩, fun k hk => ?_, ?_, ?_, ⟨Nat.le_refl 0, ?_, rz_0 (by omega), fun i hi => absurd hi (Nat.not_lt_zero i)⟩, ⟨by omega, ?_, rz_0 (by omega), fun d hd => absurd hd (Nat.not_lt_zero d), ?_⟩, fun j hj => ?_, ⟨Nat.le_refl 0, ?_, rz_0 (by omega), ?_, ?_⟩⟩
  · show Mz.1 2 0 = _
    rw [z_2]
    rfl
  · show Mz.1 2 1 = _
    rw [z_2]
    rfl
  · show Mz.1 11 p = _
    rw [z_11]
    unfold cstf
    rw [if_pos hp]
    rfl
  · show Mz.1 3 k = _
    rw [z_3]
    exact c48 k (by omega)
  · show Mz.1 3 k = _
    rw [z_3]
    exact c48 k hk
  · rw [(cnt_zero).mpr (fun i hi => decide_eq_false (by rw [(rz_k (show i < 48 by omega)).1, nm_nI (by omega) (by decide) (by decide)]; exact not_false))]
    omega
  · show bt (Mz.1 8 i) d = _
    rw [z_8, (rz_k (k := i * 6 + d) (by have := ixlt hid.1 hid.2; omega)).1, decide_eq_true (nm_lt0 (by decide) (by decide))]
    exact bt_0 d
  · show bt (Mz.1 9 i) d = _
    rw [z_9, (rz_k (k := i * 6 + d) (by have := ixlt hid.1 hid.2; omega)).2.1, decide_eq_true (nm_lt0 (by decide) (by decide))]
    exact bt_0 d
  · show bt (Mz.1 10 i) d = _
    rw [z_10, (rz_k (k := i * 6 + d) (by have := ixlt hid.1 hid.2; omega)).2.2.1, decide_eq_false (show ¬ nI 0 = nI 1 by decide)]
    exact bt_0 d
  · show bt (Mz.1 8 i) d = _
    rw [z_8]
    exact bt_0 d
  · show bt (Mz.1 9 i) d = _
    rw [z_9]
    exact bt_0 d
  · show bt (Mz.1 10 i) d = _
    rw [z_10]
    exact bt_0 d
  · show Mz.1 4 k = _
    rw [z_4, (rz_k (show k < 48 by omega)).2.2.2.2.2]
    unfold cstf
    rw [if_pos (by omega)]
    rfl
  · refine ⟨⟨?_, ?_, m1, m2⟩, .inl ⟨?_, h3 0 (by omega)⟩, ⟨0, by omega, ?_, rz_0 (by omega)⟩, ?_, ?_, ⟨0, by omega, ?_, rz_0 (by omega)⟩, fun j hj => ?_⟩
    · show Mz.2 12 0 = _
      rw [y_12]
      rfl
    · show Mz.2 12 1 = _
      rw [y_12]
      rfl
    · show Mz.1 12 2 = _
      rw [z_12]
      rfl
    · show Mz.1 12 3 = _
      rw [z_12]
      rfl
    · show Mz.1 12 4 = _
      rw [z_12, rz_0 (by omega)]
      rfl
    · show Mz.1 12 5 = _
      rw [z_12, rz_0 (by omega)]
      rfl
    · show Mz.1 12 6 = _
      rw [z_12]
      rfl
    · show Mz.1 13 j = _
      rw [z_13, rz_0 (by omega)]
      rfl
  · refine ⟨⟨?_, ?_, m3, m4⟩, .inl ⟨?_, h3 1 (by omega)⟩, ⟨0, by omega, ?_, rz_0 (by omega)⟩, ?_, ?_, ⟨0, by omega, ?_, rz_0 (by omega)⟩, fun j hj => ?_⟩
    · show Mz.2 14 0 = _
      rw [y_14]
      rfl
    · show Mz.2 14 1 = _
      rw [y_14]
      rfl
    · show Mz.1 14 2 = _
      rw [z_14]
      rfl
    · show Mz.1 14 3 = _
      rw [z_14]
      rfl
    · show Mz.1 14 4 = _
      rw [z_14, rz_0 (by omega)]
      rfl
    · show Mz.1 14 5 = _
      rw [z_14, rz_0 (by omega)]
      rfl
    · show Mz.1 14 6 = _
      rw [z_14]
      rfl
    · show Mz.1 15 j = _
      rw [z_15, rz_0 (by omega)]
      rfl
  · show Mz.1 16 0 = _
    rw [z_16]
    rfl
  · show Mz.1 24 0 = _
    rw [z_24]
    rfl
  · show Mz.1 1 9 = _
    rw [z_1]
    rfl
  · show (∃ b, b < lims j ∧ Mz.1 33 j = nI b ∧ pz (4 + j) = (nI b).toUInt32) ∧ Mz.2 32 (1 + j) = pz (4 + j)
    rw [z_33, y_32]
    rcases (show j = 0 ∨ j = 1 ∨ j = 2 by omega) with rfl | rfl | rfl
    · exact ⟨⟨1040187392, by decide, rfl, by decide +kernel⟩, rfl⟩
    · exact ⟨⟨1056964608, by decide, rfl, by decide +kernel⟩, rfl⟩
    · exact ⟨⟨1048576000, by decide, rfl, by decide +kernel⟩, rfl⟩
  · show Mz.1 1 6 = _
    rw [z_1]
    rfl
  · show Mz.1 1 7 = _
    rw [z_1, rz_0 (by omega)]
    rfl
  · show Mz.1 1 8 = _
    rw [z_1, rz_0 (by omega)]
    rfl
