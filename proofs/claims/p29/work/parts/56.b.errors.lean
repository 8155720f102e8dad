/-! PURE: the law's errors -/
section ER2
variable {r c t e dt N : Nat} {M : Mem} {s : Nat → Int32} {φ : Nat → UInt32}
def sT (j : Nat) : Nat := if j = 0 then 116 else 48
def sD (j : Nat) : Nat := if j = 1 then 100 else if j = 3 then 53 else 48
theorem sT_scan : scan sT 0 0 0 = some 0 ∧ scan sT 1 0 0 = some 1 ∧ scan sT 2 0 0 = some 1 ∧ scan sD 4 0 0 = some 3 := by
  refine ⟨rfl, ?_, ?_, ?_⟩
  · rw [scan_s (q := 3) (by decide), scan_0, if_neg (by omega)]
  · rw [scan_s (q := 3) (by decide), scan_n (by decide)]
  · rw [scan_s (q := 1) (by decide), scan_s (q := 2) (by decide), scan_s (q := 5) (by decide), scan_n (by decide)]
theorem sT_lt (j : Nat) : sT j < 65536 ∧ sD j < 65536 := by
  unfold sT sD
  constructor
  · split <;> omega
  · split
    · omega
    · split <;> omega
theorem er_undo (hx : HX t M) (h6 : M.1 1 6 = nI t) (ht : t < 2 ^ 30) : ∃ st M2 u, st ≤ 4 ∧ M.1 100 0 = nI st ∧ fX8_undo 0 M = some (if st = 0 then nm 5 else nI (st - 1), M2) ∧ M2.1 1 6 = nI u ∧ u ≤ t := by
  obtain ⟨q, st, h1, h2, h3, h4⟩ := hx
  by_cases h0 : st = 0
  · subst h0
    refine ⟨0, M, t, h1, h2, ?_, h6, Nat.le_refl t⟩
    unfold fX8_undo
    simp only [Nat.reduceAdd, nlit', nm_x, h2, if_true]
  · obtain ⟨⟨u, hu, e⟩, b1, b2⟩ := h4 (by omega)
    obtain ⟨st', rfl⟩ : ∃ st', st = st' + 1 := ⟨st - 1, by omega⟩
    obtain ⟨M1, e1, e2, _, ag, _⟩ := e_takeBack M ⟨b1, b2⟩ h3 h2 h1
    have n0 : ¬ nI (st' + 1) = nI 0 := by rw [nI_eq (by omega) (by decide)]; omega
    refine ⟨st' + 1, M1, u, h1, h2, ?_, (ag.1 6 (by omega) (by omega)).trans e, hu⟩
    unfold fX8_undo
    simp only [Nat.reduceAdd, nlit', nm_x, h2, n0, if_false, e1, cal_x, e2, Nat.add_sub_cancel, h0]
theorem a_errors (h : JS N r c t e dt M s φ) (hN : N < 2 ^ 30) : ∃ M2, fL_errors 0 M = some (nI 1, M2) := by
  obtain ⟨H, X, hx, h233, h12⟩ := h
  have h4 : φ 4 = 1040187392 := X.2.2.2.1
  obtain ⟨p1, p2, p3⟩ := er_press H
  obtain ⟨i1, i2⟩ := er_tick M
  obtain ⟨u1, u2⟩ := er_build M
  obtain ⟨q1, q2, q3, q4, q5⟩ := er_set H h4
  obtain ⟨g1, g2⟩ := er_sign H
  have y1 := a_typN (M := M) (x := nI 2) (nI 0) (.inr (by decide))
  have y2 := a_hunN (M := M) (p := 0) (x := nI 2) (by omega) (.inr (by decide))
  have y3 := a_styleN (M := M) (x := nI 2) (nI 0) (.inr (by decide))
  have y4 := a_distN (M := M)
  have T0 : TC 0 sT M := ⟨h233, fun j hj => absurd hj (Nat.not_lt_zero j)⟩
  obtain ⟨M1, z1, T1, F1⟩ := er_clear (ch2 := sT) T0
  have v1 := er_perf (y := nm 100) T1 (by omega) (fun j _ => (sT_lt j).1) sT_scan.1 (by omega) (by decide)
  obtain ⟨M2, z2, T2, F2⟩ := er_type (x := 116) (ch2 := sT) T1 (by omega) (by omega) (fun j _ => rfl) rfl
  have v2 := er_perf (y := nm 101) T2 (by omega) (fun j _ => (sT_lt j).1) sT_scan.2.1 (by omega) (by decide)
  obtain ⟨M3, z3, T3, F3⟩ := er_type (x := 48) (ch2 := sT) T2 (by omega) (by omega) (fun j _ => rfl) rfl
  have v3 := er_perf (y := nm 101) T3 (by omega) (fun j _ => (sT_lt j).1) sT_scan.2.2.1 (by omega) (by decide)
  obtain ⟨M4, z4, T4, F4⟩ := er_clear (ch2 := sD) T3
  obtain ⟨M5, z5, T5, F5⟩ := er_type (x := 48) (ch2 := sD) T4 (by omega) (by omega) (fun j _ => rfl) rfl
  obtain ⟨M6, z6, T6, F6⟩ := er_type (x := 100) (ch2 := sD) T5 (by omega) (by omega) (fun j _ => rfl) rfl
  obtain ⟨M7, z7, T7, F7⟩ := er_type (x := 48) (ch2 := sD) T6 (by omega) (by omega) (fun j _ => rfl) rfl
  obtain ⟨M8, z8, T8, F8⟩ := er_type (x := 53) (ch2 := sD) T7 (by omega) (by omega) (fun j _ => rfl) rfl
  have v8 := er_perf (y := nm 103) T8 (by omega) (fun j _ => (sT_lt j).2) sT_scan.2.2.2 (by omega) (by decide)
  have F : TF M M8 := TF_tr (TF_tr (TF_tr (TF_tr (TF_tr (TF_tr (TF_tr F1 F2) F3) F4) F5) F6) F7) F8
  have H8 : CV r c t e dt N M8 s φ := H.v (fun k _ _ => ⟨F.1 k (by omega) (by omega), by rw [F.2]⟩)
  have hx8 : HX t M8 := HX_f hx (fun k _ _ => F.1 k (by omega) (by omega)) (Nat.le_refl t)
  have tN := H.tN
  obtain ⟨st, M9, u, hst, k1, z9, k2, hu⟩ := er_undo hx8 H8.t1 (by omega)
  obtain ⟨c14, c15, c16⟩ := a_count14 k1 T8.1
  have c0 := (a_count H8 hN).1
  have c9 : fX8_count 0 (nI 0) M9 = some (nI u, M9) := by
    unfold fX8_count
    simp only [Nat.reduceAdd, nlit', if_true, k2]
  have last : ¬ nI t < nI u := by rw [nI_ltI (by omega) (by omega)]; omega
  show ok1 (fL_errors 0 M)
  unfold fL_errors
  simp only [nlit', nm_x]
  rw [p1, cal_x]
  refine jn_ok (nI 1) M (fun K => ?_) ?_
  · rw [jn_x, if_pos rfl, p2, cal_x, if_pos rfl, p3, cal_x, if_pos rfl, i1, cal_x, if_pos rfl, i2, cal_x, if_pos rfl, u1, cal_x, if_pos rfl, u2, cal_x, if_pos rfl, y1, cal_x, if_pos rfl, y2, cal_x, if_pos rfl]
  try dsimp only
  rw [y3, cal_x, y4, cal_x]
  refine jn_ok (nI 1) M (fun K => ?_) ?_
  · rw [jn_x, if_neg n10, if_neg er_nan, if_neg er_nan, q1, cal_x, if_pos rfl, q2, cal_x, if_pos rfl, q3, cal_x, if_pos rfl, q4, cal_x, if_pos rfl, q5, cal_x, if_pos rfl, g1, cal_x, if_pos rfl, g2, cal_x, if_pos rfl]
  try dsimp only
  rw [z1, cal_x]
  refine jn_ok (nI 1) M1 (fun K => ?_) ?_
  · rw [jn_x, if_neg n10, v1, cal_x, if_pos rfl]
  try dsimp only
  rw [z2, cal_x]
  refine jn_ok (nI 1) M2 (fun K => ?_) ?_
  · rw [jn_x, if_neg n10, v2, cal_x, if_pos rfl]
  try dsimp only
  rw [z3, cal_x]
  refine jn_ok (nI 1) M4 (fun K => ?_) ?_
  · rw [jn_x, if_neg n10, v3, cal_x, if_pos rfl, z4, cal_x, if_pos rfl]
  try dsimp only
  rw [z5, cal_x, z6, cal_x, z7, cal_x, z8, cal_x]
  refine jn_ok (nI 1) M8 (fun K => ?_) ?_
  · rw [jn_x, if_neg n10, v8, cal_x, if_pos rfl, c15, cal_x, if_pos rfl, c16, cal_x, if_pos rfl]
  try dsimp only
  rw [c0, cal_x, c14, cal_x, if_neg n10, z9, cal_x]
  by_cases h0 : st = 0
  · rw [if_pos h0, jn_x, if_pos (show nI st ≤ nI 0 by rw [h0]; decide)]
    try dsimp only
    rw [if_pos rfl, c9, cal_x, if_neg last]
    exact ⟨M9, rfl⟩
  · rw [if_neg h0, jn_x, if_neg (show ¬ nI st ≤ nI 0 by rw [nI_leI (by omega) (by decide)]; omega), nI_sub (show 1 ≤ st by omega)]
    try dsimp only
    rw [if_pos rfl, c9, cal_x, if_neg last]
    exact ⟨M9, rfl⟩
end ER2
