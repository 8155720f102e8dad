/-! PURE: the law looks at the keyboard -/
section KB
variable {r c t e dt N T : Nat} {M : Mem} {s s2 : Nat → Int32} {φ : Nat → UInt32}
theorem ownS_c (s : Nat → Int32) (k : Nat) : (ownS s k = nI 0 ∧ s 5 = nI k) ∨ (ownS s k = nI 1 ∧ s 6 = nI k) ∨ (ownS s k = nm 5 ∧ ¬ s 5 = nI k ∧ ¬ s 6 = nI k) := by
  unfold ownS
  by_cases h1 : s 5 = nI k
  · rw [if_pos h1]
    exact .inl ⟨rfl, h1⟩
  · by_cases h2 : s 6 = nI k
    · rw [if_neg h1, if_pos h2]
      exact .inr (.inl ⟨rfl, h2⟩)
    · rw [if_neg h1, if_neg h2]
      exact .inr (.inr ⟨rfl, h1, h2⟩)
theorem b2_nn {b : Bool} : (if b2 b = nI 0 then nI 0 else nI 1) = b2 b := by cases b <;> rfl
theorem if01 {p : Prop} [Decidable p] : (if p then nI 0 else nI 1) = b2 (!decide p) := by
  by_cases h : p
  · rw [if_pos h, decide_eq_true h]
    rfl
  · rw [if_neg h, decide_eq_false h]
    rfl
theorem if10 {p : Prop} [Decidable p] : (if p then nI 1 else nI 0) = b2 (decide p) := by
  by_cases h : p
  · rw [if_pos h, decide_eq_true h]
    rfl
  · rw [if_neg h, decide_eq_false h]
    rfl
theorem cnt_b2 (k : Nat) (p : Nat → Bool) : nI (cnt k p) + b2 (p k) = nI (cnt (k + 1) p) := by
  rw [b2_01, nI_add, cnt_succ]
theorem cnt_two {n : Nat} {p q d : Nat → Bool} (h : ∀ k, k < n → (d k = (p k || q k)) ∧ ¬ (p k = true ∧ q k = true)) : cnt n d = cnt n p + cnt n q := by
  induction n with
  | zero => rfl
  | succ n ih =>
    rw [cnt_succ, cnt_succ, cnt_succ, ih (fun k hk => h k (by omega))]
    obtain ⟨h1, h2⟩ := h n (by omega)
    rw [h1]
    cases hp : p n <;> cases hq : q n
    · rfl
    · simp; omega
    · simp; omega
    · exact absurd ⟨hp, hq⟩ h2
theorem down_two (H : CV r c t e dt N M s φ) : cnt (r * c) (fun k => !decide (s (20 + k) < nI 0)) = cnt (r * c) (fun k => decide (s (20 + k) = nI 0)) + cnt (r * c) (fun k => decide (s (20 + k) = nI 1)) := by
  refine cnt_two (fun k hk => ?_)
  rcases H.hold hk with ⟨_, g⟩ | ⟨j, hj, _, g⟩
  · rw [g, decide_eq_true (nm_lt0 (by decide) (by decide)), decide_eq_false (show ¬ nm 5 = nI 0 by decide), decide_eq_false (show ¬ nm 5 = nI 1 by decide)]
    exact ⟨rfl, fun q => absurd q.1 (by decide)⟩
  · rw [g]
    rcases (show j = 0 ∨ j = 1 by omega) with rfl | rfl
    · exact ⟨by decide, by decide⟩
    · exact ⟨by decide, by decide⟩
theorem a_keyboard (H : CV r c t e dt N M s φ) (hN : N < 2 ^ 30) (h12 : r + c ≤ 12) (X : EX (r * c) e dt T s φ) : fL_keyboard 0 M = some (nI 1, M) := by
  have hd := H.hd
  have m48 := H.m48
  have tN := H.tN
  have hkeys := a_keys H hN
  obtain ⟨cc0, cc1, _, cc3, cc4, cc5, _, _, _, _, _, _, _, cc13⟩ := a_count H hN
  unfold fL_keyboard
  simp only [nlit']
  refine wp_eq (lp_for (r * c) (fun k b M1 => M1 = M ∧ b = (nI (cnt k (fun k => !decide (s (20 + k) < nI 0))), nI (cnt k (fun k => !decide (s (68 + k) < nI 0))), nI (cnt k (fun k => decide (s (116 + k) = nI 1))), nI (cnt k (fun k => decide (s (20 + k) = nI 0))), nI k)) (by omega) ⟨rfl, rfl⟩ ?_ ?_)
  · rintro k b M1 rec hk ⟨rfl, rfl⟩ kk
    obtain ⟨k0, k1, k2, k3, k4, k5, k6, k7⟩ := a_key H hN hk
    have hs1 := a_senses H hN h12 hk (hD_no (s := s) m48)
    have hju := a_judged H hN X.2.2.2.1 X.2.2.2.2.1 hk
    have fin : wp (rec (nI (cnt k (fun k => !decide (s (20 + k) < nI 0))) + b2 (!decide (s (20 + k) < nI 0)), nI (cnt k (fun k => !decide (s (68 + k) < nI 0))) + b2 (!decide (s (68 + k) < nI 0)), nI (cnt k (fun k => decide (s (116 + k) = nI 1))) + b2 (decide (s (116 + k) = nI 1)), nI (cnt k (fun k => decide (s (20 + k) = nI 0))) + b2 (decide (s (20 + k) = nI 0)), nI (k + 1)) M1) (fun v1 M2 => v1 = nI 1 ∧ M2 = M1) := by
      refine kk _ _ ⟨rfl, ?_⟩
      rw [cnt_b2 k (fun k => !decide (s (20 + k) < nI 0)), cnt_b2 k (fun k => !decide (s (68 + k) < nI 0)), cnt_b2 k (fun k => decide (s (116 + k) = nI 1)), cnt_b2 k (fun k => decide (s (20 + k) = nI 0))]
    unfold FL_keyboard_12
    simp only [nlit', nm_x]
    rw [hkeys, cal_x, if_neg (show ¬ nI (r * c) ≤ nI k by rw [nI_leI (by omega) (by omega)]; omega), k0, cal_x, jn_ite, if01 (p := s (20 + k) < nI 0), k0, cal_x, jn_ite, if10 (p := s (20 + k) = nI 0), k1, cal_x, k3, cal_x, k5, cal_x, jn_ite, if01 (p := ownS s k < nI 0), k6, cal_x, hs1, cal_x, jn_ite, b2_nn, jn_x, jn_x, if_pos rfl, jn_x, nI_add]
    rcases ownS_c s k with ⟨o1, o2⟩ | ⟨o1, o2⟩ | ⟨o1, _⟩
    · have h46 := X.1.2.1 k hk (.inl o2)
      obtain ⟨_, t1, _⟩ := a_typ H hN (p := 0) (by omega)
      have t1' : fX8_typist 0 (nI 0) (nI 1) M1 = some (nI k, M1) := by rw [t1, o2]
      rw [o1, decide_eq_false (show ¬ nI 0 < nI 0 by decide), if_neg (show ¬ b2 (!false) = nI 0 from n10), k4, cal_x, if_pos h46, k5, cal_x, o1, t1', cal_x, if_pos rfl]
      dsimp only
      rw [if_neg n10, hju, cal_x, if_neg n10, k7, cal_x, if_pos rfl]
      exact fin
    · have h46 := X.1.2.1 k hk (.inr o2)
      obtain ⟨_, t1, _⟩ := a_typ H hN (p := 1) (by omega)
      have t1' : fX8_typist 0 (nI 1) (nI 1) M1 = some (nI k, M1) := by rw [t1, o2]
      rw [o1, decide_eq_false (show ¬ nI 1 < nI 0 by decide), if_neg (show ¬ b2 (!false) = nI 0 from n10), k4, cal_x, if_pos h46, k5, cal_x, o1, t1', cal_x, if_pos rfl]
      dsimp only
      rw [if_neg n10, hju, cal_x, if_neg n10, k7, cal_x, if_pos rfl]
      exact fin
    · rw [o1, decide_eq_true (nm_lt0 (by decide) (by decide)), if_pos (show b2 (!true) = nI 0 from rfl)]
      dsimp only
      rw [if_neg n10, hju, cal_x, if_neg n10, k7, cal_x, if_pos rfl]
      exact fin
  · rintro b M1 rec ⟨rfl, rfl⟩
    obtain ⟨t0, _⟩ := a_typ H hN (p := 0) (by omega)
    obtain ⟨t1, _⟩ := a_typ H hN (p := 1) (by omega)
    have h0 := H.held5 (p := 0) (by omega)
    have h1 := H.held5 (p := 1) (by omega)
    have hdn := down_two H
    have hn := a_keyN H (nI 0) (x := nI (r * c)) (.inr (nI_le (Nat.le_refl _) (by omega)))
    have hmod : t % r < r := Nat.mod_lt _ (by omega)
    unfold FL_keyboard_12
    have hsub : nI (cnt (r * c) (fun k => !decide (s (20 + k) < nI 0))) - nI (cnt (r * c) (fun k => decide (s (20 + k) = nI 0))) = nI (cnt (r * c) (fun k => decide (s (20 + k) = nI 1))) := by rw [hdn, nI_sub (by omega), Nat.add_sub_cancel_left]
    have h0' : cnt (r * c) (fun k => decide (s (20 + k) = nI 0)) ≤ 5 := h0
    have h1' : cnt (r * c) (fun k => decide (s (20 + k) = nI 1)) ≤ 5 := h1
    simp only [nlit', nm_x]
    rw [hkeys, cal_x, if_pos (nI_le (Nat.le_refl _) (by omega)), t0, cal_x, jn_x, jn_x, if_pos rfl, t1, cal_x, hsub, if_pos rfl, if_neg (show ¬ nI 6 ≤ _ by rw [nI_leI (by omega) (by omega)]; omega), if_neg (show ¬ nI 6 ≤ _ by rw [nI_leI (by omega) (by omega)]; omega)]
    dsimp only
    rw [if_neg n10, cc3, cal_x, if_pos rfl, cc4, cal_x, if_pos rfl, cc5, cal_x, if_pos rfl, cc13, cal_x, cc0, cal_x, cc1, cal_x, nzb_nI (by omega) (by omega), asr_x, nI_rem (by omega) (by omega) (by omega), if_pos rfl, hkeys, cal_x, hn, cal_x, if_pos rfl, wp_some]
    exact ⟨rfl, rfl⟩
end KB
