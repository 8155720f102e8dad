/-! PURE: press and release on a State -/
theorem cnt_le1 {n k : Nat} {p q : Nat → Bool} (h : ∀ i, i < n → i ≠ k → p i = q i) : cnt n p ≤ cnt n q + 1 ∧ (q k = true → cnt n p ≤ cnt n q) ∧ (p k = false → cnt n p ≤ cnt n q) := by
  induction n with
  | zero => exact ⟨Nat.zero_le _, fun _ => Nat.le_refl _, fun _ => Nat.le_refl _⟩
  | succ n ih =>
    obtain ⟨h1, h2, h3⟩ := ih (fun i hi => h i (by omega))
    rw [cnt_succ, cnt_succ]
    by_cases e : n = k
    · subst e
      have e2 : cnt n p = cnt n q := cnt_congr (fun i hi => h i (by omega) (by omega))
      rw [e2]
      refine ⟨?_, fun g => ?_, fun g => ?_⟩
      · split <;> split <;> omega
      · rw [if_pos g]
        split <;> omega
      · rw [g, if_neg (by decide)]
        omega
    · rw [h n (by omega) e]
      exact ⟨by omega, fun g => by have := h2 g; omega, fun g => by have := h3 g; omega⟩
theorem k_id {c i d k : Nat} (hd : d < c) : i * c + d = k ↔ (k / c = i ∧ k % c = d) := by
  constructor
  · rintro rfl
    exact ⟨ixdiv hd, ixmod hd⟩
  · rintro ⟨rfl, rfl⟩
    exact divmod k c
section PRESS
variable {A A2 : Nat → Nat → Int32} {B B2 : Nat → Nat → UInt32} {s s2 : Nat → Int32} {φ φ2 : Nat → UInt32} {r c t e dt N p k : Nat}
theorem RS_press (H : RSp r c t e dt N A B s φ) (hk : k < r * c) (hp : p < 2) (hlt : cnt (r * c) (fun j => decide (s (20 + j) = nI p)) < 5) (hup : s (20 + k) < nI 0)
    (eA : ∀ k, k < 33 → (k == 2 || k == 7) = false → A2 k = A k) (a2 : A2 2 = upd (A 2) k (nI p)) (a7 : A2 7 = upd (A 7) (k / c) (A 7 (k / c) ||| pw (k % c))) (eB : ∀ k, k < 33 → false = false → B2 k = B k)
    (eS : ∀ i, i ≠ 20 + k → s2 i = s i) (s20 : s2 (20 + k) = nI p) (eF : ∀ i, false = false → φ2 i = φ i) : RSp r c t e dt N A2 B2 s2 φ2 := by
  have hd := H.1.1
  obtain ⟨m48, m0⟩ := mul48 hd
  have hkr := divr hk
  have hkc : k % c < c := Nat.mod_lt k (by omega)
  refine ⟨rDim_c H.1 (congrFun (eA 1 (by decide) rfl) 0) (congrFun (eA 1 (by decide) rfl) 1) (eS 0 (by omega)) (eS 1 (by omega)), rShift_c H.2.1 (fun p hp => congrFun (eA 10 (by decide) rfl) p) (fun p hp => eS _ (by omega)), ⟨fun j hj => ?_, fun j hj hj2 => ?_, fun q hq => ?_⟩, ⟨fun i hi d hid => ⟨?_, ?_, ?_⟩, fun i hi d hid => ⟨?_, ?_, ?_⟩⟩, rKey_c H.2.2.2.2.1 (fun k hk => ⟨congrFun (eA 4 (by decide) rfl) k, congrFun (eA 5 (by decide) rfl) k, congrFun (eA 6 (by decide) rfl) k⟩) (fun k hk => ⟨eS _ (by omega), eS _ (by omega), eS _ (by omega), eS _ (by omega)⟩), rSign_c H.2.2.2.2.2.1 (fun k hk => congrFun (eA 3 (by decide) rfl) k) (fun k hk => eS _ (by omega)), rTyp_c H.2.2.2.2.2.2.1 (fun j _ _ => congrFun (eA 11 (by decide) rfl) j) (fun j _ => congrFun (eA 12 (by decide) rfl) j) (fun j _ => congrFun (eB 11 (by decide) rfl) j) ⟨eS _ (by omega), eS _ (by omega), eS _ (by omega), eS _ (by omega), eS _ (by omega)⟩ (fun j hj => eS _ (by omega)) ⟨eF 0 rfl, eF 2 rfl⟩, rTyp_c H.2.2.2.2.2.2.2.1 (fun j _ _ => congrFun (eA 13 (by decide) rfl) j) (fun j _ => congrFun (eA 14 (by decide) rfl) j) (fun j _ => congrFun (eB 13 (by decide) rfl) j) ⟨eS _ (by omega), eS _ (by omega), eS _ (by omega), eS _ (by omega), eS _ (by omega)⟩ (fun j hj => eS _ (by omega)) ⟨eF 1 rfl, eF 3 rfl⟩, rEnd_c H.2.2.2.2.2.2.2.2.1 (congrFun (eA 15 (by decide) rfl) 0) (fun j hj => ⟨congrFun (eA 16 (by decide) rfl) j, congrFun (eA 17 (by decide) rfl) j, congrFun (eA 18 (by decide) rfl) j, congrFun (eA 19 (by decide) rfl) j, congrFun (eA 20 (by decide) rfl) j, congrFun (eA 21 (by decide) rfl) j⟩) (eS 9 (by omega)) (fun j _ _ => eS _ (by omega)), rDis_c H.2.2.2.2.2.2.2.2.2.1 (congrFun (eA 23 (by decide) rfl) 0) (congrFun (eA 0 (by decide) rfl) 9) (fun j hj => ⟨congrFun (eA 24 (by decide) rfl) j, congrFun (eA 25 (by decide) rfl) j, congrFun (eA 26 (by decide) rfl) j, congrFun (eA 27 (by decide) rfl) j, congrFun (eA 28 (by decide) rfl) j, congrFun (eA 29 (by decide) rfl) j, congrFun (eA 30 (by decide) rfl) j⟩) (eS 16 (by omega)) (fun j _ _ => eS _ (by omega)), rSet_c H.2.2.2.2.2.2.2.2.2.2.1 (fun j hj => ⟨congrFun (eA 32 (by decide) rfl) j, congrFun (eB 31 (by decide) rfl) _⟩) (fun j hj => eF _ (by rcases (show j = 0 ∨ j = 1 ∨ j = 2 by omega) with rfl | rfl | rfl <;> rfl)), rCnt_c H.2.2.2.2.2.2.2.2.2.2.2 ⟨congrFun (eA 0 (by decide) rfl) 6, congrFun (eA 0 (by decide) rfl) 7, congrFun (eA 0 (by decide) rfl) 8⟩ ⟨eS 2 (by omega), eS 14 (by omega), eS 15 (by omega)⟩⟩
  · by_cases e : j = k
    · subst e
      rw [a2, s20, upd_at, if_pos rfl]
      exact .inr ⟨p, hp, rfl, rfl⟩
    · rw [a2, eS _ (by omega), upd_at, if_neg e]
      exact H.2.2.1.1 j hj
  · rw [a2, upd_at, if_neg (by omega)]
    exact H.2.2.1.2.1 j hj hj2
  · by_cases e : q = p
    · subst e
      have := (cnt_le1 (n := r * c) (k := k) (p := fun j => decide (s2 (20 + j) = nI q)) (q := fun j => decide (s (20 + j) = nI q)) (fun i _ hi2 => by rw [eS _ (by omega)])).1
      omega
    · have := (cnt_le1 (n := r * c) (k := k) (p := fun j => decide (s2 (20 + j) = nI q)) (q := fun j => decide (s (20 + j) = nI q)) (fun i _ hi2 => by rw [eS _ (by omega)])).2.2 (by rw [s20]; exact decide_eq_false (by rw [nI_eq (by omega) (by omega)]; omega))
      have := H.2.2.1.2.2 q hq
      omega
  · have h0 := (H.2.2.2.1.1 i hi d hid).1
    rw [a7, upd_at]
    by_cases e : i * c + d = k
    · obtain ⟨e1, e2⟩ := (k_id hid.2).mp e
      rw [if_pos e1.symm, bt_or, bt_pw (by omega), decide_eq_true e2, Bool.or_true, e, s20, decide_eq_false (nI_nlt0 (by omega))]
      rfl
    · rw [eS _ (by omega)]
      by_cases ei : i = k / c
      · subst ei
        rw [if_pos rfl, bt_or, bt_pw (by omega), decide_eq_false (fun h => e ((k_id hid.2).mpr ⟨rfl, h⟩)), Bool.or_false]
        exact h0
      · rw [if_neg ei]
        exact h0
  · rw [eA 8 (by decide) rfl, eS _ (by have := ixlt hid.1 hid.2; omega)]
    exact (H.2.2.2.1.1 i hi d hid).2.1
  · rw [eA 9 (by decide) rfl, eS _ (by have := ixlt hid.1 hid.2; omega)]
    exact (H.2.2.2.1.1 i hi d hid).2.2
  · have h0 := (H.2.2.2.1.2 i hi d hid).1
    rw [a7, upd_at]
    split
    · rename_i ei
      subst ei
      rw [bt_or, bt_pw (by omega), h0, decide_eq_false (fun h => hid ⟨hkr, by omega⟩)]
      rfl
    · exact h0
  · rw [eA 8 (by decide) rfl]
    exact (H.2.2.2.1.2 i hi d hid).2.1
  · rw [eA 9 (by decide) rfl]
    exact (H.2.2.2.1.2 i hi d hid).2.2
theorem RS_release (H : RSp r c t e dt N A B s φ) (hk : k < r * c)
    (eA : ∀ k, k < 33 → (k == 2 || k == 7) = false → A2 k = A k) (a2 : A2 2 = upd (A 2) k (nm 1)) (a7 : A2 7 = upd (A 7) (k / c) (A 7 (k / c) &&& (pw (k % c) ^^^ nm 1))) (eB : ∀ k, k < 33 → false = false → B2 k = B k)
    (eS : ∀ i, i ≠ 20 + k → s2 i = s i) (s20 : s2 (20 + k) = nm 5) (eF : ∀ i, false = false → φ2 i = φ i) : RSp r c t e dt N A2 B2 s2 φ2 := by
  have hd := H.1.1
  obtain ⟨m48, m0⟩ := mul48 hd
  have hkr := divr hk
  have hkc : k % c < c := Nat.mod_lt k (by omega)
  refine ⟨rDim_c H.1 (congrFun (eA 1 (by decide) rfl) 0) (congrFun (eA 1 (by decide) rfl) 1) (eS 0 (by omega)) (eS 1 (by omega)), rShift_c H.2.1 (fun p hp => congrFun (eA 10 (by decide) rfl) p) (fun p hp => eS _ (by omega)), ⟨fun j hj => ?_, fun j hj hj2 => ?_, fun q hq => ?_⟩, ⟨fun i hi d hid => ⟨?_, ?_, ?_⟩, fun i hi d hid => ⟨?_, ?_, ?_⟩⟩, rKey_c H.2.2.2.2.1 (fun k hk => ⟨congrFun (eA 4 (by decide) rfl) k, congrFun (eA 5 (by decide) rfl) k, congrFun (eA 6 (by decide) rfl) k⟩) (fun k hk => ⟨eS _ (by omega), eS _ (by omega), eS _ (by omega), eS _ (by omega)⟩), rSign_c H.2.2.2.2.2.1 (fun k hk => congrFun (eA 3 (by decide) rfl) k) (fun k hk => eS _ (by omega)), rTyp_c H.2.2.2.2.2.2.1 (fun j _ _ => congrFun (eA 11 (by decide) rfl) j) (fun j _ => congrFun (eA 12 (by decide) rfl) j) (fun j _ => congrFun (eB 11 (by decide) rfl) j) ⟨eS _ (by omega), eS _ (by omega), eS _ (by omega), eS _ (by omega), eS _ (by omega)⟩ (fun j hj => eS _ (by omega)) ⟨eF 0 rfl, eF 2 rfl⟩, rTyp_c H.2.2.2.2.2.2.2.1 (fun j _ _ => congrFun (eA 13 (by decide) rfl) j) (fun j _ => congrFun (eA 14 (by decide) rfl) j) (fun j _ => congrFun (eB 13 (by decide) rfl) j) ⟨eS _ (by omega), eS _ (by omega), eS _ (by omega), eS _ (by omega), eS _ (by omega)⟩ (fun j hj => eS _ (by omega)) ⟨eF 1 rfl, eF 3 rfl⟩, rEnd_c H.2.2.2.2.2.2.2.2.1 (congrFun (eA 15 (by decide) rfl) 0) (fun j hj => ⟨congrFun (eA 16 (by decide) rfl) j, congrFun (eA 17 (by decide) rfl) j, congrFun (eA 18 (by decide) rfl) j, congrFun (eA 19 (by decide) rfl) j, congrFun (eA 20 (by decide) rfl) j, congrFun (eA 21 (by decide) rfl) j⟩) (eS 9 (by omega)) (fun j _ _ => eS _ (by omega)), rDis_c H.2.2.2.2.2.2.2.2.2.1 (congrFun (eA 23 (by decide) rfl) 0) (congrFun (eA 0 (by decide) rfl) 9) (fun j hj => ⟨congrFun (eA 24 (by decide) rfl) j, congrFun (eA 25 (by decide) rfl) j, congrFun (eA 26 (by decide) rfl) j, congrFun (eA 27 (by decide) rfl) j, congrFun (eA 28 (by decide) rfl) j, congrFun (eA 29 (by decide) rfl) j, congrFun (eA 30 (by decide) rfl) j⟩) (eS 16 (by omega)) (fun j _ _ => eS _ (by omega)), rSet_c H.2.2.2.2.2.2.2.2.2.2.1 (fun j hj => ⟨congrFun (eA 32 (by decide) rfl) j, congrFun (eB 31 (by decide) rfl) _⟩) (fun j hj => eF _ (by rcases (show j = 0 ∨ j = 1 ∨ j = 2 by omega) with rfl | rfl | rfl <;> rfl)), rCnt_c H.2.2.2.2.2.2.2.2.2.2.2 ⟨congrFun (eA 0 (by decide) rfl) 6, congrFun (eA 0 (by decide) rfl) 7, congrFun (eA 0 (by decide) rfl) 8⟩ ⟨eS 2 (by omega), eS 14 (by omega), eS 15 (by omega)⟩⟩
  · by_cases e : j = k
    · subst e
      rw [a2, s20, upd_at, if_pos rfl]
      exact .inl ⟨rfl, rfl⟩
    · rw [a2, eS _ (by omega), upd_at, if_neg e]
      exact H.2.2.1.1 j hj
  · rw [a2, upd_at, if_neg (by omega)]
    exact H.2.2.1.2.1 j hj hj2
  · have := (cnt_le1 (n := r * c) (k := k) (p := fun j => decide (s2 (20 + j) = nI q)) (q := fun j => decide (s (20 + j) = nI q)) (fun i _ hi2 => by rw [eS _ (by omega)])).2.2 (by rw [s20]; exact decide_eq_false (by rw [nm_nI (by omega) (by decide) (by decide)]; exact not_false))
    have := H.2.2.1.2.2 q hq
    omega
  · have h0 := (H.2.2.2.1.1 i hi d hid).1
    rw [a7, upd_at]
    by_cases e : i * c + d = k
    · obtain ⟨e1, e2⟩ := (k_id hid.2).mp e
      rw [if_pos e1.symm, bt_and, bt_not, bt_pw (by omega), decide_eq_true e2, e, s20, decide_eq_true (nm_lt0 (by decide) (by decide))]
      simp
    · rw [eS _ (by omega)]
      by_cases ei : i = k / c
      · subst ei
        rw [if_pos rfl, bt_and, bt_not, bt_pw (by omega), decide_eq_false (fun h => e ((k_id hid.2).mpr ⟨rfl, h⟩)), decide_eq_true (show d < 32 by omega)]
        simp only [Bool.not_false, Bool.and_true]
        exact h0
      · rw [if_neg ei]
        exact h0
  · rw [eA 8 (by decide) rfl, eS _ (by have := ixlt hid.1 hid.2; omega)]
    exact (H.2.2.2.1.1 i hi d hid).2.1
  · rw [eA 9 (by decide) rfl, eS _ (by have := ixlt hid.1 hid.2; omega)]
    exact (H.2.2.2.1.1 i hi d hid).2.2
  · have h0 := (H.2.2.2.1.2 i hi d hid).1
    rw [a7, upd_at]
    split
    · rename_i ei
      subst ei
      rw [bt_and, h0]
      rfl
    · exact h0
  · rw [eA 8 (by decide) rfl]
    exact (H.2.2.2.1.2 i hi d hid).2.1
  · rw [eA 9 (by decide) rfl]
    exact (H.2.2.2.1.2 i hi d hid).2.2
end PRESS

