/-! PURE: build -/
theorem wp_eqU {x : Option (Unit × Mem)} {M : Mem} (h : wp x (fun _ M1 => M1 = M)) : x = some ((), M) := by
  obtain ⟨v1, M1, e, rfl⟩ := h
  exact e
theorem e_fill {a : Nat} {v : Int32} (M : Mem) : fJ7_fill_53178 a v M = some ((), wa M a (cpv (M.1 a) (fun _ => v) (ln a))) := by
  have hl := ln_lt a
  unfold fJ7_fill_53178
  refine wp_eqU (lp_for (ln a) (fun i b M1 => b = nI i ∧ M1 = wa M a (cpv (M.1 a) (fun _ => v) i)) (by omega) ⟨rfl, by rw [cpv_0, wa_id rfl]⟩ ?_ ?_)
  · rintro i b M1 rec hi ⟨rfl, rfl⟩ kk
    unfold FJ7_fill_53178_5
    simp (disch := omega) only [nlit, nI_add, nI_leI, show ¬ (ln a ≤ i) by omega, if_false, inb_nI, asr_e, bnd_e, nI_clamp]
    refine kk _ _ ⟨rfl, ?_⟩
    rw [w1_wa]
    exact congrArg (wa M a) (cpv_succ (M.1 a) (fun _ => v) i)
  · rintro b M1 rec ⟨rfl, rfl⟩
    unfold FJ7_fill_53178_5
    rw [if_pos (nI_le (Nat.le_refl _) (by omega)), wp_some]
def ck (s : Nat → Int32) (n : Nat) : Nat → Int32 := fun i => if 20 ≤ i ∧ i < 20 + n then nm 5 else if 68 ≤ i ∧ i < 68 + n then nm 5 else if 116 ≤ i ∧ i < 116 + n then nI 0 else if 164 ≤ i ∧ i < 164 + n then nI 0 else if 212 ≤ i ∧ i < 212 + n then nm 5 else if 260 ≤ i ∧ i < 260 + n then nI 46 else s i
theorem ck_succ (s : Nat → Int32) {n : Nat} (hn : n < 48) : upd (upd (upd (upd (upd (upd (ck s n) (20 + n) (nm 5)) (68 + n) (nm 5)) (116 + n) (nI 0)) (164 + n) (nI 0)) (212 + n) (nm 5)) (260 + n) (nI 46) = ck s (n + 1) := by
  funext i
  unfold upd ck
  grind (splits := 40)
theorem ck_lo {s : Nat → Int32} {n i : Nat} (h : i < 20) : ck s n i = s i := by
  unfold ck
  rw [if_neg (by omega), if_neg (by omega), if_neg (by omega), if_neg (by omega), if_neg (by omega), if_neg (by omega)]
theorem ck_hi {s : Nat → Int32} {i : Nat} (h : 308 ≤ i) : ck s 48 i = s i := by
  unfold ck
  rw [if_neg (by omega), if_neg (by omega), if_neg (by omega), if_neg (by omega), if_neg (by omega), if_neg (by omega)]
theorem ck_k {s : Nat → Int32} {k : Nat} (h : k < 48) : ck s 48 (20 + k) = nm 5 ∧ ck s 48 (68 + k) = nm 5 ∧ ck s 48 (116 + k) = nI 0 ∧ ck s 48 (164 + k) = nI 0 ∧ ck s 48 (212 + k) = nm 5 ∧ ck s 48 (260 + k) = nI 46 := by
  unfold ck
  grind (splits := 40)
theorem RS_build {A A2 : Nat → Nat → Int32} {B B2 : Nat → Nat → UInt32} {s s2 : Nat → Int32} {φ φ2 : Nat → UInt32} {r c t e dt N r2 c2 : Nat} (H : RSp r c t e dt N A B s φ) (hN : N < 2 ^ 30) (hd2 : 2 ≤ r2 ∧ r2 ≤ 6 ∧ 2 ≤ c2 ∧ c2 ≤ 8)
    (hfr : ∀ k, k < r * c → s (20 + k) < nI 0 ∧ s (68 + k) < nI 0)
    (eA : ∀ k, k < 33 → (k == 1 || k == 3 || k == 10) = false → A2 k = A k) (a1 : A2 1 0 = nI r2 ∧ A2 1 1 = nI c2) (a3 : ∀ j, j < 48 → A2 3 j = nI 46) (a10 : ∀ p, p < 2 → A2 10 p = nm 1) (eB : ∀ k, k < 33 → false = false → B2 k = B k)
    (s0 : s2 0 = nI r2 ∧ s2 1 = nI c2 ∧ s2 5 = nm 5 ∧ s2 6 = nm 5) (eS : ∀ i, i ≠ 0 → i ≠ 1 → i ≠ 5 → i ≠ 6 → (i < 20 ∨ 308 ≤ i) → s2 i = s i) (sk : ∀ k, k < 48 → s2 (20 + k) = nm 5 ∧ s2 (68 + k) = nm 5 ∧ s2 (116 + k) = nI 0 ∧ s2 (164 + k) = nI 0 ∧ s2 (212 + k) = nm 5 ∧ s2 (260 + k) = nI 46) (eF : ∀ i, false = false → φ2 i = φ i) : RSp r2 c2 t e dt N A2 B2 s2 φ2 := by
  have hd := H.1.1
  obtain ⟨m48, m0⟩ := mul48 hd
  obtain ⟨m482, m02⟩ := mul48 hd2
  have h5 : nm 5 < nI 0 := nm_lt0 (by decide) (by decide)
  have hz : ∀ i, i < 6 → ∀ d, bt (A 7 i) d = false ∧ bt (A 8 i) d = false ∧ bt (A 9 i) d = false := fun i hi d => by
    by_cases hid : i < r ∧ d < c
    · have hk := ixlt hid.1 hid.2
      obtain ⟨g1, g2, g3⟩ := H.2.2.2.1.1 i hi d hid
      obtain ⟨q1, q2⟩ := hfr _ hk
      rw [g1, g2, g3, decide_eq_true q1, decide_eq_true q2]
      refine ⟨rfl, rfl, ?_⟩
      rcases H.2.2.2.2.1 _ hk with ⟨_, z⟩ | ⟨⟨u, hu, z, _⟩, _⟩
      · rw [z]
        decide
      · rw [z] at q2
        have := H.2.2.2.2.2.2.2.2.2.2.2.1
        exact absurd q2 (nI_nlt0 (by omega))
    · exact H.2.2.2.1.2 i hi d hid
  refine ⟨⟨hd2, a1.1, a1.2, s0.1, s0.2.1⟩, fun p hp => ?_, ⟨fun k hk => ?_, fun k hk hk2 => ?_, fun p hp => ?_⟩, ⟨fun i hi d hid => ⟨?_, ?_, ?_⟩, fun i hi d hid => ⟨?_, ?_, ?_⟩⟩, fun k hk => ?_, fun k hk => ?_, rTyp_c H.2.2.2.2.2.2.1 (fun j _ _ => congrFun (eA 11 (by decide) rfl) j) (fun j _ => congrFun (eA 12 (by decide) rfl) j) (fun j _ => congrFun (eB 11 (by decide) rfl) j) ⟨eS _ (by omega) (by omega) (by omega) (by omega) (by omega), eS _ (by omega) (by omega) (by omega) (by omega) (by omega), eS _ (by omega) (by omega) (by omega) (by omega) (by omega), eS _ (by omega) (by omega) (by omega) (by omega) (by omega), eS _ (by omega) (by omega) (by omega) (by omega) (by omega)⟩ (fun j hj => eS _ (by omega) (by omega) (by omega) (by omega) (by omega)) ⟨eF 0 rfl, eF 2 rfl⟩, rTyp_c H.2.2.2.2.2.2.2.1 (fun j _ _ => congrFun (eA 13 (by decide) rfl) j) (fun j _ => congrFun (eA 14 (by decide) rfl) j) (fun j _ => congrFun (eB 13 (by decide) rfl) j) ⟨eS _ (by omega) (by omega) (by omega) (by omega) (by omega), eS _ (by omega) (by omega) (by omega) (by omega) (by omega), eS _ (by omega) (by omega) (by omega) (by omega) (by omega), eS _ (by omega) (by omega) (by omega) (by omega) (by omega), eS _ (by omega) (by omega) (by omega) (by omega) (by omega)⟩ (fun j hj => eS _ (by omega) (by omega) (by omega) (by omega) (by omega)) ⟨eF 1 rfl, eF 3 rfl⟩, rEnd_c H.2.2.2.2.2.2.2.2.1 (congrFun (eA 15 (by decide) rfl) 0) (fun j hj => ⟨congrFun (eA 16 (by decide) rfl) j, congrFun (eA 17 (by decide) rfl) j, congrFun (eA 18 (by decide) rfl) j, congrFun (eA 19 (by decide) rfl) j, congrFun (eA 20 (by decide) rfl) j, congrFun (eA 21 (by decide) rfl) j⟩) (eS 9 (by omega) (by omega) (by omega) (by omega) (by omega)) (fun j _ _ => eS _ (by omega) (by omega) (by omega) (by omega) (by omega)), rDis_c H.2.2.2.2.2.2.2.2.2.1 (congrFun (eA 23 (by decide) rfl) 0) (congrFun (eA 0 (by decide) rfl) 9) (fun j hj => ⟨congrFun (eA 24 (by decide) rfl) j, congrFun (eA 25 (by decide) rfl) j, congrFun (eA 26 (by decide) rfl) j, congrFun (eA 27 (by decide) rfl) j, congrFun (eA 28 (by decide) rfl) j, congrFun (eA 29 (by decide) rfl) j, congrFun (eA 30 (by decide) rfl) j⟩) (eS 16 (by omega) (by omega) (by omega) (by omega) (by omega)) (fun j _ _ => eS _ (by omega) (by omega) (by omega) (by omega) (by omega)), rSet_c H.2.2.2.2.2.2.2.2.2.2.1 (fun j hj => ⟨congrFun (eA 32 (by decide) rfl) j, congrFun (eB 31 (by decide) rfl) _⟩) (fun j hj => eF _ (by rcases (show j = 0 ∨ j = 1 ∨ j = 2 by omega) with rfl | rfl | rfl <;> rfl)), rCnt_c H.2.2.2.2.2.2.2.2.2.2.2 ⟨congrFun (eA 0 (by decide) rfl) 6, congrFun (eA 0 (by decide) rfl) 7, congrFun (eA 0 (by decide) rfl) 8⟩ ⟨eS 2 (by omega) (by omega) (by omega) (by omega) (by omega), eS 14 (by omega) (by omega) (by omega) (by omega) (by omega), eS 15 (by omega) (by omega) (by omega) (by omega) (by omega)⟩⟩
  · rw [a10 p hp]
    rcases (show p = 0 ∨ p = 1 by omega) with rfl | rfl
    · exact .inl ⟨rfl, s0.2.2.1⟩
    · exact .inl ⟨rfl, s0.2.2.2⟩
  · rw [eA 2 (by decide) rfl, (sk k (by omega)).1]
    refine .inl ⟨?_, rfl⟩
    by_cases hk1 : k < r * c
    · rcases H.2.2.1.1 k hk1 with ⟨z, _⟩ | ⟨j, hj, _, z⟩
      · exact z
      · have := (hfr k hk1).1
        rw [z] at this
        exact absurd this (nI_nlt0 (by omega))
    · exact H.2.2.1.2.1 k (by omega) (by omega)
  · rw [eA 2 (by decide) rfl]
    by_cases hk1 : k < r * c
    · rcases H.2.2.1.1 k hk1 with ⟨z, _⟩ | ⟨j, hj, _, z⟩
      · exact z
      · have := (hfr k hk1).1
        rw [z] at this
        exact absurd this (nI_nlt0 (by omega))
    · exact H.2.2.1.2.1 k (by omega) hk2
  · rw [cnt_zero.mpr (fun k hk => decide_eq_false (by rw [(sk k (by omega)).1, nm_nI (by omega) (by decide) (by decide)]; exact not_false))]
    omega
  · have hk := ixlt hid.1 hid.2
    rw [eA 7 (by decide) rfl, (hz i hi d).1, (sk _ (by omega)).1, decide_eq_true h5]
    rfl
  · have hk := ixlt hid.1 hid.2
    rw [eA 8 (by decide) rfl, (hz i hi d).2.1, (sk _ (by omega)).2.1, decide_eq_true h5]
    rfl
  · have hk := ixlt hid.1 hid.2
    rw [eA 9 (by decide) rfl, (hz i hi d).2.2, (sk _ (by omega)).2.2.1]
    decide
  · rw [eA 7 (by decide) rfl]
    exact (hz i hi d).1
  · rw [eA 8 (by decide) rfl]
    exact (hz i hi d).2.1
  · rw [eA 9 (by decide) rfl]
    exact (hz i hi d).2.2
  · exact .inl ⟨(sk k (by omega)).2.1, (sk k (by omega)).2.2.1⟩
  · rw [a3 k (by omega), (sk k (by omega)).2.2.2.2.2]

