/-! PURE: senses, ghosts -/
section GH
variable {r c t e dt N : Nat} {M : Mem} {s s2 : Nat → Int32} {φ : Nat → UInt32}
theorem hD_no {n : Nat} (hn : n ≤ 48) : ∀ k, k < n → ((if s (20 + k) < nI 0 then nI 0 else nI 1) = (if nI k = nm 1 then nI 1 else nI 0) ↔ s (20 + k) < nI 0) := fun k hk => by
  have h1 : ¬ nI k = nm 1 := by rw [nI_nm (by omega) (by decide) (by decide)]; exact not_false
  rw [if_neg h1]
  by_cases h : s (20 + k) < nI 0
  · rw [if_pos h]
    exact ⟨fun _ => h, fun _ => rfl⟩
  · rw [if_neg h]
    exact ⟨fun q => absurd q (by decide), fun q => absurd q h⟩
theorem hD_oth {n q : Nat} (hn : n ≤ 48) (hq : q < n) : ∀ k, k < n → ((if s (20 + k) < nI 0 then nI 0 else nI 1) = (if nI k = nI q then nI 1 else nI 0) ↔ othR s q (20 + k) < nI 0) := fun k hk => by
  by_cases e : k = q
  · subst e
    rw [if_pos rfl, othR_k]
    by_cases h : s (20 + k) < nI 0
    · rw [if_pos h]
      exact ⟨fun q => absurd q (by decide), fun q => absurd h q⟩
    · rw [if_neg h]
      exact ⟨fun _ => h, fun _ => rfl⟩
  · have h1 : ¬ nI k = nI q := by rw [nI_eq (by omega) (by omega)]; exact e
    rw [if_neg h1, othR_o s e]
    by_cases h : s (20 + k) < nI 0
    · rw [if_pos h]
      exact ⟨fun _ => h, fun _ => rfl⟩
    · rw [if_neg h]
      exact ⟨fun q => absurd q (by decide), fun q => absurd q h⟩
theorem a_senses (H : CV r c t e dt N M s φ) (hN : N < 2 ^ 30) (h12 : r + c ≤ 12) {k : Nat} (hk : k < r * c) {fl : Int32}
    (hD : ∀ k, k < r * c → ((if s (20 + k) < nI 0 then nI 0 else nI 1) = (if nI k = fl then nI 1 else nI 0) ↔ s2 (20 + k) < nI 0)) : fL_senses 0 (nI k) fl M = some (b2 (bt (sw (Dm s2 r c) (k / c)) (k % c)), M) := by
  have hd := H.hd
  have m48 := H.m48
  obtain ⟨_, _, h2, _⟩ := a_count H hN
  have hkc : k % c < c := Nat.mod_lt k (by omega)
  unfold fL_senses
  simp (disch := omega) only [nlit', h2, cal_x, nzb_nI, asr_x, nI_div, nI_rem, a_sensed H hN h12 (divr hk) hD, shr_1]
  cases bt (sw (Dm s2 r c) (k / c)) (k % c) <;> rfl
theorem i32_5 (a b x y : Int32) : (a - b) + (x - y) = (a + x) - (b + y) := by grind
theorem b2_01 (b : Bool) : b2 b = nI (if b = true then 1 else 0) := by cases b <;> rfl
theorem a_ghosts (H : CV r c t e dt N M s φ) (hN : N < 2 ^ 30) (h12 : r + c ≤ 12) {q : Nat} (hq : q < r * c) : fL_ghosts 0 (nI q) M = some (nI 1, M) := by
  have m48 := H.m48
  have hkeys := a_keys H hN
  unfold fL_ghosts
  simp only [nlit']
  refine wp_eq (lp_for (r * c) (fun j b M1 => M1 = M ∧ b = (nI (100 + cnt j (fun j => bt (sw (Dm s r c) (j / c)) (j % c) && (decide (j ≠ q) && decide (s (20 + j) < nI 0)))) - nI (cnt j (fun j => bt (sw (Dm (othR s q) r c) (j / c)) (j % c) && (decide (j ≠ q) && decide (s (20 + j) < nI 0)))), nI j)) (by omega) ⟨rfl, by rw [cnt_0, cnt_0]; exact Prod.ext (by decide) rfl⟩ ?_ ?_)
  · rintro j b M1 rec hj ⟨rfl, rfl⟩ kk
    have hkey := (a_key H hN hj).1
    have hs1 := a_senses H hN h12 hj (hD_no (s := s) m48)
    have hs2 := a_senses H hN h12 hj (hD_oth (s := s) m48 hq)
    unfold FL_ghosts_5
    simp (disch := omega) only [nlit', nm_x, hkeys, cal_x, nI_leI, show ¬ r * c ≤ j by omega, if_false, nI_eq, hkey, hs1, hs2, nI_add]
    rw [jn_x]
    by_cases e1 : j = q
    · rw [if_pos e1]
      refine kk _ _ ⟨rfl, ?_⟩
      rw [cnt_succ, cnt_succ, decide_eq_false (show ¬ j ≠ q from fun h => h e1), Bool.false_and, Bool.and_false, Bool.and_false]
      rfl
    · rw [if_neg e1]
      by_cases h : s (20 + j) < nI 0
      · rw [if_neg (show ¬ nI 0 ≤ s (20 + j) by rw [le0]; exact fun h2 => h2 h), jn_x]
        have step : ∀ (x y : Bool), wp (rec (nI (100 + cnt j (fun j => bt (sw (Dm s r c) (j / c)) (j % c) && (decide (j ≠ q) && decide (s (20 + j) < nI 0)))) - nI (cnt j (fun j => bt (sw (Dm (othR s q) r c) (j / c)) (j % c) && (decide (j ≠ q) && decide (s (20 + j) < nI 0)))) + (b2 x - b2 y), nI (j + 1)) M1) (fun v1 M2 => v1 = nI 1 ∧ M2 = M1) ∨ ¬ (x = bt (sw (Dm s r c) (j / c)) (j % c) ∧ y = bt (sw (Dm (othR s q) r c) (j / c)) (j % c)) := fun x y => by
          by_cases hxy : x = bt (sw (Dm s r c) (j / c)) (j % c) ∧ y = bt (sw (Dm (othR s q) r c) (j / c)) (j % c)
          · obtain ⟨rfl, rfl⟩ := hxy
            refine .inl (kk _ _ ⟨rfl, ?_⟩)
            rw [i32_5, b2_01, b2_01, nI_add, nI_add, cnt_succ, cnt_succ, decide_eq_true (show j ≠ q from e1), decide_eq_true h, Bool.and_true, Bool.and_true, Bool.and_true, Nat.add_assoc]
          · exact .inr hxy
        have fin := (step _ _).resolve_right (fun h => h ⟨rfl, rfl⟩)
        cases hx : bt (sw (Dm s r c) (j / c)) (j % c) <;> cases hy : bt (sw (Dm (othR s q) r c) (j / c)) (j % c) <;> rw [hx, hy] at fin <;> simp only [hx, hy, b2_t, b2_f, n10, if_true, if_false, hs2, cal_x, jn_x] at fin ⊢ <;> exact fin
      · rw [if_pos (show nI 0 ≤ s (20 + j) by rw [le0]; exact h)]
        refine kk _ _ ⟨rfl, ?_⟩
        rw [cnt_succ, cnt_succ, decide_eq_false h, Bool.and_false, Bool.and_false, Bool.and_false]
        rfl
  · rintro b M1 rec ⟨rfl, rfl⟩
    unfold FL_ghosts_5
    simp (disch := omega) only [nlit', hkeys, cal_x, nI_leI, Nat.le_refl, if_true, a_ghostsBy H hq, wp_some, and_self]
end GH
