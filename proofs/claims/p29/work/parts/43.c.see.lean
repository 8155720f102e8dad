/-! PURE: a tick: keys become seen, in the class (2) -/
theorem on_v2 (x y : Bool) : ((if b2 x = (0 : Int32) then (0 : Int32) else 1) + (if b2 y = (0 : Int32) then (0 : Int32) else 2)) = nI (onN x y) := by
  cases x <;> cases y <;> decide
section SEE2
variable {r c t e dt N i : Nat} {M M1 : Mem} {s : Nat → Int32} {φ : Nat → UInt32} {f : Int32} {g : Nat → Bool}
theorem rC_lo {x : Nat} (h : x < 68) : rC s r c i t g x = s x := by
  unfold rC rB rA
  rw [mark_o (by omega), mark_o (by omega), mark_o (by omega), mark_o (by omega)]
theorem rB_lo {x : Nat} (h : x < 68) : rB s r c i t g x = s x := by
  unfold rB rA
  rw [mark_o (by omega), mark_o (by omega)]
theorem rC_hi {x : Nat} (hic : i * c + c ≤ 48) (h : 260 ≤ x) : rC s r c i t g x = s x := by
  unfold rC rB rA
  rw [mark_o (by omega), mark_o (by omega), mark_o (by omega), mark_o (by omega)]
theorem rB_68 {k : Nat} (h : k < 48) : rB s r c i t g (68 + k) = rA s c i t g (68 + k) := by
  unfold rB
  rw [mark_o (by omega)]
theorem rC_68 {k : Nat} (h : k < 48) : rC s r c i t g (68 + k) = rA s c i t g (68 + k) := by
  unfold rC
  rw [mark_o (by omega), mark_o (by omega), rB_68 h]
theorem rC_116 {k : Nat} (h : k < 48) : rC s r c i t g (116 + k) = rB s r c i t g (116 + k) := by
  unfold rC
  rw [mark_o (by omega), mark_o (by omega)]
theorem rA_116 {k : Nat} (hic : i * c + c ≤ 48) : rA s c i t g (116 + k) = s (116 + k) := by
  unfold rA
  rw [mark_o (by omega)]
theorem rC_164 {k : Nat} (hc : 0 < c) (hic : i * c + c ≤ 48) (h : k < 48) : rC s r c i t g (164 + k) = if k / c = i ∧ g (k % c) = true then nI (rO s r c i t g) else s (164 + k) := by
  unfold rC
  rw [mark_o (by omega), mark_kk hc]
  unfold rB rA
  rw [mark_o (by omega), mark_o (by omega)]
theorem rC_212 {k : Nat} (hc : 0 < c) (hic : i * c + c ≤ 48) (h : k < 48) : rC s r c i t g (212 + k) = if k / c = i ∧ g (k % c) = true then s (20 + (i * c + k % c)) else s (212 + k) := by
  unfold rC
  rw [mark_kk hc, mark_o (by omega)]
  unfold rB rA
  rw [mark_o (by omega), mark_o (by omega)]
theorem h01_B (H : CV r c t e dt N M s φ) (hi : i < r) {k : Nat} (hk : k < r * c) : rB s r c i t g (116 + k) = nI 0 ∨ rB s r c i t g (116 + k) = nI 1 := by
  have hd := H.hd
  have m48 := H.m48
  have hic := row_le (c := c) hi
  unfold rB
  rw [mark_kk (by omega)]
  split
  · cases corV (rA s c i t g) r c i (k % c)
    · exact .inl rfl
    · exact .inr rfl
  · rw [rA_116 (by omega)]
    exact h01_s H hk
theorem e_see (H : CV r c t e dt N M s φ) (hi : i < r) (ht : t < 2 ^ 30) (hf0 : ∀ d, ¬ d < c → bt f d = false) (hfr : ∀ d, d < c → bt f d = true → s (68 + (i * c + d)) < nI 0) :
    wp (fX0_see 2 (nI i) f (nI t) M) (fun _ M1 => SeeM s r c i t f M M1) := by
  have hd := H.hd
  have m48 := H.m48
  have hic := row_le (c := c) hi
  have h9 : i < ln 9 := by rw [ln_9]; omega
  unfold fX0_see
  rw [show 2 + 7 = 9 from rfl, e_at M h9, cal_x, e_put _ h9, cal_x]
  have a9 : (w1 M 9 i (M.1 9 i ||| f)).1 9 = upd (M.1 9) i (M.1 9 i ||| f) := w1_self
  have ao : ∀ k, k ≠ 9 → (w1 M 9 i (M.1 9 i ||| f)).1 k = M.1 k := fun k hk => w1_o hk
  refine l_see21 hd (by rw [ao 2 (by omega)]; exact H.hr) (by rw [ao 2 (by omega)]; exact H.hc) hi ht (fun d hdc => ?_) (fun M1 g1 g2 g3 g4 g5 => ?_)
  · rw [a9, upd_self, bt_or, (H.bit0 (by omega) (by omega)).2.1, hf0 d hdc]
    rfl
  have b9 : M1.1 9 = upd (M.1 9) i (M.1 9 i ||| f) := by rw [g1 9 (by omega) (by omega), a9]
  have bo : ∀ k, k ≠ 5 → k ≠ 9 → k ≠ 10 → M1.1 k = M.1 k := fun k h1 h2 h3 => by rw [g1 k h1 h3, ao k h2]
  have b10 : ∀ j, j ≠ i → M1.1 10 j = M.1 10 j := fun j hj => by rw [g4 j hj, ao 10 (by omega)]
  have b10i : ∀ d, bt (M1.1 10 i) d = (bt (M.1 10 i) d || (decide (d < c) && (bt f d && corV (rA s c i t (bt f)) r c i d))) := fun d => by
    rw [g5 d, ao 10 (by omega)]
    by_cases hdc : d < c
    · rw [show corB (fun j d => bt ((w1 M 9 i (M.1 9 i ||| f)).1 9 j) d) r c i d = corV (rA s c i t (bt f)) r c i d from corB_congr hi hdc (fun j hj d hd2 => by rw [a9]; exact seen_A H hi ht hj hd2)]
    · rw [decide_eq_false hdc, Bool.false_and, Bool.false_and]
  have hon : ∀ p, p < 2 → fX0_isShiftOn 2 (nI p) M1 = some (b2 (onv (rB s r c i t (bt f)) p), M1) := fun p hp => by
    refine e_isOn hd (by rw [bo 2 (by omega) (by omega) (by omega)]; exact H.hc) hp (by rw [bo 11 (by omega) (by omega) (by omega), rB_lo (by omega)]; exact H.shift hp) (fun k hk => ⟨?_, ?_⟩) (fun k hk => h01_B H hi hk)
    · rw [b9, seen_A H hi ht (divr hk) (Nat.mod_lt k (by omega)), divmod, rB_68 (by omega)]
    · have := doubt_B H hi ht hfr (g := M1.1 10) b10 b10i (divr hk) (Nat.mod_lt k (show 0 < c by omega))
      rw [divmod] at this
      exact this
  have on0 : fX0_isShiftOn 2 0 M1 = some (b2 (onv (rB s r c i t (bt f)) 0), M1) := hon 0 (by omega)
  have on1 : fX0_isShiftOn 2 1 M1 = some (b2 (onv (rB s r c i t (bt f)) 1), M1) := hon 1 (by omega)
  simp only [on0, on1, cal_x, jn_ite, on_v2]
  refine l_see127 hd (by rw [bo 2 (by omega) (by omega) (by omega)]; exact H.hc) hi (fun M2 k1 k2 k3 k4 => ?_)
  refine ⟨fun k h1 h2 h3 h4 h5 => by rw [k1 k h2 h3, bo k h1 h4 h5], by rw [k2, g2, w1_2], by rw [k1 9 (by omega) (by omega), b9], by rw [k1 5 (by omega) (by omega), g3, ao 5 (by omega)], fun j hj => by rw [k1 10 (by omega) (by omega), b10 j hj], fun d => by rw [k1 10 (by omega) (by omega), b10i d], ?_, ?_⟩
  · rw [k3, bo 6 (by omega) (by omega) (by omega)]
    rfl
  · rw [k4, bo 7 (by omega) (by omega) (by omega), bo 3 (by omega) (by omega) (by omega)]
theorem SeeM_0 (hf : f = nI 0) : SeeM s r c i t f M M := by
  subst hf
  refine ⟨fun k _ _ _ _ _ => rfl, rfl, ?_, ?_, fun j _ => rfl, fun d => ?_, ?_, ?_⟩
  · rw [or_0]
    funext j
    rw [upd_at]
    split
    · rename_i h
      rw [h]
    · rfl
  · rw [mark_none (fun d _ => bt_0 d)]
  · rw [bt_0, Bool.false_and, Bool.and_false, Bool.or_false]
  · rw [mark_none (fun d _ => bt_0 d)]
  · rw [mark_none (fun d _ => bt_0 d)]
theorem CV_see (H : CV r c t e dt N M s φ) (hi : i < r) (ht : t < 2 ^ 30) (hf0 : ∀ d, ¬ d < c → bt f d = false) (hfr : ∀ d, d < c → bt f d = true → s (68 + (i * c + d)) < nI 0) (hS : SeeM s r c i t f M M1) :
    CV r c (t + 1) e dt (N + 1) (w1 M1 1 6 (nI (t + 1))) (upd (rC s r c i t (bt f)) 2 (nI (t + 1))) φ := by
  obtain ⟨q0, qF, q9, q5, q10, q10i, q6, q7⟩ := hS
  have H2 := H.mono (show N ≤ N + 1 by omega)
  have hd := H.hd
  have m48 := H.m48
  have hic := row_le (c := c) hi
  have eA : ∀ k, k < 33 → (k == 0 || (k == 4 || (k == 5 || (k == 6 || (k == 8 || k == 9))))) = false → vA (w1 M1 1 6 (nI (t + 1))) 1 k = vA M 1 k := fun k _ hx => by
    simp only [Bool.or_eq_false_iff, beq_eq_false_iff_ne] at hx
    show (w1 M1 1 6 _).1 (1 + k) = M.1 (1 + k)
    rw [w1_o (by omega), q0 _ (by omega) (by omega) (by omega) (by omega) (by omega)]
  have eB : ∀ k, k < 33 → false = false → vB (w1 M1 1 6 (nI (t + 1))) 1 k = vB M 1 k := fun k _ _ => congrFun (show (w1 M1 1 6 (nI (t + 1))).2 = M.2 from qF) (1 + k)
  have eS : ∀ x, x ≠ 2 → (x < 68 ∨ 260 ≤ x) → upd (rC s r c i t (bt f)) 2 (nI (t + 1)) x = s x := fun x h1 h2 => by
    rw [upd_ne h1]
    rcases h2 with h | h
    · exact rC_lo h
    · exact rC_hi (by omega) h
  have eF : ∀ x, false = false → φ x = φ x := fun _ _ => rfl
  have a9 : vA (w1 M1 1 6 (nI (t + 1))) 1 8 = upd (M.1 9) i (M.1 9 i ||| f) := by
    show (w1 M1 1 6 _).1 9 = _
    rw [w1_o (by omega), q9]
  have a10 : vA (w1 M1 1 6 (nI (t + 1))) 1 9 = M1.1 10 := by
    show (w1 M1 1 6 _).1 10 = _
    rw [w1_o (by omega)]
  have a0 : ∀ j, j ≠ 6 → vA (w1 M1 1 6 (nI (t + 1))) 1 0 j = M.1 1 j := fun j hj => by
    show (w1 M1 1 6 _).1 1 j = _
    rw [w1_ne (by omega), q0 1 (by omega) (by omega) (by omega) (by omega) (by omega)]
  have e9 : vA (w1 M1 1 6 (nI (t + 1))) 1 0 9 = vA M 1 0 9 := a0 9 (by omega)
  refine ⟨rDim_c H2.1 (congrFun (eA 1 (by decide) rfl) 0) (congrFun (eA 1 (by decide) rfl) 1) (eS 0 (by omega) (by omega)) (eS 1 (by omega) (by omega)), rShift_c H2.2.1 (fun p hp => congrFun (eA 10 (by decide) rfl) p) (fun p hp => eS _ (by omega) (by omega)), rHold_c H2.2.2.1 (fun k hk => congrFun (eA 2 (by decide) rfl) k) (fun k hk => eS _ (by omega) (by omega)) m48, ⟨fun j hj d hid => ⟨?_, ?_, ?_⟩, fun j hj d hid => ⟨?_, ?_, ?_⟩⟩, fun k hk => ?_, rSign_c H2.2.2.2.2.2.1 (fun k hk => congrFun (eA 3 (by decide) rfl) k) (fun k hk => eS _ (by omega) (by omega)), rTyp_c H2.2.2.2.2.2.2.1 (fun j _ _ => congrFun (eA 11 (by decide) rfl) j) (fun j _ => congrFun (eA 12 (by decide) rfl) j) (fun j _ => congrFun (eB 11 (by decide) rfl) j) ⟨eS _ (by omega) (by omega), eS _ (by omega) (by omega), eS _ (by omega) (by omega), eS _ (by omega) (by omega), eS _ (by omega) (by omega)⟩ (fun j hj => eS _ (by omega) (by omega)) ⟨eF 0 rfl, eF 2 rfl⟩, rTyp_c H2.2.2.2.2.2.2.2.1 (fun j _ _ => congrFun (eA 13 (by decide) rfl) j) (fun j _ => congrFun (eA 14 (by decide) rfl) j) (fun j _ => congrFun (eB 13 (by decide) rfl) j) ⟨eS _ (by omega) (by omega), eS _ (by omega) (by omega), eS _ (by omega) (by omega), eS _ (by omega) (by omega), eS _ (by omega) (by omega)⟩ (fun j hj => eS _ (by omega) (by omega)) ⟨eF 1 rfl, eF 3 rfl⟩, rEnd_c H2.2.2.2.2.2.2.2.2.1 (congrFun (eA 15 (by decide) rfl) 0) (fun j hj => ⟨congrFun (eA 16 (by decide) rfl) j, congrFun (eA 17 (by decide) rfl) j, congrFun (eA 18 (by decide) rfl) j, congrFun (eA 19 (by decide) rfl) j, congrFun (eA 20 (by decide) rfl) j, congrFun (eA 21 (by decide) rfl) j⟩) (eS 9 (by omega) (by omega)) (fun j _ _ => eS _ (by omega) (by omega)), rDis_c H2.2.2.2.2.2.2.2.2.2.1 (congrFun (eA 23 (by decide) rfl) 0) e9 (fun j hj => ⟨congrFun (eA 24 (by decide) rfl) j, congrFun (eA 25 (by decide) rfl) j, congrFun (eA 26 (by decide) rfl) j, congrFun (eA 27 (by decide) rfl) j, congrFun (eA 28 (by decide) rfl) j, congrFun (eA 29 (by decide) rfl) j, congrFun (eA 30 (by decide) rfl) j⟩) (eS 16 (by omega) (by omega)) (fun j _ _ => eS _ (by omega) (by omega)), rSet_c H2.2.2.2.2.2.2.2.2.2.2.1 (fun j hj => ⟨congrFun (eA 32 (by decide) rfl) j, congrFun (eB 31 (by decide) rfl) _⟩) (fun j hj => eF _ (by rcases (show j = 0 ∨ j = 1 ∨ j = 2 by omega) with rfl | rfl | rfl <;> rfl)), ⟨by have := H.tN; omega, ?_, ?_, ?_, ?_⟩⟩
  · rw [eA 7 (by decide) rfl, eS _ (by omega) (by have := ixlt hid.1 hid.2; omega)]
    exact (H.2.2.2.1.1 j hj d hid).1
  · rw [a9, seen_A H hi ht hid.1 hid.2, upd_ne (by omega), rC_68 (by have := ixlt hid.1 hid.2; omega)]
  · rw [a10, upd_ne (by omega), rC_116 (by have := ixlt hid.1 hid.2; omega)]
    exact doubt_B H hi ht hfr q10 q10i hid.1 hid.2
  · rw [eA 7 (by decide) rfl]
    exact (H.2.2.2.1.2 j hj d hid).1
  · have h0 := (H.bit0 hj hid).2.1
    rw [a9, upd_at]
    split
    · rename_i hji
      subst hji
      rw [bt_or, h0, hf0 d (fun h => hid ⟨hi, h⟩)]
      rfl
    · exact h0
  · have h0 := (H.bit0 hj hid).2.2
    rw [a10]
    by_cases hji : j = i
    · subst hji
      rw [q10i d, h0, decide_eq_false (fun h => hid ⟨hi, h⟩)]
      rfl
    · rw [q10 j hji]
      exact h0
  · have hc0 : 0 < c := by omega
    have k48 : k < 48 := by omega
    have z68 : upd (rC s r c i t (bt f)) 2 (nI (t + 1)) (68 + k) = if k / c = i ∧ bt f (k % c) = true then nI t else s (68 + k) := by
      rw [upd_ne (by omega), rC_68 k48]
      exact mark_kk hc0
    have z116 : upd (rC s r c i t (bt f)) 2 (nI (t + 1)) (116 + k) = if k / c = i ∧ bt f (k % c) = true then b2 (corV (rA s c i t (bt f)) r c i (k % c)) else s (116 + k) := by
      rw [upd_ne (by omega), rC_116 k48, ← rA_116 (s := s) (t := t) (g := bt f) (i := i) (c := c) (by omega)]
      exact mark_kk hc0
    have z164 := (upd_ne (f := rC s r c i t (bt f)) (x := nI (t + 1)) (show ¬ 164 + k = 2 by omega)).trans (rC_164 (s := s) (r := r) (t := t) (g := bt f) (i := i) hc0 (show i * c + c ≤ 48 by omega) k48)
    have z212 := (upd_ne (f := rC s r c i t (bt f)) (x := nI (t + 1)) (show ¬ 212 + k = 2 by omega)).trans (rC_212 (s := s) (r := r) (t := t) (g := bt f) (i := i) hc0 (show i * c + c ≤ 48 by omega) k48)
    have a5 : vA (w1 M1 1 6 (nI (t + 1))) 1 4 k = if k / c = i ∧ bt f (k % c) = true then nI t else M.1 5 k := by
      show (w1 M1 1 6 _).1 5 k = _
      rw [w1_o (by omega), q5]
      exact mark_k0 hc0
    have a6 : vA (w1 M1 1 6 (nI (t + 1))) 1 5 k = if k / c = i ∧ bt f (k % c) = true then nI (rO s r c i t (bt f)) else M.1 6 k := by
      show (w1 M1 1 6 _).1 6 k = _
      rw [w1_o (by omega), q6]
      exact mark_k0 hc0
    have a7 : vA (w1 M1 1 6 (nI (t + 1))) 1 6 k = if k / c = i ∧ bt f (k % c) = true then M.1 3 (i * c + k % c) else M.1 7 k := by
      show (w1 M1 1 6 _).1 7 k = _
      rw [w1_o (by omega), q7]
      exact mark_k0 hc0
    rw [z68, z116, z164, z212, a5, a6, a7]
    by_cases hh : k / c = i ∧ bt f (k % c) = true
    · rw [if_pos hh, if_pos hh, if_pos hh, if_pos hh, if_pos hh, if_pos hh, if_pos hh]
      refine .inr ⟨⟨t, by omega, rfl, rfl⟩, ?_, ⟨_, onN_lt _ _, rfl, rfl⟩, ?_⟩
      · cases corV (rA s c i t (bt f)) r c i (k % c)
        · exact .inl rfl
        · exact .inr rfl
      · exact H.hold (by have := Nat.mod_lt k hc0; omega)
    · rw [if_neg hh, if_neg hh, if_neg hh, if_neg hh, if_neg hh, if_neg hh, if_neg hh]
      rcases H.key hk with g | ⟨⟨u, hu, g⟩, g2⟩
      · exact .inl g
      · exact .inr ⟨⟨u, by omega, g⟩, g2⟩
  · show (w1 M1 1 6 _).1 1 6 = _
    rw [w1_eq ⟨rfl, rfl⟩]
  · rw [upd_eq rfl]
  · rw [eS _ (by omega) (by omega)]
    exact (a0 7 (by omega)).trans H.gh
  · rw [eS _ (by omega) (by omega)]
    exact (a0 8 (by omega)).trans H.gb
end SEE2

