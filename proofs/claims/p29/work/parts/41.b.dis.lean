/-! PURE: a dispute is added -/
def rwD (s : Nat → Int32) (dt e : Nat) : Nat → Int32 := upd (upd (upd (cpo s (fun j => s (308 + 6 * (e % 16) + j)) (404 + 7 * dt) 6) (404 + 7 * dt + 3) (nm 5)) (404 + 7 * dt + 6) (nI e)) 16 (nI (dt + 1))
def dM (M : Mem) (dt e : Nat) (k u d w h q : Int32) : Mem := w1 (w1 (w1 (w1 (w1 (w1 (w1 (w1 (w1 M 25 dt k) 26 dt u) 27 dt d) 28 dt w) 29 dt h) 30 dt q) 31 dt (nI e)) 24 0 (nI (dt + 1))) 1 9 (M.1 1 9 + nI 1)
theorem cpo_off {α : Type} {g f : Nat → α} {off n j : Nat} (h : j < off ∨ off + n ≤ j) : cpo g f off n j = g j := by
  unfold cpo
  rw [if_neg (by omega)]
theorem rwD_o {s : Nat → Int32} {dt e i : Nat} (h16 : i ≠ 16) (hi : i < 404 + 7 * dt ∨ 404 + 7 * dt + 7 ≤ i) : rwD s dt e i = s i := by
  unfold rwD
  rw [upd_ne h16, upd_ne (by omega), upd_ne (by omega), cpo_off (by omega)]
theorem rwD_in {s : Nat → Int32} {dt e : Nat} : rwD s dt e (404 + 7 * dt) = s (308 + 6 * (e % 16) + 0) ∧ rwD s dt e (404 + 7 * dt + 1) = s (308 + 6 * (e % 16) + 1) ∧ rwD s dt e (404 + 7 * dt + 2) = s (308 + 6 * (e % 16) + 2) ∧ rwD s dt e (404 + 7 * dt + 3) = nm 5 ∧ rwD s dt e (404 + 7 * dt + 4) = s (308 + 6 * (e % 16) + 4) ∧ rwD s dt e (404 + 7 * dt + 5) = s (308 + 6 * (e % 16) + 5) ∧ rwD s dt e (404 + 7 * dt + 6) = nI e := by
  unfold rwD
  refine ⟨?_, ?_, ?_, ?_, ?_, ?_, ?_⟩
  · rw [upd_ne (by omega), upd_ne (by omega), upd_ne (by omega)]
    exact cpo_in (j := 0) (by omega)
  · rw [upd_ne (by omega), upd_ne (by omega), upd_ne (by omega), cpo_in (by omega)]
  · rw [upd_ne (by omega), upd_ne (by omega), upd_ne (by omega), cpo_in (by omega)]
  · rw [upd_ne (by omega), upd_ne (by omega), upd_eq rfl]
  · rw [upd_ne (by omega), upd_ne (by omega), upd_ne (by omega), cpo_in (by omega)]
  · rw [upd_ne (by omega), upd_ne (by omega), upd_ne (by omega), cpo_in (by omega)]
  · rw [upd_ne (by omega), upd_eq rfl]
section DM
variable {M : Mem} {dt e : Nat} {k u d w h q : Int32}
theorem dM_o {b : Nat} (hb : b < 24 ∨ 31 < b) (h1 : b ≠ 1) : (dM M dt e k u d w h q).1 b = M.1 b := by
  unfold dM
  rw [w1_o (by omega), w1_o (by omega), w1_o (by omega), w1_o (by omega), w1_o (by omega), w1_o (by omega), w1_o (by omega), w1_o (by omega), w1_o (by omega)]
theorem dM_1 {j : Nat} (hj : j ≠ 9) : (dM M dt e k u d w h q).1 1 j = M.1 1 j := by
  unfold dM
  rw [w1_ne (by omega), w1_o (by omega), w1_o (by omega), w1_o (by omega), w1_o (by omega), w1_o (by omega), w1_o (by omega), w1_o (by omega), w1_o (by omega)]
theorem dM_9 : (dM M dt e k u d w h q).1 1 9 = M.1 1 9 + nI 1 := w1_eq ⟨rfl, rfl⟩
theorem dM_24 : (dM M dt e k u d w h q).1 24 0 = nI (dt + 1) := by
  unfold dM
  rw [w1_o (by omega), w1_eq ⟨rfl, rfl⟩]
theorem dM_at : (dM M dt e k u d w h q).1 25 = upd (M.1 25) dt k ∧ (dM M dt e k u d w h q).1 26 = upd (M.1 26) dt u ∧ (dM M dt e k u d w h q).1 27 = upd (M.1 27) dt d ∧ (dM M dt e k u d w h q).1 28 = upd (M.1 28) dt w ∧ (dM M dt e k u d w h q).1 29 = upd (M.1 29) dt h ∧ (dM M dt e k u d w h q).1 30 = upd (M.1 30) dt q ∧ (dM M dt e k u d w h q).1 31 = upd (M.1 31) dt (nI e) := by
  unfold dM
  simp (disch := omega) only [w1_o, w1_self, and_self]
end DM
section CVD
variable {r c t e dt N : Nat} {M Mc : Mem} {s : Nat → Int32} {φ : Nat → UInt32}
theorem CV_dis {k u d q e0 : Nat} {h : Int32} (H : CV r c t e dt N M s φ) (h20 : dt < 20) (he : e0 < e) (hk : k < 48) (hu : u ≤ N) (hdd : d ≤ N) (hq : q < 4)
    (f0 : s (308 + 6 * (e0 % 16)) = nI k) (f1 : s (308 + 6 * (e0 % 16) + 1) = nI u) (f2 : s (308 + 6 * (e0 % 16) + 2) = nI d) (f4 : oN h (s (308 + 6 * (e0 % 16) + 4)) 2) (f5 : s (308 + 6 * (e0 % 16) + 5) = nI q) :
    CV r c t e (dt + 1) N (dM M dt e0 (nI k) (nI u) (nI d) (nI 3) h (nI q)) (rwD s dt e0) φ := by
  have hd := H.1.1
  obtain ⟨m48, m0⟩ := mul48 hd
  have eA : ∀ k1, k1 < 33 → (k1 == 0 || (decide (23 ≤ k1) && decide (k1 ≤ 30))) = false → vA (dM M dt e0 (nI k) (nI u) (nI d) (nI 3) h (nI q)) 1 k1 = vA M 1 k1 := fun k1 _ hx => by
    simp only [Bool.or_eq_false_iff, beq_eq_false_iff_ne, Bool.and_eq_false_iff, decide_eq_false_iff_not] at hx
    exact dM_o (by omega) (by omega)
  have eB : ∀ k1, k1 < 33 → false = false → vB (dM M dt e0 (nI k) (nI u) (nI d) (nI 3) h (nI q)) 1 k1 = vB M 1 k1 := fun _ _ _ => rfl
  have eS : ∀ i, i ≠ 16 → (i < 404 ∨ 544 ≤ i) → rwD s dt e0 i = s i := fun i h1 h2 => rwD_o h1 (by omega)
  have eF : ∀ i, false = false → φ i = φ i := fun _ _ => rfl
  obtain ⟨a0, a1, a2, a3, a4, a5, a6⟩ := dM_at (M := M) (dt := dt) (e := e0) (k := nI k) (u := nI u) (d := nI d) (w := nI 3) (h := h) (q := nI q)
  obtain ⟨b0, b1, b2, b3, b4, b5, b6⟩ := rwD_in (s := s) (dt := dt) (e := e0)
  refine ⟨rDim_c H.1 (congrFun (eA 1 (by decide) rfl) 0) (congrFun (eA 1 (by decide) rfl) 1) (eS 0 (by omega) (by omega)) (eS 1 (by omega) (by omega)), rShift_c H.2.1 (fun p hp => congrFun (eA 10 (by decide) rfl) p) (fun p hp => eS _ (by omega) (by omega)), rHold_c H.2.2.1 (fun k hk => congrFun (eA 2 (by decide) rfl) k) (fun k hk => eS _ (by omega) (by omega)) m48, rBits_c H.2.2.2.1 (fun i hi => ⟨congrFun (eA 7 (by decide) rfl) i, congrFun (eA 8 (by decide) rfl) i, congrFun (eA 9 (by decide) rfl) i⟩) (fun k hk => ⟨eS _ (by omega) (by omega), eS _ (by omega) (by omega), eS _ (by omega) (by omega)⟩), rKey_c H.2.2.2.2.1 (fun k hk => ⟨congrFun (eA 4 (by decide) rfl) k, congrFun (eA 5 (by decide) rfl) k, congrFun (eA 6 (by decide) rfl) k⟩) (fun k hk => ⟨eS _ (by omega) (by omega), eS _ (by omega) (by omega), eS _ (by omega) (by omega), eS _ (by omega) (by omega)⟩), rSign_c H.2.2.2.2.2.1 (fun k hk => congrFun (eA 3 (by decide) rfl) k) (fun k hk => eS _ (by omega) (by omega)), rTyp_c H.2.2.2.2.2.2.1 (fun j _ _ => congrFun (eA 11 (by decide) rfl) j) (fun j _ => congrFun (eA 12 (by decide) rfl) j) (fun j _ => congrFun (eB 11 (by decide) rfl) j) ⟨eS _ (by omega) (by omega), eS _ (by omega) (by omega), eS _ (by omega) (by omega), eS _ (by omega) (by omega), eS _ (by omega) (by omega)⟩ (fun j hj => eS _ (by omega) (by omega)) ⟨eF 0 rfl, eF 2 rfl⟩, rTyp_c H.2.2.2.2.2.2.2.1 (fun j _ _ => congrFun (eA 13 (by decide) rfl) j) (fun j _ => congrFun (eA 14 (by decide) rfl) j) (fun j _ => congrFun (eB 13 (by decide) rfl) j) ⟨eS _ (by omega) (by omega), eS _ (by omega) (by omega), eS _ (by omega) (by omega), eS _ (by omega) (by omega), eS _ (by omega) (by omega)⟩ (fun j hj => eS _ (by omega) (by omega)) ⟨eF 1 rfl, eF 3 rfl⟩, rEnd_c H.2.2.2.2.2.2.2.2.1 (congrFun (eA 15 (by decide) rfl) 0) (fun j hj => ⟨congrFun (eA 16 (by decide) rfl) j, congrFun (eA 17 (by decide) rfl) j, congrFun (eA 18 (by decide) rfl) j, congrFun (eA 19 (by decide) rfl) j, congrFun (eA 20 (by decide) rfl) j, congrFun (eA 21 (by decide) rfl) j⟩) (eS 9 (by omega) (by omega)) (fun j _ _ => eS _ (by omega) (by omega)), ⟨by omega, dM_24, upd_eq rfl, fun j hj => ?_, ?_⟩, rSet_c H.2.2.2.2.2.2.2.2.2.2.1 (fun j hj => ⟨congrFun (eA 32 (by decide) rfl) j, congrFun (eB 31 (by decide) rfl) _⟩) (fun j hj => eF _ (by rcases (show j = 0 ∨ j = 1 ∨ j = 2 by omega) with rfl | rfl | rfl <;> rfl)), ⟨H.tN, ?_, ?_, ?_, ?_⟩⟩
  · show (∃ k1, k1 < 48 ∧ (dM M dt e0 (nI k) (nI u) (nI d) (nI 3) h (nI q)).1 25 j = nI k1 ∧ _) ∧ (∃ u1, u1 ≤ N ∧ (dM M dt e0 (nI k) (nI u) (nI d) (nI 3) h (nI q)).1 26 j = nI u1 ∧ _) ∧ (∃ u1, u1 ≤ N ∧ (dM M dt e0 (nI k) (nI u) (nI d) (nI 3) h (nI q)).1 27 j = nI u1 ∧ _) ∧
      (((dM M dt e0 (nI k) (nI u) (nI d) (nI 3) h (nI q)).1 28 j = nI 3 ∧ _) ∨ ∃ w1, w1 < 3 ∧ (dM M dt e0 (nI k) (nI u) (nI d) (nI 3) h (nI q)).1 28 j = nI w1 ∧ _) ∧ oN ((dM M dt e0 (nI k) (nI u) (nI d) (nI 3) h (nI q)).1 29 j) _ 2 ∧ (∃ q1, q1 < 4 ∧ (dM M dt e0 (nI k) (nI u) (nI d) (nI 3) h (nI q)).1 30 j = nI q1 ∧ _) ∧ (∃ o, o < e ∧ (dM M dt e0 (nI k) (nI u) (nI d) (nI 3) h (nI q)).1 31 j = nI o ∧ _)
    rw [a0, a1, a2, a3, a4, a5, a6]
    by_cases hj2 : j = dt
    · subst hj2
      rw [upd_self, upd_self, upd_self, upd_self, upd_self, upd_self, upd_self, b0, b1, b2, b3, b4, b5, b6]
      exact ⟨⟨k, hk, rfl, f0⟩, ⟨u, hu, rfl, f1⟩, ⟨d, hdd, rfl, f2⟩, .inl ⟨rfl, rfl⟩, f4, ⟨q, hq, rfl, f5⟩, ⟨e0, he, rfl, rfl⟩⟩
    · rw [upd_ne hj2, upd_ne hj2, upd_ne hj2, upd_ne hj2, upd_ne hj2, upd_ne hj2, upd_ne hj2]
      rw [rwD_o (by omega) (by omega), rwD_o (by omega) (by omega), rwD_o (by omega) (by omega), rwD_o (by omega) (by omega), rwD_o (by omega) (by omega), rwD_o (by omega) (by omega), rwD_o (by omega) (by omega)]
      exact H.dis (show j < dt by omega)
  · show (dM M dt e0 (nI k) (nI u) (nI d) (nI 3) h (nI q)).1 1 9 = _
    rw [dM_9, H.opn, nI_add, cnt_succ, b3, decide_eq_true (nm_lt0 (by decide) (by decide)), if_pos rfl]
    exact congrArg (fun x => nI (x + 1)) (cnt_congr fun i hi => by rw [rwD_o (by omega) (by omega)])
  · show (dM M dt e0 (nI k) (nI u) (nI d) (nI 3) h (nI q)).1 1 6 = _
    rw [dM_1 (by omega)]
    exact H.t1
  · rw [eS _ (by omega) (by omega)]
    exact H.t2
  · show (dM M dt e0 (nI k) (nI u) (nI d) (nI 3) h (nI q)).1 1 7 = _
    rw [dM_1 (by omega), eS _ (by omega) (by omega)]
    exact H.gh
  · show (dM M dt e0 (nI k) (nI u) (nI d) (nI 3) h (nI q)).1 1 8 = _
    rw [dM_1 (by omega), eS _ (by omega) (by omega)]
    exact H.gb
theorem e_addFrom {k u w : Nat} (h16 : M.1 16 0 = nI e) (he : e < 2 ^ 30) (hk : k < 48) (h5 : M.1 5 k = nI u) (hut : u ≤ t) (ht : t < 2 ^ 30) : fX6_addFrom 16 2 (nI k) (nI t) (nI w) M = some ((), eM M e k u (t - u) w (M.1 7 k) (M.1 6 k)) := by
  have hl : e % 20 < 20 := Nat.mod_lt _ (by decide)
  unfold fX6_addFrom eM
  simp (disch := first | omega | (simp only [ln_3, ln_4, ln_5, ln_6, ln_7, ln_8, ln_9, ln_10, ln_11, ln_13, ln_15, ln_17, ln_18, ln_19, ln_20, ln_21, ln_22, ln_23, ln_25, ln_26, ln_27, ln_28, ln_29, ln_30, ln_31, ln_33, ln_234]; omega)) only [h16, e_slot, cal_e, Nat.reduceAdd, e_put, (e_leaf _).2.2.1, (e_leaf _).2.2.2, (e_leaf _).2.1, w1_o, h5, nI_sub, bnd_e, nlit', nI_add]
theorem e_addLatest {k u d w h q : Int32} (h24 : M.1 24 0 = nI dt) (hdt : dt < 20) (h16 : M.1 16 0 = nI (e + 1)) (he : e < 2 ^ 30) (f0 : M.1 17 (e % 20) = k) (f1 : M.1 18 (e % 20) = u) (f2 : M.1 19 (e % 20) = d) (f3 : M.1 20 (e % 20) = w) (f4 : M.1 21 (e % 20) = h) (f5 : M.1 22 (e % 20) = q) :
    wp (cal (fX6_addLatestOf 24 16 M) (fun v14 M15 => bnd (w1 M15 1 9 ((M15.1 1 9) + 1)) (fun M16 => some ((), M16)))) (fun _ M2 => M2 = dM M dt e k u d w h q) := by
  have hm : dt % 20 = dt := Nat.mod_eq_of_lt hdt
  have ek : ∀ M2 : Mem, (∀ b, 16 ≤ b → b < 24 → M2.1 b = M.1 b) → fX6_keyOf 16 (nI e) M2 = some (k, M2) ∧ fX6_sinceOf 16 (nI e) M2 = some (u, M2) ∧ fX6_dwellOf 16 (nI e) M2 = some (d, M2) ∧ fX6_fateOf 16 (nI e) M2 = some (w, M2) ∧ fX6_holderOf 16 (nI e) M2 = some (h, M2) ∧ fX6_notedOf 16 (nI e) M2 = some (q, M2) := fun M2 hM => by
    have g := e_strk M2 (.inl rfl) (show e < 2 ^ 31 by omega)
    refine ⟨?_, ?_, ?_, ?_, ?_, ?_⟩
    · rw [g.1, hM _ (by omega) (by omega), f0]
    · rw [g.2.1, hM _ (by omega) (by omega), f1]
    · rw [g.2.2.1, hM _ (by omega) (by omega), f2]
    · rw [g.2.2.2.1, hM _ (by omega) (by omega), f3]
    · rw [g.2.2.2.2.1, hM _ (by omega) (by omega), f4]
    · rw [g.2.2.2.2.2.1, hM _ (by omega) (by omega), f5]
  unfold fX6_addLatestOf dM
  rw [h24, e_slot M (by omega), hm, cal_e, h16, nlit', nI_sub (show 1 ≤ e + 1 by omega), Nat.add_sub_cancel]
  rw [(ek M (fun b _ _ => rfl)).1, cal_e, e_put _ (show dt < 20 by omega), cal_e]
  rw [(ek _ (fun b _ _ => by rw [w1_o (by omega)])).2.1, cal_e, e_put _ (show dt < 20 by omega), cal_e]
  rw [(ek _ (fun b _ _ => by rw [w1_o (by omega), w1_o (by omega)])).2.2.1, cal_e, e_put _ (show dt < 20 by omega), cal_e]
  rw [(ek _ (fun b _ _ => by rw [w1_o (by omega), w1_o (by omega), w1_o (by omega)])).2.2.2.1, cal_e, e_put _ (show dt < 20 by omega), cal_e]
  rw [(ek _ (fun b _ _ => by rw [w1_o (by omega), w1_o (by omega), w1_o (by omega), w1_o (by omega)])).2.2.2.2.1, cal_e, e_put _ (show dt < 20 by omega), cal_e]
  rw [(ek _ (fun b _ _ => by rw [w1_o (by omega), w1_o (by omega), w1_o (by omega), w1_o (by omega), w1_o (by omega)])).2.2.2.2.2, cal_e, e_put _ (show dt < 20 by omega), cal_e]
  rw [e_put _ (show dt < 20 by omega), cal_e, bnd_e, cal_e, bnd_e, wp_some]
  have z24 : ∀ x1 x2 x3 x4 x5 x6 x7, (w1 (w1 (w1 (w1 (w1 (w1 (w1 M 25 dt x1) 26 dt x2) 27 dt x3) 28 dt x4) 29 dt x5) 30 dt x6) 31 dt x7).1 24 0 = nI dt := fun _ _ _ _ _ _ _ => by
    rw [w1_o (by omega), w1_o (by omega), w1_o (by omega), w1_o (by omega), w1_o (by omega), w1_o (by omega), w1_o (by omega), h24]
  have z9 : ∀ x1 x2 x3 x4 x5 x6 x7 x8, (w1 (w1 (w1 (w1 (w1 (w1 (w1 (w1 M 25 dt x1) 26 dt x2) 27 dt x3) 28 dt x4) 29 dt x5) 30 dt x6) 31 dt x7) 24 0 x8).1 1 9 = M.1 1 9 := fun _ _ _ _ _ _ _ _ => by
    rw [w1_o (by omega), w1_o (by omega), w1_o (by omega), w1_o (by omega), w1_o (by omega), w1_o (by omega), w1_o (by omega), w1_o (by omega)]
  simp only [Nat.reduceAdd, z24, z9, nlit', nI_add]
/-! the reference's -/
end CVD

