/-! PURE: a stroke ends, in the class, and is accounted for -/
section CEND
variable {r c t e dt N : Nat} {M : Mem} {s : Nat → Int32} {φ : Nat → UInt32}
theorem c_end {k : Nat} (H : CV r c t e dt N M s φ) (hN : N + 2 < 2 ^ 24) (hk : k < r * c) (hs : ¬ s (68 + k) < nI 0) (XX : EX (r * c) e dt (t + 1) s φ) :
    ∃ s2 φ2 dt2, wp (fX5_endStroke 1 (nI k) M) (fun _ M1 => FC M M1 ∧ CV r c t (e + 1) dt2 (N + 2) M1 s2 φ2) ∧ EX (r * c) (e + 1) dt2 (t + 1) s2 φ2 ∧ (∀ j, j < 48 → j ≠ k → s2 (68 + j) = s (68 + j)) ∧ s2 (68 + k) = nm 5 := by
  have hd := H.hd
  have m48 := H.m48
  have tN := H.tN
  have eN := H.eN
  have hkr := divr hk
  have h20 : e % 20 < 20 := Nat.mod_lt _ (by decide)
  obtain ⟨⟨u, hu, g1, g2⟩, g3, ⟨q, hq, q1, q2⟩, g4⟩ : (∃ u, u ≤ t ∧ s (68 + k) = nI u ∧ M.1 5 k = nI u) ∧ (s (116 + k) = nI 0 ∨ s (116 + k) = nI 1) ∧ (∃ q, q < 4 ∧ s (164 + k) = nI q ∧ M.1 6 k = nI q) ∧ oN (M.1 7 k) (s (212 + k)) 2 := by
    rcases H.key hk with ⟨g, _⟩ | g
    · rw [g] at hs
      exact absurd (nm_lt0 (by decide) (by decide)) hs
    · exact g
  obtain ⟨w, hw, ew, hw20, _⟩ := jS_c s φ k t dt
  have d20 := H.d20
  have H1 := CV_end (k := k) (u := u) (d := t - u) (w := w) (q := M.1 6 k) H g4
  rw [show M.1 6 k = s (164 + k) by rw [q1, q2]] at H1
  have H2 := CV_lose H1 hk
  have e0 := oN_eq (H.shift (p := 0) (by omega)) (show k < 2 ^ 31 by omega)
  have e1 := oN_eq (H.shift (p := 1) (by omega)) (show k < 2 ^ 31 by omega)
  simp only [Nat.add_zero, Nat.reduceAdd] at e0 e1
  have ea := e_addFrom (t := t) (w := w) H.e1 (show e < 2 ^ 30 by omega) (show k < 48 by omega) g2 hu (show t < 2 ^ 30 by omega)
  rw [show M.1 6 k = s (164 + k) by rw [q1, q2]] at ea
  obtain ⟨a0, a1, a2, a3, a4, a5⟩ := eM_at (M := M) (e := e) (k := k) (u := u) (d := t - u) (w := w) (h := M.1 7 k) (q := s (164 + k))
  obtain ⟨b0, b1, b2', b3, b4, b5⟩ := rwE_in (s := s) (e := e) (k := k) (u := u) (d := t - u) (w := w) (h := s (212 + k)) (q := s (164 + k))
  have el := e_loseSight (M := eM M e k u (t - u) w (M.1 7 k) (s (164 + k))) (by rw [eM_o (by omega)]; exact H.hc) (by omega) hd.2.2.2 (show k / c < 6 by omega) (show k < 48 by omega)
  have elM : w1 (w1 (eM M e k u (t - u) w (M.1 7 k) (s (164 + k))) 9 (k / c) ((eM M e k u (t - u) w (M.1 7 k) (s (164 + k))).1 9 (k / c) &&& (pw (k % c) ^^^ nm 1))) 10 (k / c) ((eM M e k u (t - u) w (M.1 7 k) (s (164 + k))).1 10 (k / c) &&& (pw (k % c) ^^^ nm 1)) = lM (eM M e k u (t - u) w (M.1 7 k) (s (164 + k))) c k := rfl
  rw [elM] at el
  have F0 : FC M (lM (eM M e k u (t - u) w (M.1 7 k) (s (164 + k))) c k) := fun b hb => ⟨by rw [lM_o (by omega) (by omega), eM_o (by omega)], rfl⟩
  have X : ∀ i, 17 ≤ i → (lM (eM M e k u (t - u) w (M.1 7 k) (s (164 + k))) c k).1 i = (eM M e k u (t - u) w (M.1 7 k) (s (164 + k))).1 i := fun i hi => lM_o (by omega) (by omega)
  have x17 := (X 17 (by omega)).trans a0
  have x18 := (X 18 (by omega)).trans a1
  have x19 := (X 19 (by omega)).trans a2
  have x20 := (X 20 (by omega)).trans a3
  have x21 := (X 21 (by omega)).trans a4
  have x22 := (X 22 (by omega)).trans a5
  have x11 : (lM (eM M e k u (t - u) w (M.1 7 k) (s (164 + k))) c k).1 11 = M.1 11 := by rw [lM_o (by omega) (by omega), eM_o (by omega)]
  have x16 : (eM M e k u (t - u) w (M.1 7 k) (s (164 + k))).1 16 0 = nI (e + 1) := eM_16
  have x16' : (lM (eM M e k u (t - u) w (M.1 7 k) (s (164 + k))) c k).1 16 0 = nI (e + 1) := H2.e1
  have y0 : ∀ i, 0 < i → i < 6 → lose k (rwE s e k u (t - u) w (s (212 + k)) (s (164 + k))) (308 + 6 * (e % 16) + i) = rwE s e k u (t - u) w (s (212 + k)) (s (164 + k)) (308 + 6 * (e % 16) + i) := fun i _ _ => lose_o (by omega) (by omega)
  have y00 : lose k (rwE s e k u (t - u) w (s (212 + k)) (s (164 + k))) (308 + 6 * (e % 16)) = nI k := by rw [lose_o (by omega) (by omega), b0]
  have L68 : ∀ (sx : Nat → Int32), (∀ j, j < 48 → sx (68 + j) = s (68 + j)) → (∀ j, j < 48 → j ≠ k → lose k sx (68 + j) = s (68 + j)) ∧ lose k sx (68 + k) = nm 5 := fun sx h1 =>
    ⟨fun j hj hjk => by rw [lose_o (by omega) (by omega), h1 j hj], lose_k.1⟩
  have F6 : fX5_endStroke 1 (nI k) M = if nI w = 3 then cal (fX6_addLatestOf 24 16 (lM (eM M e k u (t - u) w (M.1 7 k) (s (164 + k))) c k)) (fun v14 M15 => bnd (w1 M15 1 9 ((M15.1 1 9) + 1)) (fun M16 => some ((), M16))) else
      cal (fX5_finish 1 16 (nI e) (nI w) (b2 (!(decide (s 5 = nI k) || decide (s 6 = nI k)))) (lM (eM M e k u (t - u) w (M.1 7 k) (s (164 + k))) c k)) (fun v12 M13 => some ((), M13)) := by
    unfold fX5_endStroke
    simp (disch := omega) only [e_fateC H (show N < 2 ^ 30 by omega) hk hs, ew, cal_e, Nat.reduceAdd, H.t1, ea, el, e_shiftOwner, x11, e0, e1, x16', nlit', nI_sub, Nat.add_sub_cancel, nm_def]
    congr 1
    by_cases a : s 5 = nI k
    · simp [a, jn, b2, show ¬ nI 0 = nm 1 by decide]
    · by_cases b : s 6 = nI k
      · simp [a, b, jn, b2, show ¬ nI 1 = nm 1 by decide]
      · simp [a, b, jn, b2]
  rw [F6]
  by_cases h3 : w = 3
  · subst h3
    rw [if_pos (show nI 3 = 3 from rfl)]
    have hdt : dt < 20 := by have := hw20 rfl; omega
    refine ⟨lose k (rwD (rwE s e k u (t - u) 3 (s (212 + k)) (s (164 + k))) dt e), φ, dt + 1, ?_, by rw [q1]; exact EX_endD XX m48 hdt (by omega) hq (by omega), ?_⟩
    · refine wp_mono (e_addLatest (e := e) H2.d1 hdt x16' (by omega) rfl rfl rfl rfl rfl rfl) (fun _ M1 h => ?_)
      subst h
      rw [x17, x18, x19, x20, x21, x22, upd_self, upd_self, upd_self, upd_self, upd_self, upd_self]
      refine ⟨FC_trans F0 (fun b hb => ⟨dM_o (by omega) (by omega), rfl⟩), ?_⟩
      rw [← lose_rwD (by omega), q1]
      rw [q1] at H2 y00 y0 b0 b1 b2' b3 b4 b5
      exact (CV_dis (e0 := e) H2 hdt (by omega) (by omega) (by omega) (show t - u ≤ N + 1 by omega) hq y00 (by rw [y0 1 (by omega) (by omega), b1]) (by rw [y0 2 (by omega) (by omega), b2']) (by rw [y0 4 (by omega) (by omega), b4]; exact g4) (by rw [y0 5 (by omega) (by omega), b5])).mono (by omega)
    · exact L68 _ (fun j hj => by rw [rwD_o (by omega) (by omega), rwE_o (by omega) (by omega)])
  · have hw3 : w < 3 := by omega
    have n3 : ¬ nI w = 3 := by rw [nlit', nI_eq (by omega) (by decide)]; omega
    rw [if_neg n3]
    refine ⟨lose k (finS (r * c) w k u q (s (212 + k)) (!(decide (s 5 = nI k) || decide (s 6 = nI k))) (rwE s e k u (t - u) w (s (212 + k)) (s (164 + k)))), finF w u (t - u) (s (212 + k)) (!(decide (s 5 = nI k) || decide (s 6 = nI k))) (rwE s e k u (t - u) w (s (212 + k)) (s (164 + k))) φ, dt, ?_, by rw [q1]; exact EX_end XX m48 d20 (by omega) (by omega) hw3 hq (by omega), ?_⟩
    · rw [wp_cal]
      refine wp_mono (c_finish (h := s (212 + k)) (k := k) (u := u) (d := t - u) (q := q) H2 (by omega) (.inl rfl) (show e < 2 ^ 31 by omega) hw3 (by rw [x17, upd_self]) (by omega) (by rw [x18, upd_self]) (by omega) (by rw [x19, upd_self]) (by omega) (by rw [x21, upd_self]; exact g4) (by rw [x22, upd_self, q1]) hq) (fun _ M1 ⟨f1, f2⟩ => ?_)
      rw [wp_some]
      refine ⟨FC_trans F0 f1, ?_⟩
      rw [(lose_fin (φ := φ) (d := t - u) (by omega) hw3).1, (lose_fin (n := r * c) (q := q) (k2 := k) (by omega) hw3).2] at f2
      exact f2
    · have c19 : ∀ (n k2 q2 u2 : Nat) (h : Int32) (tb : Bool) (sx : Nat → Int32) (i : Nat), 20 ≤ i → i < 544 → finS n w k2 u2 q2 h tb sx i = sx i := fun n k2 q2 u2 h tb sx i h1 h2 => by
        have r1 : rwC w h sx i = sx i := by
          unfold rwC
          split
          · rw [upd_ne (by omega), upd_ne (by omega)]
          · rw [upd_ne (by omega), upd_ne (by omega)]
        have r2 : ∀ sy : Nat → Int32, rwG n w k2 q2 sy i = sy i := fun sy => by
          unfold rwG
          split
          · split
            · rfl
            · rw [upd_ne (by omega), upd_ne (by omega)]
          · rfl
        unfold finS
        split
        · rename_i hh
          rw [← hh, r1]
        · rw [r2]
          split
          · rw [upd_ne (by omega), r1]
          · exact r1
      exact L68 _ (fun j hj => by rw [c19 _ _ _ _ _ _ _ _ (by omega) (by omega), rwE_o (by omega) (by omega)])
end CEND
