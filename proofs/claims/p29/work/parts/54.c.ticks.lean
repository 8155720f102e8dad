/-! PURE: ticks, in the class, with what more is known -/
theorem c_ends {r c t i : Nat} {W S : Int32} (hi : i < r) : ∀ (m n e dt N : Nat) (M : Mem) (s : Nat → Int32) (φ : Nat → UInt32), m + n = c → CV r c t e dt N M s φ → N + 2 * m + 2 < 2 ^ 24 → EX (r * c) e dt (t + 1) s φ → (∀ d, n ≤ d → d < c → bt W d = !decide (s (68 + (i * c + d)) < nI 0)) →
    ∃ M1 s1 φ1 dt1 z, z ≤ m ∧ FC M M1 ∧ CV r c t (e + z) dt1 (N + 2 * m) M1 s1 φ1 ∧ EX (r * c) (e + z) dt1 (t + 1) s1 φ1 ∧
      (∀ (a1 a2 a3 : Int32) (K : Unit → Mem → Option (Int32 × Mem)) (Q : Int32 → Mem → Prop) (fuel : Nat), m < fuel → wp (K () M1) Q → wp (lp (FX5_pass_50 1 a1 a2 a3 (nI i) W S K) fuel (nI n) M) Q) ∧
      (∀ d, n ≤ d → d < c → decide (s1 (68 + (i * c + d)) < nI 0) = !(bt W d && bt S d)) ∧ (∀ j, j < 48 → (j < i * c + n ∨ i * c + c ≤ j) → s1 (68 + j) = s (68 + j)) := by
  intro m
  induction m with
  | zero =>
    intro n e dt N M s φ hmn H hN X hW
    have hd := H.hd
    have hn : n = c := by omega
    subst hn
    refine ⟨M, s, φ, dt, 0, Nat.le_refl 0, FC_refl M, H, X, fun a1 a2 a3 K Q fuel hfu hK => ?_, fun d h1 h2 => absurd h2 (by omega), fun j _ _ => rfl⟩
    · obtain ⟨k, _, _, el⟩ := lp_1 (F := FX5_pass_50 1 a1 a2 a3 (nI i) W S K) hfu
      rw [el]
      unfold FX5_pass_50
      rw [show (1 : Nat) + 1 = 2 from rfl, H.hc, if_pos (by rw [nI_leI (by omega) (by omega)]; omega)]
      exact hK
  | succ m ih =>
    intro n e dt N M s φ hmn H hN X hW
    have hd := H.hd
    have m48 := H.m48
    have hn : n < c := by omega
    have hix := ixlt hi hn
    have hic := row_le (c := c) hi
    have hWn := hW n (Nat.le_refl n) hn
    have hcls : ∀ (a1 a2 a3 : Int32) (K : Unit → Mem → Option (Int32 × Mem)) (rec : Int32 → Mem → Option (Int32 × Mem)), FX5_pass_50 1 a1 a2 a3 (nI i) W S K rec (nI n) M = if bt W n = true ∧ bt S n = false then cal (fX5_endStroke 1 (nI (i * c + n)) M) (fun _ M5 => rec (nI (n + 1)) M5) else rec (nI (n + 1)) M := fun a1 a2 a3 K rec => by
      unfold FX5_pass_50
      simp (disch := omega) only [Nat.reduceAdd, H.hc, nlit', nI_leI, show ¬ c ≤ n by omega, if_false, nm_x, pw_def, and_pw, bt_and, bt_not, nI_mul, nI_add]
      rw [jn_x, decide_eq_true (show n < 32 by omega), Bool.true_and]
      cases bt W n <;> cases bt S n <;> rfl
    by_cases hb : bt W n = true ∧ bt S n = false
    · have hs : ¬ s (68 + (i * c + n)) < nI 0 := fun h => by
        rw [hb.1, decide_eq_true h] at hWn
        exact absurd hWn (by decide)
      obtain ⟨s2, φ2, dt2, ⟨_, M2, e2, F2, H2⟩, X2, L2, K2⟩ := c_end H (by omega) hix hs X
      obtain ⟨M1, s1, φ1, dt1, z, hz, F1, H1, X1, C1, D1, O1⟩ := ih (n + 1) (e + 1) dt2 (N + 2) M2 s2 φ2 (by omega) H2 (by omega) X2 (fun d h1 h2 => by rw [hW d (by omega) h2, L2 _ (by have := ixlt (r := r) hi h2; omega) (by omega)])
      have hsn : s1 (68 + (i * c + n)) = nm 5 := by rw [O1 _ (by omega) (.inl (by omega)), K2]
      refine ⟨M1, s1, φ1, dt1, z + 1, by omega, FC_trans F2 F1, ?_, by rw [show e + (z + 1) = e + 1 + z by omega]; exact X1, fun a1 a2 a3 K Q fuel hfu hK => ?_, fun d h1 h2 => ?_, fun j hj hjo => ?_⟩
      · rw [show e + (z + 1) = e + 1 + z by omega, show N + 2 * (m + 1) = N + 2 + 2 * m by omega]
        exact H1
      · obtain ⟨k, _, hk, el⟩ := lp_1 (F := FX5_pass_50 1 a1 a2 a3 (nI i) W S K) hfu
        rw [el, hcls, if_pos hb, e2, cal_x]
        exact C1 a1 a2 a3 K Q k (by omega) hK
      · by_cases hdn : d = n
        · subst hdn
          rw [hsn, decide_eq_true (nm_lt0 (by decide) (by decide)), hb.2, Bool.and_false]
          rfl
        · exact D1 d (by omega) h2
      · rw [O1 j hj (by omega), L2 j hj (by omega)]
    · obtain ⟨M1, s1, φ1, dt1, z, hz, F1, H1, X1, C1, D1, O1⟩ := ih (n + 1) e dt N M s φ (by omega) H (by omega) X (fun d h1 h2 => hW d (by omega) h2)
      have hsn : s1 (68 + (i * c + n)) = s (68 + (i * c + n)) := O1 _ (by omega) (.inl (by omega))
      refine ⟨M1, s1, φ1, dt1, z, by omega, F1, H1.mono (by omega), X1, fun a1 a2 a3 K Q fuel hfu hK => ?_, fun d h1 h2 => ?_, fun j hj hjo => ?_⟩
      · obtain ⟨k, _, hk, el⟩ := lp_1 (F := FX5_pass_50 1 a1 a2 a3 (nI i) W S K) hfu
        rw [el, hcls, if_neg hb]
        exact C1 a1 a2 a3 K Q k (by omega) hK
      · by_cases hdn : d = n
        · subst hdn
          rw [hsn]
          have : decide (s (68 + (i * c + d)) < nI 0) = !bt W d := by rw [hWn, Bool.not_not]
          rw [this]
          cases h1 : bt W d
          · rfl
          · cases h2 : bt S d
            · exact absurd ⟨h1, h2⟩ hb
            · rfl
        · exact D1 d (by omega) h2
      · exact O1 j hj (by omega)
/-- one tick -/
theorem c_step {r c t e dt N : Nat} {M : Mem} {s : Nat → Int32} {φ : Nat → UInt32} (H : CV r c t e dt N M s φ) (hN : N + 40 < 2 ^ 24) (X : EX (r * c) e dt t s φ) :
    ∃ M1 s1 φ1 dt1 z, FC M M1 ∧ CV r c (t + 1) (e + z) dt1 (N + 17) M1 s1 φ1 ∧ EX (r * c) (e + z) dt1 (t + 1) s1 φ1 ∧
      (∀ (n b : Nat) (a2 : Int32) (rec : Int32 → Mem → Option (Int32 × Mem)) (Q : Int32 → Mem → Prop), b < n → n < 2 ^ 30 → wp (rec (nI (b + 1)) M1) Q → wp (FX5_pass_10 1 (nI n) a2 rec (nI b) M) Q) := by
  have hd := H.hd
  have m48 := H.m48
  have tN := H.tN
  have hi : t % r < r := Nat.mod_lt t (by omega)
  have hic := row_le (c := c) hi
  obtain ⟨M1, s1, φ1, dt1, z, hz, F1, H1, X1, C1, D1, _⟩ := c_ends (W := M.1 9 (t % r)) (S := sw (Dm s r c) (t % r)) hi c 0 e dt N M s φ (by omega) H (by omega) (EX_T X (Nat.le_succ t)) (fun d _ hd2 => (H.bitid hi hd2).2.1)
  have hS : ∀ d, ¬ d < c → bt (sw (Dm s r c) (t % r)) d = false := fun d hdc => by
    cases h : bt (sw (Dm s r c) (t % r)) d
    · rfl
    · exact absurd (sw_c hd.2.2.2 h) hdc
  have hfb : ∀ d, bt (sw (Dm s r c) (t % r) &&& (M.1 9 (t % r) ^^^ nm 1)) d = (bt (sw (Dm s r c) (t % r)) d && (decide (d < 32) && !bt (M.1 9 (t % r)) d)) := fun d => by rw [bt_and, bt_not]
  have hf0 : ∀ d, ¬ d < c → bt (sw (Dm s r c) (t % r) &&& (M.1 9 (t % r) ^^^ nm 1)) d = false := fun d hdc => by rw [hfb, hS d hdc, Bool.false_and]
  have hf : ∀ d, d < c → bt (sw (Dm s r c) (t % r) &&& (M.1 9 (t % r) ^^^ nm 1)) d = (bt (sw (Dm s r c) (t % r)) d && decide (s1 (68 + (t % r * c + d)) < nI 0)) := fun d hdc => by
    rw [hfb, D1 d (Nat.zero_le d) hdc, decide_eq_true (show d < 32 by omega), Bool.true_and]
    cases bt (sw (Dm s r c) (t % r)) d <;> cases bt (M.1 9 (t % r)) d <;> rfl
  have hfr : ∀ d, d < c → bt (sw (Dm s r c) (t % r) &&& (M.1 9 (t % r) ^^^ nm 1)) d = true → s1 (68 + (t % r * c + d)) < nI 0 := fun d hdc h => by
    rw [hf d hdc, Bool.and_eq_true] at h
    exact of_decide_eq_true h.2
  have hdr : fX5_drivenRow 1 M = some (nI (t % r), M) := by
    unfold fX5_drivenRow
    simp (disch := omega) only [Nat.reduceAdd, H.hr, H.t1, nlit', nI_leI, show ¬ r ≤ 0 by omega, if_false, e_fmod, cal_x]
  have hsn := H.sens hi
  have t30 : t < 2 ^ 30 := by omega
  obtain ⟨M2, F2, S2, E2⟩ : ∃ M2, FC M1 M2 ∧ SeeM s1 r c (t % r) t (sw (Dm s r c) (t % r) &&& (M.1 9 (t % r) ^^^ nm 1)) M1 M2 ∧
      (∀ (K : Unit → Mem → Option (Int32 × Mem)) (Q : Int32 → Mem → Prop), wp (K () M2) Q → wp (if (sw (Dm s r c) (t % r) &&& (M.1 9 (t % r) ^^^ nm 1)) = nI 0 then K () M1 else cal (fX0_see 2 (nI (t % r)) (sw (Dm s r c) (t % r) &&& (M.1 9 (t % r) ^^^ nm 1)) (nI t) M1) (fun _ M17 => K () M17)) Q) := by
    by_cases hz0 : (sw (Dm s r c) (t % r) &&& (M.1 9 (t % r) ^^^ nm 1)) = nI 0
    · exact ⟨M1, FC_refl M1, SeeM_0 hz0, fun K Q hK => by rw [if_pos hz0]; exact hK⟩
    · obtain ⟨_, M2, e2, S2⟩ := e_see H1 hi t30 hf0 hfr
      refine ⟨M2, fun k hk => ⟨S2.1 k (by omega) (by omega) (by omega) (by omega) (by omega), by rw [S2.2.1]⟩, S2, fun K Q hK => ?_⟩
      rw [if_neg hz0, e2, cal_x]
      exact hK
  have H3 := CV_see H1 hi t30 hf0 hfr S2
  have e6 : M2.1 1 6 = nI t := by rw [S2.1 1 (by omega) (by omega) (by omega) (by omega) (by omega)]; exact H1.t1
  have e6' : M1.1 1 6 = nI t := H1.t1
  have X3 : EX (r * c) (e + z) dt1 (t + 1) (upd (rC s1 r c (t % r) t (bt (sw (Dm s r c) (t % r) &&& (M.1 9 (t % r) ^^^ nm 1)))) 2 (nI (t + 1))) φ1 := by
    refine EX_f X1 m48 H1.d20 (fun i hi => ?_) ?_
    · rw [upd_ne (by omega)]
      by_cases h : i < 68
      · exact rC_lo h
      · exact rC_hi (by omega) (by omega)
    · rw [upd_ne (by omega)]
      exact rC_lo (by omega)
  refine ⟨_, _, φ1, dt1, z, FC_trans F1 (FC_trans F2 (FC_1 (by omega))), H3.mono (by omega), X3, fun n b a2 rec Q hbn hn hK => ?_⟩
  · unfold FX5_pass_10
    simp (disch := omega) only [nI_leI, show ¬ n ≤ b by omega, if_false, hdr, cal_x, Nat.reduceAdd]
    rw [e_at M (show t % r < ln 9 by rw [ln_9]; omega), cal_x, show (-1 : Int32) = nm 1 from rfl, hsn, cal_x]
    refine C1 _ _ _ _ _ 1000000 (by omega) ?_
    rw [e6', show (0 : Int32) = nI 0 from rfl, jn_x]
    refine E2 (fun _ M14 => bnd (w1 M14 1 6 ((M14.1 1 6) + 1)) (fun M15 => rec (nI b + 1) M15)) Q ?_
    rw [bnd_x, e6, show (1 : Int32) = nI 1 from rfl, nI_add, nI_add]
    exact hK
/-- ticks pass -/
theorem c_pass {r c n : Nat} (hn : n < 2 ^ 20) : ∀ (m b t e dt N : Nat) (M : Mem) (s : Nat → Int32) (φ : Nat → UInt32), m + b = n → CV r c t e dt N M s φ → N + 17 * m + 40 < 2 ^ 24 → EX (r * c) e dt t s φ →
    ∃ M1 s1 φ1 dt1 z, FC M M1 ∧ CV r c (t + m) (e + z) dt1 (N + 17 * m) M1 s1 φ1 ∧ EX (r * c) (e + z) dt1 (t + m) s1 φ1 ∧
      (∀ (a2 : Int32) (fuel : Nat), m < fuel → lp (FX5_pass_10 1 (nI n) a2) fuel (nI b) M = some (nI (e + z) - a2, M1)) := by
  intro m
  induction m with
  | zero =>
    intro b t e dt N M s φ hmb H hN X
    have hb : b = n := by omega
    subst hb
    refine ⟨M, s, φ, dt, 0, FC_refl M, H, X, fun a2 fuel hfu => ?_⟩
    obtain ⟨k, _, _, el⟩ := lp_1 (F := FX5_pass_10 1 (nI b) a2) hfu
    rw [el]
    unfold FX5_pass_10
    rw [if_pos (by rw [nI_leI (by omega) (by omega)]; omega), show (1 : Nat) + 15 = 16 from rfl, H.e1]
    rfl
  | succ m ih =>
    intro b t e dt N M s φ hmb H hN X
    obtain ⟨M2, s2, φ2, dt2, z2, F2, H2, X2, C2⟩ := c_step H (by omega) X
    obtain ⟨M1, s1, φ1, dt1, z, F1, H1, X1, C1⟩ := ih (b + 1) (t + 1) (e + z2) dt2 (N + 17) M2 s2 φ2 (by omega) H2 (by omega) X2
    refine ⟨M1, s1, φ1, dt1, z2 + z, FC_trans F2 F1, ?_, ?_, fun a2 fuel hfu => ?_⟩
    · rw [show t + (m + 1) = t + 1 + m by omega, show e + (z2 + z) = e + z2 + z by omega, show N + 17 * (m + 1) = N + 17 + 17 * m by omega]
      exact H1
    · rw [show t + (m + 1) = t + 1 + m by omega, show e + (z2 + z) = e + z2 + z by omega]
      exact X1
    · obtain ⟨k, _, hk, el⟩ := lp_1 (F := FX5_pass_10 1 (nI n) a2) hfu
      rw [el]
      refine wp_eq (C2 n b a2 _ _ (by omega) (by omega) ?_)
      rw [C1 a2 k (by omega), wp_some]
      exact ⟨by rw [Nat.add_assoc], rfl⟩
theorem c_ticks {r c t e dt N n : Nat} {M : Mem} {s : Nat → Int32} {φ : Nat → UInt32} (H : CV r c t e dt N M s φ) (hn : n ≤ 99) (hN : N + 17 * n + 40 < 2 ^ 24) (X : EX (r * c) e dt t s φ) :
    ∃ M1 s1 φ1 dt1 z, FC M M1 ∧ CV r c (t + n) (e + z) dt1 (N + 17 * n) M1 s1 φ1 ∧ EX (r * c) (e + z) dt1 (t + n) s1 φ1 ∧ fX5_pass 1 (nI n) M = some (nI z, M1) := by
  obtain ⟨M1, s1, φ1, dt1, z, F1, H1, X1, C1⟩ := c_pass (n := n) (by omega) n 0 t e dt N M s φ (by omega) H hN X
  have eN := H1.eN
  refine ⟨M1, s1, φ1, dt1, z, F1, H1, X1, ?_⟩
  unfold fX5_pass
  have := C1 (nI e) 1000000 (by omega)
  rw [nI_sub (by omega), Nat.add_sub_cancel_left] at this
  rw [show (1 : Nat) + 15 = 16 from rfl, H.e1]
  exact this
