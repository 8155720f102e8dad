/-! PURE: a tick on both sides -/
theorem put_put {M : Mem} {s s2 : Nat → Int32} {φ φ2 : Nat → UInt32} : put (put M s φ) s2 φ2 = put M s2 φ2 := by
  refine Prod.ext (funext fun b => ?_) (funext fun b => ?_)
  · by_cases h : b = 236
    · subst h
      rw [put_s, put_s]
    · rw [put_1 h, put_1 h, put_1 h]
  · by_cases h : b = 240
    · subst h
      rw [put_f, put_f]
    · rw [put_2 h, put_2 h, put_2 h]
theorem FD_put {Mr M2 : Mem} {s : Nat → Int32} {φ : Nat → UInt32} (h : FD (put Mr s φ) M2) : ∃ M6, FD Mr M6 ∧ M2 = put M6 s φ := by
  have e1 : M2.1 236 = s := by rw [h.1 236 (by decide), put_s]
  have e2 : M2.2 240 = φ := by rw [h.2.2, put_f]
  refine ⟨put M2 (Mr.1 236) (Mr.2 240), ⟨fun k hk => ?_, fun j h1 h2 => ?_, ?_⟩, ?_⟩
  · by_cases hk2 : k = 236
    · subst hk2
      rw [put_s]
    · rw [put_1 hk2, h.1 k hk, put_1 hk2]
  · rw [put_1 (by decide), h.2.1 j h1 h2, put_1 (by decide)]
  · funext b
    by_cases hb : b = 240
    · subst hb
      rw [put_f]
    · rw [put_2 hb, h.2.2, put_2 hb]
  · rw [put_put]
    exact put_eq e1 e2
theorem CV.sens {r c t e dt N f : Nat} {M : Mem} {s : Nat → Int32} {φ : Nat → UInt32} (H : CV r c t e dt N M s φ) (hf : f < r) : fX0_sensed 2 (nI f) (nm 1) M = some (sw (Dm s r c) f, M) :=
  e_sensed H.hd H.hr (fun i hi d hd => (H.bitid hi hd).1) (fun i hi d hd => (H.bit0 (by have := H.hd; omega) (by omega)).1) hf
theorem lp_1 {γ β : Type} {F : (γ → Mem → Option β) → γ → Mem → Option β} {fuel m : Nat} (h : m < fuel) : ∃ k, fuel = k + 1 ∧ m ≤ k ∧ lp F fuel = F (lp F k) := by
  obtain ⟨k, rfl⟩ : ∃ k, fuel = k + 1 := ⟨fuel - 1, by omega⟩
  exact ⟨k, rfl, by omega, rfl⟩
theorem j_ends {r c t i : Nat} {W S : Int32} (hi : i < r) : ∀ (m n e dt N : Nat) (M : Mem) (s : Nat → Int32) (φ : Nat → UInt32), m + n = c → CV r c t e dt N M s φ → N + 2 * m + 2 < 2 ^ 24 → (∀ d, n ≤ d → d < c → bt W d = !decide (s (68 + (i * c + d)) < nI 0)) →
    ∃ M1 s1 φ1 dt1 z, z ≤ m ∧ FC M M1 ∧ CV r c t (e + z) dt1 (N + 2 * m) M1 s1 φ1 ∧
      (∀ (a1 a2 a3 : Int32) (K : Unit → Mem → Option (Int32 × Mem)) (Q : Int32 → Mem → Prop) (fuel : Nat), m < fuel → wp (K () M1) Q → wp (lp (FX5_pass_50 1 a1 a2 a3 (nI i) W S K) fuel (nI n) M) Q) ∧
      (∀ (Mr : Mem) (a5 : Int32) (K : Int32 → Mem → Option (Int32 × Mem)) (Q : Int32 → Mem → Prop) (fuel z0 : Nat), m < fuel → wp (K (nI (z0 + z)) (put Mr s1 φ1)) Q → wp (lp (FX9_step_44 235 (nI c) (nI (i * c)) S a5 K) fuel (nI z0, nI n) (put Mr s φ)) Q) ∧
      (∀ d, n ≤ d → d < c → decide (s1 (68 + (i * c + d)) < nI 0) = !(bt W d && bt S d)) ∧ (∀ j, j < 48 → (j < i * c + n ∨ i * c + c ≤ j) → s1 (68 + j) = s (68 + j)) := by
  intro m
  induction m with
  | zero =>
    intro n e dt N M s φ hmn H hN hW
    have hd := H.hd
    have hn : n = c := by omega
    subst hn
    refine ⟨M, s, φ, dt, 0, Nat.le_refl 0, FC_refl M, H, fun a1 a2 a3 K Q fuel hfu hK => ?_, fun Mr a5 K Q fuel z0 hfu hK => ?_, fun d h1 h2 => absurd h2 (by omega), fun j _ _ => rfl⟩
    · obtain ⟨k, _, _, el⟩ := lp_1 (F := FX5_pass_50 1 a1 a2 a3 (nI i) W S K) hfu
      rw [el]
      unfold FX5_pass_50
      rw [show (1 : Nat) + 1 = 2 from rfl, H.hc, if_pos (by rw [nI_leI (by omega) (by omega)]; omega)]
      exact hK
    · obtain ⟨k, _, _, el⟩ := lp_1 (F := FX9_step_44 235 (nI n) (nI (i * n)) S a5 K) hfu
      rw [el]
      unfold FX9_step_44
      rw [if_pos (by rw [nI_leI (by omega) (by omega)]; omega)]
      exact hK
  | succ m ih =>
    intro n e dt N M s φ hmn H hN hW
    have hd := H.hd
    have m48 := H.m48
    have hn : n < c := by omega
    have hix := ixlt hi hn
    have hic := row_le (c := c) hi
    have hWn := hW n (Nat.le_refl n) hn
    have hcls : ∀ (a1 a2 a3 : Int32) (K : Unit → Mem → Option (Int32 × Mem)) (rec : Int32 → Mem → Option (Int32 × Mem)), FX5_pass_50 1 a1 a2 a3 (nI i) W S K rec (nI n) M = if bt W n = true ∧ bt S n = false then cal (fX5_endStroke 1 (nI (i * c + n)) M) (fun _ M5 => rec (nI (n + 1)) M5) else rec (nI (n + 1)) M := fun a1 a2 a3 K rec => by
      unfold FX5_pass_50
      simp (disch := omega) only [Nat.reduceAdd, H.hc, nlit', nI_leI, show ¬ c ≤ n by omega, if_false, nm_x, pw_def, and_pw, bt_and, bt_not, nI_mul, nI_add]
      rw [jn_x, decide_eq_true (show n < 32 by omega), Bool.true_and]
      cases bt W n <;> cases bt S n <;> rfl
    have href : ∀ (Mr : Mem) (a5 : Int32) (K : Int32 → Mem → Option (Int32 × Mem)) (rec : Int32 × Int32 → Mem → Option (Int32 × Mem)) (z0 : Nat), FX9_step_44 235 (nI c) (nI (i * c)) S a5 K rec (nI z0, nI n) (put Mr s φ) = if bt W n = true ∧ bt S n = false then cal (fX9_endStroke 235 (nI (i * c + n)) (put Mr s φ)) (fun _ M7 => rec (nI (z0 + 1), nI (n + 1)) M7) else rec (nI z0, nI (n + 1)) (put Mr s φ) := fun Mr a5 K rec z0 => by
      unfold FX9_step_44
      simp (disch := omega) only [nlit', nI_leI, show ¬ c ≤ n by omega, if_false, nI_add, r_isSeen, put_s, ← hWn, cal_x, b2_if, shr_0]
      rw [jn_x]
      cases bt W n <;> cases bt S n <;> rfl
    by_cases hb : bt W n = true ∧ bt S n = false
    · have hs : ¬ s (68 + (i * c + n)) < nI 0 := fun h => by
        rw [hb.1, decide_eq_true h] at hWn
        exact absurd hWn (by decide)
      obtain ⟨s2, φ2, dt2, ⟨_, M2, e2, F2, H2⟩, R2, L2, K2⟩ := j_end H (by omega) hix hs
      obtain ⟨M1, s1, φ1, dt1, z, hz, F1, H1, C1, R1, D1, O1⟩ := ih (n + 1) (e + 1) dt2 (N + 2) M2 s2 φ2 (by omega) H2 (by omega) (fun d h1 h2 => by rw [hW d (by omega) h2, L2 _ (by have := ixlt (r := r) hi h2; omega) (by omega)])
      have hsn : s1 (68 + (i * c + n)) = nm 5 := by rw [O1 _ (by omega) (.inl (by omega)), K2]
      refine ⟨M1, s1, φ1, dt1, z + 1, by omega, FC_trans F2 F1, ?_, fun a1 a2 a3 K Q fuel hfu hK => ?_, fun Mr a5 K Q fuel z0 hfu hK => ?_, fun d h1 h2 => ?_, fun j hj hjo => ?_⟩
      · rw [show e + (z + 1) = e + 1 + z by omega, show N + 2 * (m + 1) = N + 2 + 2 * m by omega]
        exact H1
      · obtain ⟨k, _, hk, el⟩ := lp_1 (F := FX5_pass_50 1 a1 a2 a3 (nI i) W S K) hfu
        rw [el, hcls, if_pos hb, e2, cal_x]
        exact C1 a1 a2 a3 K Q k (by omega) hK
      · obtain ⟨k, _, hk, el⟩ := lp_1 (F := FX9_step_44 235 (nI c) (nI (i * c)) S a5 K) hfu
        rw [el, href, if_pos hb, R2, cal_x]
        refine R1 Mr a5 K Q k (z0 + 1) (by omega) ?_
        rw [show z0 + 1 + z = z0 + (z + 1) by omega]
        exact hK
      · by_cases hdn : d = n
        · subst hdn
          rw [hsn, decide_eq_true (nm_lt0 (by decide) (by decide)), hb.2, Bool.and_false]
          rfl
        · exact D1 d (by omega) h2
      · rw [O1 j hj (by omega), L2 j hj (by omega)]
    · obtain ⟨M1, s1, φ1, dt1, z, hz, F1, H1, C1, R1, D1, O1⟩ := ih (n + 1) e dt N M s φ (by omega) H (by omega) (fun d h1 h2 => hW d (by omega) h2)
      have hsn : s1 (68 + (i * c + n)) = s (68 + (i * c + n)) := O1 _ (by omega) (.inl (by omega))
      refine ⟨M1, s1, φ1, dt1, z, by omega, F1, H1.mono (by omega), fun a1 a2 a3 K Q fuel hfu hK => ?_, fun Mr a5 K Q fuel z0 hfu hK => ?_, fun d h1 h2 => ?_, fun j hj hjo => ?_⟩
      · obtain ⟨k, _, hk, el⟩ := lp_1 (F := FX5_pass_50 1 a1 a2 a3 (nI i) W S K) hfu
        rw [el, hcls, if_neg hb]
        exact C1 a1 a2 a3 K Q k (by omega) hK
      · obtain ⟨k, _, hk, el⟩ := lp_1 (F := FX9_step_44 235 (nI c) (nI (i * c)) S a5 K) hfu
        rw [el, href, if_neg hb]
        exact R1 Mr a5 K Q k z0 (by omega) hK
      · by_cases hdn : d = n
        · subst hdn
          rw [hsn]
          have : decide (s (68 + (i * c + d)) < nI 0) = !bt W d := by rw [hWn, Bool.not_not]
          rw [this]
          cases h1 : bt W d
          · rfl
          · cases h2 : bt S d
            · exact absurd ⟨h1, h2⟩ hb
            · rfl
        · exact D1 d (by omega) h2
      · exact O1 j hj (by omega)
/-- one tick -/
theorem j_step {r c t e dt N : Nat} {M : Mem} {s : Nat → Int32} {φ : Nat → UInt32} (H : CV r c t e dt N M s φ) (hN : N + 40 < 2 ^ 24) :
    ∃ M1 s1 φ1 dt1 z, FC M M1 ∧ CV r c (t + 1) (e + z) dt1 (N + 17) M1 s1 φ1 ∧
      (∀ (n b : Nat) (a2 : Int32) (rec : Int32 → Mem → Option (Int32 × Mem)) (Q : Int32 → Mem → Prop), b < n → n < 2 ^ 30 → wp (rec (nI (b + 1)) M1) Q → wp (FX5_pass_10 1 (nI n) a2 rec (nI b) M) Q) ∧
      (∀ Mr, wp (fX9_step 235 (put Mr s φ)) (fun v M5 => v = nI z ∧ ∃ M6, FD Mr M6 ∧ M5 = put M6 s1 φ1)) := by
  have hd := H.hd
  have m48 := H.m48
  have tN := H.tN
  have hi : t % r < r := Nat.mod_lt t (by omega)
  have hic := row_le (c := c) hi
  obtain ⟨M1, s1, φ1, dt1, z, hz, F1, H1, C1, R1, D1, _⟩ := j_ends (W := M.1 9 (t % r)) (S := sw (Dm s r c) (t % r)) hi c 0 e dt N M s φ (by omega) H (by omega) (fun d _ hd2 => (H.bitid hi hd2).2.1)
  have hS : ∀ d, ¬ d < c → bt (sw (Dm s r c) (t % r)) d = false := fun d hdc => by
    cases h : bt (sw (Dm s r c) (t % r)) d
    · rfl
    · exact absurd (sw_c hd.2.2.2 h) hdc
  have hfb : ∀ d, bt (sw (Dm s r c) (t % r) &&& (M.1 9 (t % r) ^^^ nm 1)) d = (bt (sw (Dm s r c) (t % r)) d && (decide (d < 32) && !bt (M.1 9 (t % r)) d)) := fun d => by rw [bt_and, bt_not]
  have hf0 : ∀ d, ¬ d < c → bt (sw (Dm s r c) (t % r) &&& (M.1 9 (t % r) ^^^ nm 1)) d = false := fun d hdc => by rw [hfb, hS d hdc, Bool.false_and]
  have hf : ∀ d, d < c → bt (sw (Dm s r c) (t % r) &&& (M.1 9 (t % r) ^^^ nm 1)) d = (bt (sw (Dm s r c) (t % r)) d && decide (s1 (68 + (t % r * c + d)) < nI 0)) := fun d hdc => by
    rw [hfb, D1 d (Nat.zero_le d) hdc, decide_eq_true (show d < 32 by omega), Bool.true_and]
    cases bt (sw (Dm s r c) (t % r)) d <;> cases bt (M.1 9 (t % r)) d <;> rfl
  have hfr : ∀ d, d < c → bt (sw (Dm s r c) (t % r) &&& (M.1 9 (t % r) ^^^ nm 1)) d = true → s1 (68 + (t % r * c + d)) < nI 0 := fun d hdc h => by
    rw [hf d hdc, Bool.and_eq_true] at h
    exact of_decide_eq_true h.2
  have hdr : fX5_drivenRow 1 M = some (nI (t % r), M) := by
    unfold fX5_drivenRow
    simp (disch := omega) only [Nat.reduceAdd, H.hr, H.t1, nlit', nI_leI, show ¬ r ≤ 0 by omega, if_false, e_fmod, cal_x]
  have hsn := H.sens hi
  have t30 : t < 2 ^ 30 := by omega
  obtain ⟨M2, F2, S2, E2⟩ : ∃ M2, FC M1 M2 ∧ SeeM s1 r c (t % r) t (sw (Dm s r c) (t % r) &&& (M.1 9 (t % r) ^^^ nm 1)) M1 M2 ∧
      (∀ (K : Unit → Mem → Option (Int32 × Mem)) (Q : Int32 → Mem → Prop), wp (K () M2) Q → wp (if (sw (Dm s r c) (t % r) &&& (M.1 9 (t % r) ^^^ nm 1)) = nI 0 then K () M1 else cal (fX0_see 2 (nI (t % r)) (sw (Dm s r c) (t % r) &&& (M.1 9 (t % r) ^^^ nm 1)) (nI t) M1) (fun _ M17 => K () M17)) Q) := by
    by_cases hz0 : (sw (Dm s r c) (t % r) &&& (M.1 9 (t % r) ^^^ nm 1)) = nI 0
    · exact ⟨M1, FC_refl M1, SeeM_0 hz0, fun K Q hK => by rw [if_pos hz0]; exact hK⟩
    · obtain ⟨_, M2, e2, S2⟩ := e_see H1 hi t30 hf0 hfr
      refine ⟨M2, fun k hk => ⟨S2.1 k (by omega) (by omega) (by omega) (by omega) (by omega), by rw [S2.2.1]⟩, S2, fun K Q hK => ?_⟩
      rw [if_neg hz0, e2, cal_x]
      exact hK
  have H3 := CV_see H1 hi t30 hf0 hfr S2
  have e6 : M2.1 1 6 = nI t := by rw [S2.1 1 (by omega) (by omega) (by omega) (by omega) (by omega)]; exact H1.t1
  have e6' : M1.1 1 6 = nI t := H1.t1
  refine ⟨_, _, φ1, dt1, z, FC_trans F1 (FC_trans F2 (FC_1 (by omega))), H3.mono (by omega), fun n b a2 rec Q hbn hn hK => ?_, fun Mr => ?_⟩
  · unfold FX5_pass_10
    simp (disch := omega) only [nI_leI, show ¬ n ≤ b by omega, if_false, hdr, cal_x, Nat.reduceAdd]
    rw [e_at M (show t % r < ln 9 by rw [ln_9]; omega), cal_x, show (-1 : Int32) = nm 1 from rfl, hsn, cal_x]
    refine C1 _ _ _ _ _ 1000000 (by omega) ?_
    rw [e6', show (0 : Int32) = nI 0 from rfl, jn_x]
    refine E2 (fun _ M14 => bnd (w1 M14 1 6 ((M14.1 1 6) + 1)) (fun M15 => rec (nI b + 1) M15)) Q ?_
    rw [bnd_x, e6, show (1 : Int32) = nI 1 from rfl, nI_add, nI_add]
    exact hK
  · have hdiv : t % r * c / c = t % r := Nat.mul_div_cancel _ (by omega)
    unfold fX9_step
    simp (disch := first | omega | (simp only [ln_3, ln_4, ln_5, ln_6, ln_7, ln_8, ln_9, ln_10, ln_11, ln_13, ln_15, ln_17, ln_18, ln_19, ln_20, ln_21, ln_22, ln_23, ln_25, ln_26, ln_27, ln_28, ln_29, ln_30, ln_31, ln_33, ln_234, ln_236, ln_237, ln_238, ln_239, ln_240, ln_241, ln_242, ln_243, ln_244]; omega)) only [Nat.reduceAdd, nlit', ln_236, inb_nI, nI_clamp, nzb_nI, asr_x, bnd_x, put_s, H.sc, H.sr, H.t2, nI_rem, nI_mul, nI_div, hdiv]
    rw [wp_cal]
    refine wp_mono (r_sensed (M := put Mr s φ) hd (by rw [put_s]; exact H.sr) (by rw [put_s]; exact H.sc) hi) (fun _ M4 ⟨d1, d2⟩ => ?_)
    obtain ⟨M6, fd, e4⟩ := FD_put d1
    rw [put_s] at d2
    rw [d2, e4]
    refine R1 M6 _ _ _ 1000000 0 (by omega) ?_
    rw [Nat.zero_add]
    have x5 := H1.shift (p := 0) (by omega)
    have x6 := H1.shift (p := 1) (by omega)
    refine r_90 hd hi H1.t2 hf0 hf ?_
    have hlo : ∀ x, x < 68 → rA s1 c (t % r) t (bt (sw (Dm s r c) (t % r) &&& (M.1 9 (t % r) ^^^ nm 1))) x = s1 x := fun x hx => by
      unfold rA
      rw [mark_o (by omega)]
    refine r_153 hd hi (by rw [hlo _ (by omega)]; exact H1.sr) (by rw [hlo _ (by omega)]; exact H1.sc) ?_
    refine r_207 (x0 := M1.1 11 0) (x1 := M1.1 11 1) (h := fun d => s1 (20 + (t % r * c + d))) hd hi ?_ ?_ (fun d hdc => ?_) ?_
    · rw [mark_o (by omega), hlo _ (by omega)]
      exact (by rcases x5 with q | ⟨k, hk, q⟩; exact .inl q; exact .inr ⟨k, by omega, q⟩)
    · rw [mark_o (by omega), hlo _ (by omega)]
      exact (by rcases x6 with q | ⟨k, hk, q⟩; exact .inl q; exact .inr ⟨k, by omega, q⟩)
    · have := ixlt (r := r) hi hdc
      rw [mark_o (by omega), hlo _ (by omega)]
    · have er : mark (mark (mark (rA s1 c (t % r) t (bt (sw (Dm s r c) (t % r) &&& (M.1 9 (t % r) ^^^ nm 1)))) (116 + t % r * c) c (bt (sw (Dm s r c) (t % r) &&& (M.1 9 (t % r) ^^^ nm 1))) (fun d => b2 (corV (rA s1 c (t % r) t (bt (sw (Dm s r c) (t % r) &&& (M.1 9 (t % r) ^^^ nm 1)))) r c (t % r) d))) (164 + t % r * c) c (bt (sw (Dm s r c) (t % r) &&& (M.1 9 (t % r) ^^^ nm 1))) (fun _ => nI (onN (onv (mark (rA s1 c (t % r) t (bt (sw (Dm s r c) (t % r) &&& (M.1 9 (t % r) ^^^ nm 1)))) (116 + t % r * c) c (bt (sw (Dm s r c) (t % r) &&& (M.1 9 (t % r) ^^^ nm 1))) (fun d => b2 (corV (rA s1 c (t % r) t (bt (sw (Dm s r c) (t % r) &&& (M.1 9 (t % r) ^^^ nm 1)))) r c (t % r) d))) 0) (onv (mark (rA s1 c (t % r) t (bt (sw (Dm s r c) (t % r) &&& (M.1 9 (t % r) ^^^ nm 1)))) (116 + t % r * c) c (bt (sw (Dm s r c) (t % r) &&& (M.1 9 (t % r) ^^^ nm 1))) (fun d => b2 (corV (rA s1 c (t % r) t (bt (sw (Dm s r c) (t % r) &&& (M.1 9 (t % r) ^^^ nm 1)))) r c (t % r) d))) 1)))) (212 + t % r * c) c (bt (sw (Dm s r c) (t % r) &&& (M.1 9 (t % r) ^^^ nm 1))) (fun d => s1 (20 + (t % r * c + d))) = rC s1 r c (t % r) t (bt (sw (Dm s r c) (t % r) &&& (M.1 9 (t % r) ^^^ nm 1))) := rfl
      rw [er]
      have z2 : rC s1 r c (t % r) t (bt (sw (Dm s r c) (t % r) &&& (M.1 9 (t % r) ^^^ nm 1))) 2 = nI t := by rw [rC_lo (by omega)]; exact H1.t2
      generalize rC s1 r c (t % r) t (bt (sw (Dm s r c) (t % r) &&& (M.1 9 (t % r) ^^^ nm 1))) = s3 at *
      simp (disch := first | omega | (simp only [ln_3, ln_4, ln_5, ln_6, ln_7, ln_8, ln_9, ln_10, ln_11, ln_13, ln_15, ln_17, ln_18, ln_19, ln_20, ln_21, ln_22, ln_23, ln_25, ln_26, ln_27, ln_28, ln_29, ln_30, ln_31, ln_33, ln_234, ln_236, ln_237, ln_238, ln_239, ln_240, ln_241, ln_242, ln_243, ln_244]; omega)) only [Nat.reduceAdd, nlit', ln_236, inb_nI, nI_clamp, asr_x, bnd_x, put_s, put_w1, z2, nI_add, wp_some]
      exact ⟨trivial, M6, fd, rfl⟩
theorem FD_tr {M M1 M2 : Mem} (h : FD M M1) (g : FD M1 M2) : FD M M2 := FD_trans h g
theorem j_pass {r c n : Nat} (hn : n < 2 ^ 20) : ∀ (m b t e dt N : Nat) (M : Mem) (s : Nat → Int32) (φ : Nat → UInt32), m + b = n → CV r c t e dt N M s φ → N + 17 * m + 40 < 2 ^ 24 →
    ∃ M1 s1 φ1 dt1 z, FC M M1 ∧ CV r c (t + m) (e + z) dt1 (N + 17 * m) M1 s1 φ1 ∧
      (∀ (a2 : Int32) (fuel : Nat), m < fuel → lp (FX5_pass_10 1 (nI n) a2) fuel (nI b) M = some (nI (e + z) - a2, M1)) ∧
      (∀ (Mr : Mem) (z0 fuel : Nat), m < fuel → wp (lp (FX9_steps_4 235 (nI n)) fuel (nI z0, nI b) (put Mr s φ)) (fun v M5 => v = nI (z0 + z) ∧ ∃ M6, FD Mr M6 ∧ M5 = put M6 s1 φ1)) := by
  intro m
  induction m with
  | zero =>
    intro b t e dt N M s φ hmb H hN
    have hb : b = n := by omega
    subst hb
    refine ⟨M, s, φ, dt, 0, FC_refl M, H, fun a2 fuel hfu => ?_, fun Mr z0 fuel hfu => ?_⟩
    · obtain ⟨k, _, _, el⟩ := lp_1 (F := FX5_pass_10 1 (nI b) a2) hfu
      rw [el]
      unfold FX5_pass_10
      rw [if_pos (by rw [nI_leI (by omega) (by omega)]; omega), show (1 : Nat) + 15 = 16 from rfl, H.e1]
      rfl
    · obtain ⟨k, _, _, el⟩ := lp_1 (F := FX9_steps_4 235 (nI b)) hfu
      rw [el]
      unfold FX9_steps_4
      rw [if_pos (by rw [nI_leI (by omega) (by omega)]; omega), wp_some]
      exact ⟨rfl, Mr, FD_refl Mr, rfl⟩
  | succ m ih =>
    intro b t e dt N M s φ hmb H hN
    obtain ⟨M2, s2, φ2, dt2, z2, F2, H2, C2, R2⟩ := j_step H (by omega)
    obtain ⟨M1, s1, φ1, dt1, z, F1, H1, C1, R1⟩ := ih (b + 1) (t + 1) (e + z2) dt2 (N + 17) M2 s2 φ2 (by omega) H2 (by omega)
    refine ⟨M1, s1, φ1, dt1, z2 + z, FC_trans F2 F1, ?_, fun a2 fuel hfu => ?_, fun Mr z0 fuel hfu => ?_⟩
    · rw [show t + (m + 1) = t + 1 + m by omega, show e + (z2 + z) = e + z2 + z by omega, show N + 17 * (m + 1) = N + 17 + 17 * m by omega]
      exact H1
    · obtain ⟨k, _, hk, el⟩ := lp_1 (F := FX5_pass_10 1 (nI n) a2) hfu
      rw [el]
      refine wp_eq (C2 n b a2 _ _ (by omega) (by omega) ?_)
      rw [C1 a2 k (by omega), wp_some]
      exact ⟨by rw [Nat.add_assoc], rfl⟩
    · obtain ⟨k, _, hk, el⟩ := lp_1 (F := FX9_steps_4 235 (nI n)) hfu
      rw [el]
      unfold FX9_steps_4
      rw [if_neg (by rw [nI_leI (by omega) (by omega)]; omega), wp_cal]
      refine wp_mono (R2 Mr) (fun v M5 ⟨ev, M6, fd, e5⟩ => ?_)
      subst ev e5
      rw [nI_add, show (1 : Int32) = nI 1 from rfl, nI_add]
      refine wp_mono (R1 M6 (z0 + z2) k (by omega)) (fun v M7 ⟨ev, M8, fd2, e7⟩ => ?_)
      exact ⟨by rw [ev, Nat.add_assoc], M8, FD_trans fd fd2, e7⟩
/-- ticks pass, on both sides -/
theorem j_ticks {r c t e dt N n : Nat} {M : Mem} {s : Nat → Int32} {φ : Nat → UInt32} (H : CV r c t e dt N M s φ) (hn : n ≤ 99) (hN : N + 17 * n + 40 < 2 ^ 24) :
    ∃ M1 s1 φ1 t1 e1 dt1 z, FC M M1 ∧ CV r c t1 e1 dt1 (N + 17 * n) M1 s1 φ1 ∧ z < 2 ^ 24 ∧ fX5_pass 1 (nI n) M = some (nI z, M1) ∧ (∀ Mr, wp (fX9_steps 235 (nI n) (put Mr s φ)) (fun v M5 => v = nI z ∧ ∃ M6, FD Mr M6 ∧ M5 = put M6 s1 φ1)) := by
  obtain ⟨M1, s1, φ1, dt1, z, F1, H1, C1, R1⟩ := j_pass (n := n) (by omega) n 0 t e dt N M s φ (by omega) H hN
  have eN := H1.eN
  refine ⟨M1, s1, φ1, _, _, dt1, z, F1, H1, by omega, ?_, fun Mr => ?_⟩
  · unfold fX5_pass
    have := C1 (nI e) 1000000 (by omega)
    rw [nI_sub (by omega), Nat.add_sub_cancel_left] at this
    rw [show (1 : Nat) + 15 = 16 from rfl, H.e1]
    exact this
  · unfold fX9_steps
    have := R1 Mr 0 1000000 (by omega)
    rw [Nat.zero_add] at this
    exact this
theorem st_tick {N : Nat} {M : Mem} {x : Int32} (h : IV N M) (hN : N + 4000 < 2 ^ 24) : W2 (N + 2000) (fX8_tick 0 x) (fX9_tick 235 x) M := by
  obtain ⟨r, c, t, e, dt, H⟩ := h.nf
  have hout : (x < nI 1 ∨ nI 99 < x) → W2 (N + 2000) (fX8_tick 0 x) (fX9_tick 235 x) M := fun hx => by
    refine W2_mono (W2_same' (r := nm 2) h ?_ ?_) (Nat.le_add_right N 2000)
    · unfold fX8_tick
      by_cases h0 : x < nI 1
      · simp only [nlit', nm_x, h0, if_true]
      · have h3 : ¬ x ≤ nI 99 := by
          rcases hx with q | q
          · exact absurd q h0
          · rw [Int32.le_iff_toInt_le]
            rw [Int32.lt_iff_toInt_lt] at q
            omega
        simp only [nlit', nm_x, h0, h3, if_false]
    · unfold fX9_tick
      simp only [nlit', nm_x, e_in0 M hx, cal_x, if_true]
  rcases pk_ix x (show 100 < 2 ^ 31 by decide) with hx | hx | ⟨n, hn, rfl⟩
  · exact hout (.inl (by
      rw [Int32.lt_iff_toInt_lt] at hx ⊢
      have e0 : (nI 0).toInt = 0 := by decide
      have e1 : (nI 1).toInt = 1 := by decide
      have ez : (0 : Int32).toInt = 0 := by decide
      omega))
  · exact hout (.inr (by rw [lt_of_le_nI (by decide)]; exact hx))
  by_cases h1 : n = 0
  · subst h1
    exact hout (.inl (by decide))
  have a1 : ¬ nI n < nI 1 := by rw [nI_ltI (by omega) (by decide)]; omega
  have a2 : nI n ≤ nI 99 := by rw [nI_leI (by omega) (by decide)]; omega
  obtain ⟨q0, st, M1, e1, hc, g1⟩ := mut_rec h
  have H1 : CV r c t e dt N M1 (M.1 236) (M.2 240) := CV.v (M := M) H (fun k _ _ => g1 k (by omega))
  obtain ⟨M2, s1, φ1, t1, ee1, dt1, z, F2, H2, hz, C2, R2⟩ := j_ticks (n := n) H1 (by omega) (by omega)
  unfold W2 fX8_tick
  simp only [nlit', Nat.reduceAdd, a1, a2, if_true, if_false, e1, cal_x, C2, wp_some]
  have f1' := e_in1 (k := n) (a := 1) (b := 99) M2 (by omega) (by omega) (by decide)
  unfold fX9_tick
  simp only [nlit', f1', cal_x, n10, if_false]
  refine mut_put h (show N ≤ N + 2000 by omega) hc g1 F2 (H2.mono (show N + 17 * n ≤ N + 2000 by omega)) (fun M3 => ?_)
  rw [wp_cal]
  refine wp_mono (R2 M3) (fun v M5 hv => ?_)
  rw [wp_some]
  exact hv
