/-! PURE: a stroke ends, on both sides -/
theorem rwE_def {s : Nat → Int32} {e k u d w : Nat} {h q : Int32} : rwE s e k u d w h q = upd (upd (upd (upd (upd (upd (upd s (308 + 6 * (e % 16)) (nI k)) (308 + 6 * (e % 16) + 1) (nI u)) (308 + 6 * (e % 16) + 2) (nI d)) (308 + 6 * (e % 16) + 3) (nI w)) (308 + 6 * (e % 16) + 4) h) (308 + 6 * (e % 16) + 5) q) 9 (nI (e + 1)) := rfl
theorem upd_comm {f : Nat → Int32} {i j : Nat} {x y : Int32} (h : i ≠ j) : upd (upd f i x) j y = upd (upd f j y) i x := by
  funext k
  simp only [upd_at]
  by_cases h1 : k = i
  · subst h1
    rw [if_neg h, if_pos rfl, if_pos rfl]
  · rw [if_neg h1, if_neg h1]
theorem lose_upd {f : Nat → Int32} {k i : Nat} {x : Int32} (h1 : i ≠ 68 + k) (h2 : i ≠ 116 + k) : upd (lose k f) i x = lose k (upd f i x) := by
  unfold lose
  rw [upd_comm (show 116 + k ≠ i by omega), upd_comm (show 68 + k ≠ i by omega)]
theorem lose_cpo {f g : Nat → Int32} {k off n : Nat} (h : 116 + k < off) : cpo (lose k f) g off n = lose k (cpo f g off n) := by
  funext i
  by_cases h1 : off ≤ i ∧ i < off + n
  · rw [lose_o (by omega) (by omega)]
    unfold cpo
    rw [if_pos h1, if_pos h1]
  · rw [cpo_off (by omega)]
    by_cases h2 : i = 68 + k
    · subst h2
      rw [lose_k.1, lose_k.1]
    · by_cases h3 : i = 116 + k
      · subst h3
        rw [lose_k.2, lose_k.2]
      · rw [lose_o h2 h3, lose_o h2 h3, cpo_off (by omega)]
theorem lose_rwD {s : Nat → Int32} {k dt e : Nat} (hk : k < 48) : rwD (lose k s) dt e = lose k (rwD s dt e) := by
  have : (fun j => lose k s (308 + 6 * (e % 16) + j)) = fun j => s (308 + 6 * (e % 16) + j) := funext fun j => lose_o (by omega) (by omega)
  unfold rwD
  rw [this, lose_cpo (by omega), lose_upd (by omega) (by omega), lose_upd (by omega) (by omega), lose_upd (by omega) (by omega)]
theorem lose_rwC {s : Nat → Int32} {k w : Nat} {h : Int32} (hk : k < 48) (hw : w < 3) : rwC w h (lose k s) = lose k (rwC w h s) := by
  unfold rwC
  split
  · rw [lose_o (by omega) (by omega), lose_o (by omega) (by omega), lose_upd (by omega) (by omega), lose_upd (by omega) (by omega)]
  · rw [lose_o (by omega) (by omega), lose_o (by omega) (by omega), lose_upd (by omega) (by omega), lose_upd (by omega) (by omega)]
theorem lose_rwG {s : Nat → Int32} {k n p k2 q : Nat} (hk : k < 48) (hp : p < 2) : rwG n p k2 q (lose k s) = lose k (rwG n p k2 q s) := by
  have e1 : capB (lose k s) p q = capB s p q := by
    unfold capB
    rw [lose_o (by omega) (by omega)]
  unfold rwG
  rw [e1, lose_o (show 260 + k2 ≠ 68 + k by omega) (by omega), lose_o (show 17 + p ≠ 68 + k by omega) (by omega)]
  split
  · split
    · rfl
    · rw [lose_upd (by omega) (by omega), lose_upd (by omega) (by omega)]
  · rfl
theorem lose_lrF {s : Nat → Int32} {φ : Nat → UInt32} {k p u d : Nat} (hk : k < 48) (hp : p < 2) : lrF p u d (lose k s) φ = lrF p u d s φ := by
  unfold lrF
  rw [lose_o (by omega) (by omega)]
theorem lose_fin {s : Nat → Int32} {φ : Nat → UInt32} {k n w k2 u d q : Nat} {h : Int32} {tb : Bool} (hk : k < 48) (hw : w < 3) : finS n w k2 u q h tb (lose k s) = lose k (finS n w k2 u q h tb s) ∧ finF w u d h tb (lose k s) φ = finF w u d h tb s φ := by
  unfold finS finF
  by_cases h2 : w = 2
  · simp only [h2, if_true, and_true]
    exact lose_rwC hk (by omega)
  · simp only [h2, if_false]
    cases tb
    · simp only [Bool.false_eq_true, if_false, and_true]
      rw [lose_rwC hk hw, lose_rwG hk (by omega)]
    · simp only [if_true]
      rw [lose_rwC hk hw, lose_upd (by omega) (by omega), lose_rwG hk (by omega), lose_lrF hk (by omega)]
      exact ⟨rfl, rfl⟩
theorem jn_x {γ β δ : Type} {K : γ → Mem → Option β} {F : (γ → Mem → Option β) → δ} : jn K F = F K := Eq.trans jn_e rfl
theorem cal_x {γ β : Type} {v : γ} {M : Mem} {k : γ → Mem → Option β} : cal (some (v, M)) k = k v M := Eq.trans cal_e rfl
theorem bnd_x {γ δ : Type} {e : γ} {k : γ → δ} : bnd e k = k e := Eq.trans bnd_e rfl
theorem asr_x {β : Type} {k : Option β} : asr true k = k := Eq.trans asr_e rfl
theorem nm_x (n : Nat) : -(nI n) = nm n := Eq.trans (nm_def n) rfl
section END
variable {r c t e dt N : Nat} {M Mc : Mem} {s : Nat → Int32} {φ : Nat → UInt32}
theorem r_endStroke {k u w q : Nat} {tb : Bool} (H : CV r c t e dt N Mc s φ) (H1 : CV r c t (e + 1) dt (N + 1) M (rwE s e k u (t - u) w (s (212 + k)) (s (164 + k))) φ) (hN : N + 2 < 2 ^ 24) (hk : k < r * c) (hs : ¬ s (68 + k) < nI 0)
    (g1 : s (68 + k) = nI u) (hu : u ≤ t) (hq : q < 4) (q1 : s (164 + k) = nI q) (hw : w < 4) (ew : jS s φ k t dt = nI w) (hd20 : w = 3 → dt < 20) (htb : tb = !(decide (s 5 = nI k) || decide (s 6 = nI k))) (Mr : Mem) :
    fX9_endStroke 235 (nI k) (put Mr s φ) = some ((), put Mr (lose k (if w = 3 then rwD (rwE s e k u (t - u) w (s (212 + k)) (s (164 + k))) dt e else finS (r * c) w k u q (s (212 + k)) tb (rwE s e k u (t - u) w (s (212 + k)) (s (164 + k)))))
      (if w = 3 then φ else finF w u (t - u) (s (212 + k)) tb (rwE s e k u (t - u) w (s (212 + k)) (s (164 + k))) φ)) := by
  have m48 := H.m48
  have tN := H.tN
  have eN := H.eN
  have h16 : e % 16 < 16 := Nat.mod_lt _ (by decide)
  have d2 : rwE s e k u (t - u) w (s (212 + k)) (s (164 + k)) 16 = nI dt := H1.d2
  have z212 : rwE s e k u (t - u) w (s (212 + k)) (s (164 + k)) (212 + k) = s (212 + k) := rwE_o (by omega) (by omega)
  have z164 : rwE s e k u (t - u) w (s (212 + k)) (s (164 + k)) (164 + k) = s (164 + k) := rwE_o (by omega) (by omega)
  have z5 : rwE s e k u (t - u) w (s (212 + k)) (s (164 + k)) 5 = s 5 := rwE_o (by omega) (by omega)
  have z6 : rwE s e k u (t - u) w (s (212 + k)) (s (164 + k)) 6 = s 6 := rwE_o (by omega) (by omega)
  unfold fX9_endStroke
  rw [r_judgedC H (by omega) hk hs, ew, cal_x]
  simp (disch := first | omega | (simp only [ln_3, ln_4, ln_5, ln_6, ln_7, ln_8, ln_9, ln_10, ln_11, ln_13, ln_15, ln_17, ln_18, ln_19, ln_20, ln_21, ln_22, ln_23, ln_25, ln_26, ln_27, ln_28, ln_29, ln_30, ln_31, ln_33, ln_234, ln_236, ln_237, ln_238, ln_239, ln_240, ln_241, ln_242, ln_243, ln_244]; omega)) only [nlit', nI_add, nI_mul, nI_rem, nI_sub, inb_nI, nI_clamp, ln_236, Nat.reduceAdd, asr_x, bnd_x, put_s, put_w1, g1, H.t2, H.e2, H.d2, upd_ne, Nat.add_zero]
  rw [← rwE_def]
  generalize rwE s e k u (t - u) w (s (212 + k)) (s (164 + k)) = s1 at *
  by_cases h3 : w = 3
  · subst h3
    have hdt := hd20 rfl
    rw [if_pos rfl, if_pos rfl]
    have key : ∀ (K : Unit → Mem → Option (Unit × Mem)) (v : Mem), K () (put Mr (cpo s1 (fun j => s1 (308 + 6 * (e % 16) + j)) (404 + 7 * dt) 6) φ) = some ((), v) → ∀ a1 v1 v3 v4 v5, lp (FX9_endStroke_163 235 a1 v1 v3 v4 v5 (nI (308 + 6 * (e % 16))) (nI (404 + 7 * dt)) K) 1000000 (nI 0) (put Mr s1 φ) = some ((), v) := fun K v hK a1 v1 v3 v4 v5 =>
      by
        rw [← nlit' 0]
        exact wp_eqU (r_dloop (Q := fun _ M1 => M1 = v) (by omega) hdt (by rw [hK, wp_some]))
    simp only [jn_x, if_true, d2, nI_mul, nI_add]
    refine key _ _ ?_ _ _ _ _ _
    have z1 : upd (upd (cpo s1 (fun j => s1 (308 + 6 * (e % 16) + j)) (404 + 7 * dt) 6) (404 + 7 * dt + 3) (nm 5)) (404 + 7 * dt + 6) (nI e) 16 = nI dt := by rw [upd_ne (by omega), upd_ne (by omega), cpo_off (by omega), d2]
    have z2 : rwD s1 dt e (212 + k) = s1 (212 + k) := rwD_o (by omega) (by omega)
    have ec : ∀ (x : Int32) (M : Mem), fX9_countIt 235 (nI 3) x M = some ((), M) := fun x M => by
      unfold fX9_countIt
      rw [if_pos (show (2 : Int32) ≤ nI 3 by decide), if_neg (show ¬ nI 3 = (2 : Int32) by decide)]
    have erd : upd (upd (upd (cpo s1 (fun j => s1 (308 + 6 * (e % 16) + j)) (404 + 7 * dt) 6) (404 + 7 * dt + 3) (nm 5)) (404 + 7 * dt + 6) (nI e)) 16 (nI (dt + 1)) = rwD s1 dt e := rfl
    simp (disch := first | omega | (simp only [ln_3, ln_4, ln_5, ln_6, ln_7, ln_8, ln_9, ln_10, ln_11, ln_13, ln_15, ln_17, ln_18, ln_19, ln_20, ln_21, ln_22, ln_23, ln_25, ln_26, ln_27, ln_28, ln_29, ln_30, ln_31, ln_33, ln_234, ln_236, ln_237, ln_238, ln_239, ln_240, ln_241, ln_242, ln_243, ln_244]; omega)) only [d2, nI_mul, nI_add, inb_nI, nI_clamp, ln_236, asr_x, bnd_x, put_s, put_w1, nm_x, nlit', z1, erd, ec, cal_x, jn_x, nI_leI, Nat.reduceLeDiff, if_true]
    rfl
  · have hw3 : w < 3 := by omega
    have n3 : ¬ nI w = nI 3 := by rw [nI_eq (by omega) (by decide)]; omega
    rw [if_neg h3, if_neg h3]
    simp (disch := first | omega | (simp only [ln_3, ln_4, ln_5, ln_6, ln_7, ln_8, ln_9, ln_10, ln_11, ln_13, ln_15, ln_17, ln_18, ln_19, ln_20, ln_21, ln_22, ln_23, ln_25, ln_26, ln_27, ln_28, ln_29, ln_30, ln_31, ln_33, ln_234, ln_236, ln_237, ln_238, ln_239, ln_240, ln_241, ln_242, ln_243, ln_244]; omega)) only [n3, jn_x, if_false, inb_nI, nI_clamp, ln_236, asr_x, put_s, z212, r_count hw3, cal_x, Nat.reduceAdd]
    have c212 : ∀ i, 19 ≤ i → rwC w (s (212 + k)) s1 i = s1 i := fun i hi => by
      unfold rwC
      split
      · rw [upd_ne (by omega), upd_ne (by omega)]
      · rw [upd_ne (by omega), upd_ne (by omega)]
    have c5 : rwC w (s (212 + k)) s1 5 = s1 5 ∧ rwC w (s (212 + k)) s1 6 = s1 6 := by
      unfold rwC
      split
      · exact ⟨by rw [upd_ne (by omega), upd_ne (by omega)], by rw [upd_ne (by omega), upd_ne (by omega)]⟩
      · exact ⟨by rw [upd_ne (by omega), upd_ne (by omega)], by rw [upd_ne (by omega), upd_ne (by omega)]⟩
    by_cases h2 : w = 2
    · subst h2
      simp (disch := first | omega | (simp only [ln_3, ln_4, ln_5, ln_6, ln_7, ln_8, ln_9, ln_10, ln_11, ln_13, ln_15, ln_17, ln_18, ln_19, ln_20, ln_21, ln_22, ln_23, ln_25, ln_26, ln_27, ln_28, ln_29, ln_30, ln_31, ln_33, ln_234, ln_236, ln_237, ln_238, ln_239, ln_240, ln_241, ln_242, ln_243, ln_244]; omega)) only [nI_leI, Nat.le_refl, if_true, nm_x, inb_nI, nI_clamp, ln_236, asr_x, bnd_x, put_w1]
      rfl
    · have hp : w < 2 := by omega
      have HC1 := CV_cnt (x := if s (212 + k) = nI w then nI 1 else nI 0) H1 hp
      have es : rwC w (s (212 + k)) s1 = upd (upd s1 (10 + w) (s1 (10 + w) + nI 1)) (12 + w) (s1 (12 + w) + (if s (212 + k) = nI w then nI 1 else nI 0)) := by
        unfold rwC
        rw [if_neg h2]
      rw [← es] at HC1
      have ef : finS (r * c) w k u q (s (212 + k)) tb s1 = rwG (r * c) w k q (if tb = true then upd (rwC w (s (212 + k)) s1) (3 + w) (nI u) else rwC w (s (212 + k)) s1) ∧ finF w u (t - u) (s (212 + k)) tb s1 φ = if tb = true then lrF w u (t - u) (rwC w (s (212 + k)) s1) φ else φ := by
        unfold finS finF
        rw [if_neg h2, if_neg h2]
        exact ⟨rfl, rfl⟩
      rw [ef.1, ef.2]
      have q164 := c212 (164 + k) (by omega)
      rw [z164, q1] at q164
      rw [z5] at c5
      rw [z6] at c5
      generalize rwC w (s (212 + k)) s1 = s2 at *
      obtain ⟨M2, _, HC2, _⟩ := CV_learn (u := u) (d := t - u) HC1 (by omega) hp (by omega) (by omega)
      have n2w : ¬ nI 2 ≤ nI w := by rw [nI_leI (by decide) (by omega)]; omega
      simp only [n2w, if_false, r_shiftOf, put_s, cal_x, c5.1, c5.2]
      have eS : tb = true ∧ (if s 5 = nI k then nI 0 else if s 6 = nI k then nI 1 else nm 5) = nm 5 ∨ tb = false ∧ nI 0 ≤ (if s 5 = nI k then nI 0 else if s 6 = nI k then nI 1 else nm 5) := by
        rw [htb]
        by_cases a : s 5 = nI k
        · right
          rw [if_pos a, decide_eq_true a]
          exact ⟨rfl, by decide⟩
        · by_cases b : s 6 = nI k
          · right
            rw [if_neg a, if_pos b, decide_eq_true b, Bool.or_true]
            exact ⟨rfl, by decide⟩
          · left
            rw [if_neg a, if_neg b, decide_eq_false a, decide_eq_false b]
            exact ⟨rfl, rfl⟩
      rcases eS with ⟨rfl, eS⟩ | ⟨rfl, eS⟩
      · rw [eS, if_neg (show ¬ nI 0 ≤ nm 5 by decide), if_pos rfl, if_pos rfl, r_learn HC1 (by omega) hp (by omega) (by omega), cal_x]
        have q164' : upd s2 (3 + w) (nI u) (164 + k) = nI q := by rw [upd_ne (by omega), q164]
        simp (disch := first | omega | (simp only [ln_3, ln_4, ln_5, ln_6, ln_7, ln_8, ln_9, ln_10, ln_11, ln_13, ln_15, ln_17, ln_18, ln_19, ln_20, ln_21, ln_22, ln_23, ln_25, ln_26, ln_27, ln_28, ln_29, ln_30, ln_31, ln_33, ln_234, ln_236, ln_237, ln_238, ln_239, ln_240, ln_241, ln_242, ln_243, ln_244]; omega)) only [inb_nI, nI_clamp, ln_236, asr_x, put_s, q164', r_sign HC2 (show N + 1 < 2 ^ 24 by omega) hp (show k < 48 by omega) hq, cal_x, bnd_x, nm_x, put_w1]
        rfl
      · rw [if_pos eS, if_neg (by decide), if_neg (by decide)]
        simp (disch := first | omega | (simp only [ln_3, ln_4, ln_5, ln_6, ln_7, ln_8, ln_9, ln_10, ln_11, ln_13, ln_15, ln_17, ln_18, ln_19, ln_20, ln_21, ln_22, ln_23, ln_25, ln_26, ln_27, ln_28, ln_29, ln_30, ln_31, ln_33, ln_234, ln_236, ln_237, ln_238, ln_239, ln_240, ln_241, ln_242, ln_243, ln_244]; omega)) only [inb_nI, nI_clamp, ln_236, asr_x, put_s, q164, r_sign HC1 (show N + 1 < 2 ^ 24 by omega) hp (show k < 48 by omega) hq, cal_x, bnd_x, nm_x, put_w1]
        rfl
theorem lM_2 {k : Nat} : (lM M c k).2 = M.2 := rfl
/-- both sides end the stroke of a key that is seen -/
theorem j_end {k : Nat} (H : CV r c t e dt N M s φ) (hN : N + 2 < 2 ^ 24) (hk : k < r * c) (hs : ¬ s (68 + k) < nI 0) :
    ∃ s2 φ2 dt2, wp (fX5_endStroke 1 (nI k) M) (fun _ M1 => FC M M1 ∧ CV r c t (e + 1) dt2 (N + 2) M1 s2 φ2) ∧ (∀ Mr, fX9_endStroke 235 (nI k) (put Mr s φ) = some ((), put Mr s2 φ2)) ∧ (∀ j, j < 48 → j ≠ k → s2 (68 + j) = s (68 + j)) ∧ s2 (68 + k) = nm 5 := by
  have hd := H.hd
  have m48 := H.m48
  have tN := H.tN
  have eN := H.eN
  have hkr := divr hk
  have h20 : e % 20 < 20 := Nat.mod_lt _ (by decide)
  obtain ⟨⟨u, hu, g1, g2⟩, g3, ⟨q, hq, q1, q2⟩, g4⟩ : (∃ u, u ≤ t ∧ s (68 + k) = nI u ∧ M.1 5 k = nI u) ∧ (s (116 + k) = nI 0 ∨ s (116 + k) = nI 1) ∧ (∃ q, q < 4 ∧ s (164 + k) = nI q ∧ M.1 6 k = nI q) ∧ oN (M.1 7 k) (s (212 + k)) 2 := by
    rcases H.key hk with ⟨g, _⟩ | g
    · rw [g] at hs
      exact absurd (nm_lt0 (by decide) (by decide)) hs
    · exact g
  obtain ⟨w, hw, ew, hw20, _⟩ := jS_c s φ k t dt
  have d20 := H.d20
  have H1 := CV_end (k := k) (u := u) (d := t - u) (w := w) (q := M.1 6 k) H g4
  rw [show M.1 6 k = s (164 + k) by rw [q1, q2]] at H1
  have R := r_endStroke H H1 hN hk hs g1 hu hq q1 hw ew (fun h => by have := hw20 h; omega) rfl
  have H2 := CV_lose H1 hk
  have e0 := oN_eq (H.shift (p := 0) (by omega)) (show k < 2 ^ 31 by omega)
  have e1 := oN_eq (H.shift (p := 1) (by omega)) (show k < 2 ^ 31 by omega)
  simp only [Nat.add_zero, Nat.reduceAdd] at e0 e1
  have ea := e_addFrom (t := t) (w := w) H.e1 (show e < 2 ^ 30 by omega) (show k < 48 by omega) g2 hu (show t < 2 ^ 30 by omega)
  rw [show M.1 6 k = s (164 + k) by rw [q1, q2]] at ea
  obtain ⟨a0, a1, a2, a3, a4, a5⟩ := eM_at (M := M) (e := e) (k := k) (u := u) (d := t - u) (w := w) (h := M.1 7 k) (q := s (164 + k))
  obtain ⟨b0, b1, b2', b3, b4, b5⟩ := rwE_in (s := s) (e := e) (k := k) (u := u) (d := t - u) (w := w) (h := s (212 + k)) (q := s (164 + k))
  have el := e_loseSight (M := eM M e k u (t - u) w (M.1 7 k) (s (164 + k))) (by rw [eM_o (by omega)]; exact H.hc) (by omega) hd.2.2.2 (show k / c < 6 by omega) (show k < 48 by omega)
  have elM : w1 (w1 (eM M e k u (t - u) w (M.1 7 k) (s (164 + k))) 9 (k / c) ((eM M e k u (t - u) w (M.1 7 k) (s (164 + k))).1 9 (k / c) &&& (pw (k % c) ^^^ nm 1))) 10 (k / c) ((eM M e k u (t - u) w (M.1 7 k) (s (164 + k))).1 10 (k / c) &&& (pw (k % c) ^^^ nm 1)) = lM (eM M e k u (t - u) w (M.1 7 k) (s (164 + k))) c k := rfl
  rw [elM] at el
  have F0 : FC M (lM (eM M e k u (t - u) w (M.1 7 k) (s (164 + k))) c k) := fun b hb => ⟨by rw [lM_o (by omega) (by omega), eM_o (by omega)], rfl⟩
  have X : ∀ i, 17 ≤ i → (lM (eM M e k u (t - u) w (M.1 7 k) (s (164 + k))) c k).1 i = (eM M e k u (t - u) w (M.1 7 k) (s (164 + k))).1 i := fun i hi => lM_o (by omega) (by omega)
  have x17 := (X 17 (by omega)).trans a0
  have x18 := (X 18 (by omega)).trans a1
  have x19 := (X 19 (by omega)).trans a2
  have x20 := (X 20 (by omega)).trans a3
  have x21 := (X 21 (by omega)).trans a4
  have x22 := (X 22 (by omega)).trans a5
  have x11 : (lM (eM M e k u (t - u) w (M.1 7 k) (s (164 + k))) c k).1 11 = M.1 11 := by rw [lM_o (by omega) (by omega), eM_o (by omega)]
  have x16 : (eM M e k u (t - u) w (M.1 7 k) (s (164 + k))).1 16 0 = nI (e + 1) := eM_16
  have x16' : (lM (eM M e k u (t - u) w (M.1 7 k) (s (164 + k))) c k).1 16 0 = nI (e + 1) := H2.e1
  have y0 : ∀ i, 0 < i → i < 6 → lose k (rwE s e k u (t - u) w (s (212 + k)) (s (164 + k))) (308 + 6 * (e % 16) + i) = rwE s e k u (t - u) w (s (212 + k)) (s (164 + k)) (308 + 6 * (e % 16) + i) := fun i _ _ => lose_o (by omega) (by omega)
  have y00 : lose k (rwE s e k u (t - u) w (s (212 + k)) (s (164 + k))) (308 + 6 * (e % 16)) = nI k := by rw [lose_o (by omega) (by omega), b0]
  have L68 : ∀ (sx : Nat → Int32), (∀ j, j < 48 → sx (68 + j) = s (68 + j)) → (∀ j, j < 48 → j ≠ k → lose k sx (68 + j) = s (68 + j)) ∧ lose k sx (68 + k) = nm 5 := fun sx h1 =>
    ⟨fun j hj hjk => by rw [lose_o (by omega) (by omega), h1 j hj], lose_k.1⟩
  have F6 : fX5_endStroke 1 (nI k) M = if nI w = 3 then cal (fX6_addLatestOf 24 16 (lM (eM M e k u (t - u) w (M.1 7 k) (s (164 + k))) c k)) (fun v14 M15 => bnd (w1 M15 1 9 ((M15.1 1 9) + 1)) (fun M16 => some ((), M16))) else
      cal (fX5_finish 1 16 (nI e) (nI w) (b2 (!(decide (s 5 = nI k) || decide (s 6 = nI k)))) (lM (eM M e k u (t - u) w (M.1 7 k) (s (164 + k))) c k)) (fun v12 M13 => some ((), M13)) := by
    unfold fX5_endStroke
    simp (disch := omega) only [e_fateC H (show N < 2 ^ 30 by omega) hk hs, ew, cal_e, Nat.reduceAdd, H.t1, ea, el, e_shiftOwner, x11, e0, e1, x16', nlit', nI_sub, Nat.add_sub_cancel, nm_def]
    congr 1
    by_cases a : s 5 = nI k
    · simp [a, jn, b2, show ¬ nI 0 = nm 1 by decide]
    · by_cases b : s 6 = nI k
      · simp [a, b, jn, b2, show ¬ nI 1 = nm 1 by decide]
      · simp [a, b, jn, b2]
  rw [F6]
  by_cases h3 : w = 3
  · subst h3
    rw [if_pos rfl, if_pos rfl] at R
    rw [if_pos (show nI 3 = 3 from rfl)]
    have hdt : dt < 20 := by have := hw20 rfl; omega
    refine ⟨_, _, dt + 1, ?_, R, ?_⟩
    · refine wp_mono (e_addLatest (e := e) H2.d1 hdt x16' (by omega) rfl rfl rfl rfl rfl rfl) (fun _ M1 h => ?_)
      subst h
      rw [x17, x18, x19, x20, x21, x22, upd_self, upd_self, upd_self, upd_self, upd_self, upd_self]
      refine ⟨FC_trans F0 (fun b hb => ⟨dM_o (by omega) (by omega), rfl⟩), ?_⟩
      rw [← lose_rwD (by omega), q1]
      rw [q1] at H2 y00 y0 b0 b1 b2' b3 b4 b5
      exact (CV_dis (e0 := e) H2 hdt (by omega) (by omega) (by omega) (show t - u ≤ N + 1 by omega) hq y00 (by rw [y0 1 (by omega) (by omega), b1]) (by rw [y0 2 (by omega) (by omega), b2']) (by rw [y0 4 (by omega) (by omega), b4]; exact g4) (by rw [y0 5 (by omega) (by omega), b5])).mono (by omega)
    · exact L68 _ (fun j hj => by rw [rwD_o (by omega) (by omega), rwE_o (by omega) (by omega)])
  · have hw3 : w < 3 := by omega
    have n3 : ¬ nI w = 3 := by rw [nlit', nI_eq (by omega) (by decide)]; omega
    rw [if_neg h3, if_neg h3] at R
    rw [if_neg n3]
    refine ⟨_, _, dt, ?_, R, ?_⟩
    · rw [wp_cal]
      refine wp_mono (c_finish (h := s (212 + k)) (k := k) (u := u) (d := t - u) (q := q) H2 (by omega) (.inl rfl) (show e < 2 ^ 31 by omega) hw3 (by rw [x17, upd_self]) (by omega) (by rw [x18, upd_self]) (by omega) (by rw [x19, upd_self]) (by omega) (by rw [x21, upd_self]; exact g4) (by rw [x22, upd_self, q1]) hq) (fun _ M1 ⟨f1, f2⟩ => ?_)
      rw [wp_some]
      refine ⟨FC_trans F0 f1, ?_⟩
      rw [(lose_fin (φ := φ) (d := t - u) (by omega) hw3).1, (lose_fin (n := r * c) (q := q) (k2 := k) (by omega) hw3).2] at f2
      exact f2
    · have c19 : ∀ (n k2 q2 u2 : Nat) (h : Int32) (tb : Bool) (sx : Nat → Int32) (i : Nat), 20 ≤ i → i < 544 → finS n w k2 u2 q2 h tb sx i = sx i := fun n k2 q2 u2 h tb sx i h1 h2 => by
        have r1 : rwC w h sx i = sx i := by
          unfold rwC
          split
          · rw [upd_ne (by omega), upd_ne (by omega)]
          · rw [upd_ne (by omega), upd_ne (by omega)]
        have r2 : ∀ sy : Nat → Int32, rwG n w k2 q2 sy i = sy i := fun sy => by
          unfold rwG
          split
          · split
            · rfl
            · rw [upd_ne (by omega), upd_ne (by omega)]
          · rfl
        unfold finS
        split
        · rename_i hh
          rw [← hh, r1]
        · rw [r2]
          split
          · rw [upd_ne (by omega), r1]
          · exact r1
      exact L68 _ (fun j hj => by rw [c19 _ _ _ _ _ _ _ _ (by omega) (by omega), rwE_o (by omega) (by omega)])
end END
