/-! PURE: setSign -/
theorem own_cases {r c t e dt N k : Nat} {M : Mem} (H : NF r c t e dt N M) (k31 : k < 2 ^ 31) : ∃ o1 o2, (∀ M2 : Mem, M2.1 11 = M.1 11 → fX0_shiftOwner 2 (nI k) M2 = some (o1, M2)) ∧ (∀ M2 : Mem, M2.1 236 = M.1 236 → fX9_shiftOf 235 (nI k) M2 = some (o2, M2)) ∧ ((∃ q, q < 2 ∧ o1 = nI q ∧ o2 = nI q) ∨ (o1 = nm 1 ∧ o2 = nm 5)) := by
  have x0 := oN_eq (H.shift (p := 0) (by omega)) k31
  have x1 := oN_eq (H.shift (p := 1) (by omega)) k31
  simp only [Nat.add_zero, Nat.reduceAdd] at x0 x1
  refine ⟨if M.1 11 0 = nI k then nI 0 else if M.1 11 1 = nI k then nI 1 else nm 1, if M.1 236 5 = nI k then nI 0 else if M.1 236 6 = nI k then nI 1 else nm 5, fun M2 hM2 => by rw [e_shiftOwner, hM2], fun M2 hM2 => by rw [r_shiftOf, hM2], ?_⟩
  simp only [x0, x1]
  by_cases h1 : M.1 236 5 = nI k
  · simp only [h1, if_true]
    exact .inl ⟨0, by decide, rfl, rfl⟩
  · by_cases h2 : M.1 236 6 = nI k
    · simp only [h1, h2, if_true, if_false]
      exact .inl ⟨1, by decide, rfl, rfl⟩
    · simp only [h1, h2, if_false]
      exact .inr ⟨trivial, trivial⟩
theorem e_giveSign {M : Mem} {o x : Int32} {k : Nat} (ho : fX0_shiftOwner 2 (nI k) M = some (o, M)) (hk : k < 48) (hq : (∃ q, q < 2 ∧ o = nI q) ∨ o = nm 1) :
    fX0_giveSign 2 (nI k) x M = some ((), w1 (if o = nm 1 then M else w1 M 11 o.toNatClampNeg (nm 1)) 4 k x) := by
  unfold fX0_giveSign
  rw [ho, cal_e]
  rcases hq with ⟨q, hq, rfl⟩ | rfl
  · have n1 : ¬ nI q = nm 1 := by rw [nI_nm (by omega) (by decide) (by decide)]; exact not_false
    simp (disch := first | omega | (simp only [ln_3, ln_4, ln_5, ln_6, ln_7, ln_8, ln_9, ln_10, ln_11, ln_13, ln_15, ln_17, ln_18, ln_19, ln_20, ln_21, ln_22, ln_23, ln_25, ln_26, ln_27, ln_28, ln_29, ln_30, ln_31, ln_33, ln_234, ln_236, ln_237, ln_238, ln_239, ln_240, ln_241, ln_242, ln_243, ln_244]; omega)) only [nlit, nm_def, n1, if_false, jn_e, Nat.reduceAdd, e_put, cal_e, nI_clamp]
  · simp (disch := first | omega | (simp only [ln_3, ln_4, ln_5, ln_6, ln_7, ln_8, ln_9, ln_10, ln_11, ln_13, ln_15, ln_17, ln_18, ln_19, ln_20, ln_21, ln_22, ln_23, ln_25, ln_26, ln_27, ln_28, ln_29, ln_30, ln_31, ln_33, ln_234, ln_236, ln_237, ln_238, ln_239, ln_240, ln_241, ln_242, ln_243, ln_244]; omega)) only [nlit, nm_def, if_true, jn_e, Nat.reduceAdd, e_put, cal_e]
def okS (x : Int32) : Prop := x = nI 46 ∨ (¬ x = nI 46 ∧ ¬ x < nI 97 ∧ x ≤ nI 122 ∧ ¬ nI 122 < x)
theorem okS_n {x : Int32} (h : ¬ okS x) : ¬ x = nI 46 ∧ (x < nI 97 ∨ (¬ x < nI 97 ∧ ¬ x ≤ nI 122 ∧ nI 122 < x)) := by
  unfold okS at h
  have h1 : ¬ x = nI 46 := fun q => h (.inl q)
  refine ⟨h1, ?_⟩
  by_cases h2 : x < nI 97
  · exact .inl h2
  · refine .inr ⟨h2, ?_⟩
    by_cases h3 : x ≤ nI 122
    · refine absurd (.inr ⟨h1, h2, h3, ?_⟩) h
      rw [Int32.lt_iff_toInt_lt]
      rw [Int32.le_iff_toInt_le] at h3
      omega
    · refine ⟨h3, ?_⟩
      rw [Int32.lt_iff_toInt_lt]
      rw [Int32.le_iff_toInt_le] at h3
      omega
theorem st_setSign {N : Nat} {M : Mem} {y x : Int32} (h : IV N M) (hN : N < 2 ^ 30) : W2 N (fX8_setSign 0 y x) (fX9_setSign 235 y x) M := by
  obtain ⟨r, c, t, e, dt, H⟩ := h.nf
  have hd := H.hd
  have m48 := H.m48
  have hoy : ∀ y : Int32, (y < nI 0 ∨ nI (r * c) ≤ y) → W2 N (fX8_setSign 0 y x) (fX9_setSign 235 y x) M := fun y hy => by
    refine W2_same' (r := nm 1) h ?_ ?_
    · unfold fX8_setSign
      simp only [Nat.reduceAdd, e_hasn H.hr H.hc hy, cal_e, nlit, nm_def, if_true]
    · unfold fX9_setSign
      simp only [r_noKeyn H.sr H.sc hy H.m0 m48, cal_e, nlit, nm_def, n10, if_false]
  rcases pk_ix y H.m31 with hx | hx | ⟨k, hk, rfl⟩
  · exact hoy _ (.inl hx)
  · exact hoy _ (.inr hx)
  have k31 : k < 2 ^ 31 := by omega
  have e0 := e_has H.hr H.hc hk H.m31
  have f0 := r_noKey H.sr H.sc hk m48
  obtain ⟨o1, o2, w1', w2', ho⟩ := own_cases H k31
  have hsg := e_signOf H.hr H.hc m48 hk
  rw [H.sign hk] at hsg
  by_cases hok : okS x
  · have hin : ∀ M2 : Mem, fX9_in x (nI 97) (nI 122) M2 = some (if x = nI 46 then nI 0 else nI 1, M2) := fun M2 => by
      rcases hok with rfl | ⟨a1, a2, a3, a4⟩
      · rfl
      · rw [e_in, if_neg a2, if_neg a4, if_neg a1]
    by_cases hno : M.1 236 (260 + k) = x ∧ o1 = nm 1
    · obtain ⟨z1, rfl⟩ := hno
      have z2 : o2 = nm 5 := by
        rcases ho with ⟨q, hq, z, _⟩ | ⟨_, z⟩
        · have : nm 1 = nI q := z
          rw [nm_nI (by omega) (by decide) (by decide)] at this
          exact this.elim
        · exact z
      subst z2
      refine W2_same' (r := nm 5) h ?_ ?_
      · unfold fX8_setSign
        simp only [Nat.reduceAdd, if_true, if_false, e0, cal_e, nlit, nm_def, n10, hsg, w1' M rfl, jn_e, z1]
        rcases hok with rfl | ⟨a1, a2, a3, a4⟩
        · simp only [if_true]
        · simp only [a1, a2, a3, if_true, if_false]
      · unfold fX9_setSign
        simp (disch := first | omega | (simp only [ln_3, ln_4, ln_5, ln_6, ln_7, ln_8, ln_9, ln_10, ln_11, ln_13, ln_15, ln_17, ln_18, ln_19, ln_20, ln_21, ln_22, ln_23, ln_25, ln_26, ln_27, ln_28, ln_29, ln_30, ln_31, ln_33, ln_234, ln_236, ln_237, ln_238, ln_239, ln_240, ln_241, ln_242, ln_243, ln_244]; omega)) only [Nat.reduceAdd, if_true, if_false, f0, cal_e, nlit, nm_def, n10, hin, w2' M rfl, nlit, nm_def, nI_add, nI_mul, nI_sub, nI_div, nI_rem, nI_clamp, nI_leI, nI_ltI, nI_eq, inb_nI, nzb_nI, nI_nm, nm_nI, nI_le_nm, nI_lt_nm, nm_le_nI, nm_lt_nI, cal_e, bnd_e, asr_e, jn_e, if_true, ln_236, z1]
        rcases hok with rfl | ⟨a1, a2, a3, a4⟩
        · simp only [if_true, if_false, show ¬ nI 0 ≤ nm 5 by decide]
        · simp only [a1, if_true, if_false, n10, show ¬ nI 0 ≤ nm 5 by decide]
    · -- the change
      obtain ⟨q0, st, M1, e1, hc, f1⟩ := mut_rec h
      have x11 : M1.1 11 = M.1 11 := (f1 11 (by omega)).1
      have x4 : M1.1 4 = M.1 4 := (f1 4 (by omega)).1
      have ho1 : (∃ q, q < 2 ∧ o1 = nI q) ∨ o1 = nm 1 := by
        rcases ho with ⟨q, hq, z, _⟩ | ⟨z, _⟩
        · exact .inl ⟨q, hq, z⟩
        · exact .inr z
      have egs := e_giveSign (M := M1) (x := x) (w1' M1 x11) (show k < 48 by omega) ho1
      have f2 : ∀ j, j ≠ 11 → j ≠ 4 → (w1 (if o1 = nm 1 then M1 else w1 M1 11 o1.toNatClampNeg (nm 1)) 4 k x).1 j = M1.1 j := fun j h1 h2 => by
        rw [w1_o h2]
        split
        · rfl
        · rw [w1_o h1]
      have gB : (w1 (if o1 = nm 1 then M1 else w1 M1 11 o1.toNatClampNeg (nm 1)) 4 k x).2 = M1.2 := by
        rw [w1_2]
        split <;> rfl
      have g4 : (w1 (if o1 = nm 1 then M1 else w1 M1 11 o1.toNatClampNeg (nm 1)) 4 k x).1 4 = upd (M.1 4) k x := by
        rw [w1_self]
        split
        · rw [x4]
        · rw [w1_o (by decide), x4]
      have g11 : (w1 (if o1 = nm 1 then M1 else w1 M1 11 o1.toNatClampNeg (nm 1)) 4 k x).1 11 = if o1 = nm 1 then M.1 11 else upd (M.1 11) o1.toNatClampNeg (nm 1) := by
        rw [w1_o (by decide)]
        split
        · exact x11
        · rw [w1_self, x11]
      have hcl : fX8_setSign 0 (nI k) x M = some (M.1 236 (260 + k), w1 (if o1 = nm 1 then M1 else w1 M1 11 o1.toNatClampNeg (nm 1)) 4 k x) := by
        unfold fX8_setSign
        simp only [Nat.reduceAdd, if_true, if_false, e0, cal_e, nlit, nm_def, n10, hsg, w1' M rfl, jn_e, e1, egs]
        have hbr : ∀ X Y : Option (Int32 × Mem), (if M.1 236 (260 + k) = x then if o1 = nm 1 then X else Y else Y) = Y := fun X Y => by
          by_cases z1 : M.1 236 (260 + k) = x
          · rw [if_pos z1, if_neg (fun z => hno ⟨z1, z⟩)]
          · rw [if_neg z1]
        rcases hok with rfl | ⟨a1, a2, a3, a4⟩
        · simp only [if_true]
          exact hbr _ _
        · simp only [a1, a2, a3, if_true, if_false]
          exact hbr _ _
      refine wp_of hcl ?_
      generalize (w1 (if o1 = nm 1 then M1 else w1 M1 11 o1.toNatClampNeg (nm 1)) 4 k x) = M2 at *
      have e236 : M2.1 236 = M.1 236 := by rw [f2 236 (by decide) (by decide), (f1 _ (by omega)).1]
      have g0 : fX9_noKey 235 (nI k) M2 = some (nI 0, M2) := r_noKey (by rw [e236]; exact H.sr) (by rw [e236]; exact H.sc) hk m48
      have hrf : ∀ Q : Int32 → Mem → Prop, wp (cal (fX9_begin 235 M2) (fun v14 M15 => asr (inb (nI 260 + nI k) (ln (235 + 1))) (bnd (w1 M15 (235 + 1) (nI 260 + nI k).toNatClampNeg x) (fun M16 => if o2 < nI 0 then some (M.1 236 (260 + k), M16) else asr (inb (nI 5 + o2) (ln (235 + 1))) (bnd (w1 M16 (235 + 1) (nI 5 + o2).toNatClampNeg (nm 5)) (fun M17 => some (M.1 236 (260 + k), M17))))))) Q → wp (fX9_setSign 235 (nI k) x M2) Q := fun Q hQ => by
        unfold fX9_setSign
        rw [g0, cal_e]
        simp (disch := first | omega | (simp only [ln_3, ln_4, ln_5, ln_6, ln_7, ln_8, ln_9, ln_10, ln_11, ln_13, ln_15, ln_17, ln_18, ln_19, ln_20, ln_21, ln_22, ln_23, ln_25, ln_26, ln_27, ln_28, ln_29, ln_30, ln_31, ln_33, ln_234, ln_236, ln_237, ln_238, ln_239, ln_240, ln_241, ln_242, ln_243, ln_244]; omega)) only [nlit, nm_def, if_true, hin, cal_e, jn_e, w2' M2 e236, nI_add, inb_nI, nI_clamp, asr_e, bnd_e, Nat.reduceAdd, ln_236, e236] at hQ ⊢
        have hbr : ∀ X Y : Option (Int32 × Mem), wp Y Q → wp (if M.1 236 (260 + k) = x then if nI 0 ≤ o2 then Y else X else Y) Q := fun X Y hY => by
          by_cases z1 : M.1 236 (260 + k) = x
          · rw [if_pos z1]
            rcases ho with ⟨q, hq, _, z⟩ | ⟨z, _⟩
            · rw [z, if_pos (nI_le (Nat.zero_le _) (by omega))]
              exact hY
            · exact absurd ⟨z1, z⟩ hno
          · rw [if_neg z1]
            exact hY
        rcases hok with rfl | ⟨a1, a2, a3, a4⟩
        · simp only [if_true]
          exact hbr _ _ hQ
        · simp only [a1, if_false, n10]
          exact hbr _ _ hQ
      refine hrf _ (mut_ref h (Nat.le_refl N) hc f1 (fun j hj => ⟨f2 j (by omega) (by omega), by rw [gB]⟩) (fun M3 b1 b2 => ?_))
      have s236 : M3.1 236 = M.1 236 := by rw [b1 _ (by omega) (by omega) (by omega), e236]
      simp (disch := first | omega | (simp only [ln_3, ln_4, ln_5, ln_6, ln_7, ln_8, ln_9, ln_10, ln_11, ln_13, ln_15, ln_17, ln_18, ln_19, ln_20, ln_21, ln_22, ln_23, ln_25, ln_26, ln_27, ln_28, ln_29, ln_30, ln_31, ln_33, ln_234, ln_236, ln_237, ln_238, ln_239, ln_240, ln_241, ln_242, ln_243, ln_244]; omega)) only [nI_add, inb_nI, nI_clamp, Nat.reduceAdd, ln_236, cal_e, bnd_e, asr_e, jn_e, if_true]
      rcases ho with ⟨q, hq, z1, z2⟩ | ⟨z1, z2⟩
      · subst z1 z2
        have n1 : ¬ nI q = nm 1 := by rw [nI_nm (by omega) (by decide) (by decide)]; exact not_false
        rw [if_neg n1, nI_clamp (by omega)] at g11
        refine wp_ite.mpr ⟨fun z => absurd z (nI_nlt0 (by omega)), fun _ => ?_⟩
        simp (disch := first | omega | (simp only [ln_3, ln_4, ln_5, ln_6, ln_7, ln_8, ln_9, ln_10, ln_11, ln_13, ln_15, ln_17, ln_18, ln_19, ln_20, ln_21, ln_22, ln_23, ln_25, ln_26, ln_27, ln_28, ln_29, ln_30, ln_31, ln_33, ln_234, ln_236, ln_237, ln_238, ln_239, ln_240, ln_241, ln_242, ln_243, ln_244]; omega)) only [nI_add, inb_nI, nI_clamp, Nat.reduceAdd, ln_236, cal_e, bnd_e, asr_e, jn_e, if_true, wp_some]
        have hm : RSp r c t e dt N (fun j => if j = 3 then upd (M.1 4) k x else vA M 1 j) (vB M 1) (upd (M.1 236) (260 + k) x) (M.2 240) :=
          RS_sign (A := vA M 1) (B := vB M 1) (s := M.1 236) (φ := M.2 240) H hk (fun j hj hj2 => by simp at hj2; simp [hj2]) rfl (fun _ _ _ => rfl) (fun i hi => upd_o hi) upd_self (fun _ _ => rfl)
        refine ⟨trivial, ⟨r, c, t, e, dt, RS_noshift hm hq (fun j hj hj2 => ?_) ?_ (eB_of f1 (fun j _ => by rw [gB]) b2 (fun j _ => rfl)) (fun i h1 => ?_) ?_ (fun i _ => ?_)⟩, fun j h1 h2 h3 => by rw [w1_o h3, w1_o h3], fun j hj => by rw [w1_o (by decide), w1_o (by decide)], fun j _ _ => rfl⟩
        · have hj10 : j ≠ 10 := by simpa using hj2
          show (w1 (w1 M3 236 (260 + k) x) 236 (5 + q) (nm 5)).1 (1 + j) = _
          rw [w1_o (by omega), w1_o (by omega), b1 _ (by omega) (by omega) (by omega)]
          by_cases e3 : j = 3
          · subst e3
            exact g4
          · rw [f2 _ (by omega) (by omega), (f1 _ (by omega)).1]
            simp [e3, vA]
        · show (w1 (w1 M3 236 (260 + k) x) 236 (5 + q) (nm 5)).1 11 = _
          rw [w1_o (by omega), w1_o (by omega), b1 _ (by omega) (by omega) (by omega), g11]
          rfl
        · rw [w1_1, if_neg (by omega), w1_1, s236]
          unfold upd
          by_cases z : i = 260 + k
          · simp [z]
          · simp [z]
        · rw [w1_1, if_pos ⟨rfl, rfl⟩]
        · rw [w1_2, w1_2, b2 _ (by omega) (by omega), gB, (f1 _ (by omega)).2]
      · subst z1 z2
        rw [if_pos rfl] at g11
        refine wp_ite.mpr ⟨fun _ => wp_some.mpr ?_, fun z => absurd (nm_lt0 (by decide) (by decide)) z⟩
        refine ⟨rfl, ⟨r, c, t, e, dt, RS_sign (x := x) (A := vA M 1) (B := vB M 1) (s := M.1 236) (φ := M.2 240) H hk (fun j hj hj2 => ?_) ?_ (eB_of f1 (fun j _ => by rw [gB]) b2 (fun j _ => rfl)) (fun i h1 => ?_) ?_ (fun i _ => ?_)⟩, fun j h1 h2 h3 => by rw [w1_o h3], fun j hj => by rw [w1_o (by decide)], fun j _ _ => rfl⟩
        · have hj3 : j ≠ 3 := by simpa using hj2
          show (w1 M3 236 (260 + k) x).1 (1 + j) = M.1 (1 + j)
          rw [w1_o (by omega), b1 _ (by omega) (by omega) (by omega)]
          by_cases e3 : j = 10
          · subst e3
            exact g11
          · rw [f2 _ (by omega) (by omega), (f1 _ (by omega)).1]
        · show (w1 M3 236 (260 + k) x).1 4 = _
          rw [w1_o (by omega), b1 _ (by omega) (by omega) (by omega), g4]
          rfl
        · rw [w1_1, if_neg (by omega), s236]
        · rw [w1_1, if_pos ⟨rfl, rfl⟩]
        · rw [w1_2, b2 _ (by omega) (by omega), gB, (f1 _ (by omega)).2]
  · obtain ⟨a1, a2⟩ := okS_n hok
    refine W2_same' (r := nm 2) h ?_ ?_
    · unfold fX8_setSign
      rcases a2 with a2 | ⟨a2, a3, a4⟩
      · simp only [Nat.reduceAdd, if_true, if_false, e0, cal_e, nlit, nm_def, n10, jn_e, a1, a2]
      · simp only [Nat.reduceAdd, if_true, if_false, e0, cal_e, nlit, nm_def, n10, jn_e, a1, a2, a3]
    · unfold fX9_setSign
      have hin : fX9_in x (nI 97) (nI 122) M = some (nI 0, M) := by
        rcases a2 with a2 | ⟨a2, a3, a4⟩
        · exact e_in0 M (.inl a2)
        · exact e_in0 M (.inr a4)
      simp only [Nat.reduceAdd, if_true, if_false, f0, cal_e, nlit, nm_def, n10, jn_e, hin, a1]
