/-! PURE: setShift, setSign, as the law asks for them -/
section SE
variable {r c t e dt N : Nat} {M : Mem} {s : Nat → Int32} {φ : Nat → UInt32}
theorem n_own : (¬ nI 0 = nm 1) ∧ (¬ nI 1 = nm 1) ∧ (¬ nm 1 = nI 0) ∧ (¬ nm 1 = nI 1) ∧ (¬ nm 5 = nI 0) ∧ (¬ nm 5 = nI 1) := by decide +kernel
theorem own_m (H : CV r c t e dt N M s φ) {k : Nat} (k31 : k < 2 ^ 31) : ∀ M2 : Mem, M2.1 11 = M.1 11 → fX0_shiftOwner 2 (nI k) M2 = some (if s 5 = nI k then nI 0 else if s 6 = nI k then nI 1 else nm 1, M2) := fun M2 h11 => by
  have x0 := oN_eq (H.shift (p := 0) (by omega)) k31
  have x1 := oN_eq (H.shift (p := 1) (by omega)) k31
  simp only [Nat.add_zero, Nat.reduceAdd] at x0 x1
  rw [e_shiftOwner, h11]
  simp only [x0, x1]
theorem sh_cases (H : CV r c t e dt N M s φ) {p : Nat} (hp : p < 2) : (s (5 + p) = nm 5 ∧ M.1 11 p = nm 1) ∨ ∃ j, j < r * c ∧ s (5 + p) = nI j ∧ M.1 11 p = nI j := by
  rcases H.shift hp with ⟨a, b⟩ | ⟨j, hj, a, b⟩
  · exact .inl ⟨b, a⟩
  · exact .inr ⟨j, hj, b, a⟩
theorem j_setShift (h : JS N r c t e dt M s φ) (hN : N < 2 ^ 30) {p k : Nat} (hp : p < 2) (hk : k < r * c) :
    (ownS s k = nI p ∧ fX8_setShift 0 (nI p) (nI k) M = some (nm 5, M)) ∨ (¬ ownS s k = nI p ∧ ¬ ownS s k < nI 0 ∧ fX8_setShift 0 (nI p) (nI k) M = some (nm 4, M)) ∨
    (ownS s k = nm 5 ∧ ∃ M2 s2, fX8_setShift 0 (nI p) (nI k) M = some (if s (5 + p) < nI 0 then nI k else s (5 + p), M2) ∧ JS N r c t e dt M2 s2 φ) := by
  obtain ⟨H, X, hx, h233, h12⟩ := h
  have m48 := H.m48
  have hT := e_isTyp M hp
  have e0 := e_has H.hr H.hc hk H.m31
  have hown := own_m H (k := k) (by omega) M rfl
  have q0 : ∀ a b : Nat, a < 2 → b < 2 → (nI a = nI b) = (a = b) := fun a b _ _ => by rw [nI_eq (by omega) (by omega)]
  by_cases o1 : s 5 = nI k
  · have ho : ownS s k = nI 0 := by unfold ownS; rw [if_pos o1]
    rw [if_pos o1] at hown
    by_cases hp0 : p = 0
    · subst hp0
      refine .inl ⟨ho, ?_⟩
      unfold fX8_setShift
      simp only [Nat.reduceAdd, nlit', nm_x, hT, cal_x, n10, if_false, e0, hown, if_true]
    · refine .inr (.inl ⟨by rw [ho, q0 0 p (by omega) hp]; omega, by rw [ho]; decide, ?_⟩)
      have hne : ¬ nI 0 = nI p := by rw [q0 0 p (by omega) hp]; omega
      unfold fX8_setShift
      simp only [Nat.reduceAdd, nlit', nm_x, hT, cal_x, n10, if_false, e0, hown, hne, n_own.1]
  by_cases o2 : s 6 = nI k
  · have ho : ownS s k = nI 1 := by unfold ownS; rw [if_neg o1, if_pos o2]
    rw [if_neg o1, if_pos o2] at hown
    by_cases hp1 : p = 1
    · subst hp1
      refine .inl ⟨ho, ?_⟩
      unfold fX8_setShift
      simp only [Nat.reduceAdd, nlit', nm_x, hT, cal_x, n10, if_false, e0, hown, if_true]
    · refine .inr (.inl ⟨by rw [ho, q0 1 p (by omega) hp]; omega, by rw [ho]; decide, ?_⟩)
      have hne : ¬ nI 1 = nI p := by rw [q0 1 p (by omega) hp]; omega
      unfold fX8_setShift
      simp only [Nat.reduceAdd, nlit', nm_x, hT, cal_x, n10, if_false, e0, hown, hne, n_own.2.1]
  · have ho : ownS s k = nm 5 := by unfold ownS; rw [if_neg o1, if_neg o2]
    rw [if_neg o1, if_neg o2] at hown
    obtain ⟨M1, e1, hx1, H1, f1⟩ := h_rem H hx
    have hne : ¬ nm 1 = nI p := by
      rcases (show p = 0 ∨ p = 1 by omega) with rfl | rfl
      · exact n_own.2.2.1
      · exact n_own.2.2.2.1
    have e2 := e_shiftOf (M := M1) hp
    have e3 := e_giveShift (M := M1) hp (show k < 48 by omega)
    have f2 : ∀ j, j ≠ 11 → j ≠ 4 → (w1 (w1 M1 11 p (nI k)) 4 k (nI 46)).1 j = M1.1 j := fun j h1 h2 => by rw [w1_o h2, w1_o h1]
    have g11 : (w1 (w1 M1 11 p (nI k)) 4 k (nI 46)).1 11 = upd (M1.1 11) p (nI k) := by rw [w1_o (by decide), w1_self]
    have g4 : (w1 (w1 M1 11 p (nI k)) 4 k (nI 46)).1 4 = upd (M1.1 4) k (nI 46) := by rw [w1_self, w1_o (by decide)]
    have gB : (w1 (w1 M1 11 p (nI k)) 4 k (nI 46)).2 = M1.2 := rfl
    refine .inr (.inr ⟨ho, w1 (w1 M1 11 p (nI k)) 4 k (nI 46), upd (upd s (5 + p) (nI k)) (260 + k) (nI 46), ?_, ?_⟩)
    · unfold fX8_setShift
      simp only [Nat.reduceAdd, nlit', nm_x, hT, cal_x, n10, if_false, e0, hown, hne, if_true, e1, e2, e3]
      rcases sh_cases H1 hp with ⟨a, b⟩ | ⟨j, hj, a, b⟩
      · rw [a, b, if_pos rfl, if_pos (nm_lt0 (by decide) (by decide))]
      · rw [a, b, if_neg (show ¬ nI j = nm 1 by rw [nI_nm (by omega) (by decide) (by decide)]; exact not_false), if_neg (nI_nlt0 (by omega))]
    generalize (w1 (w1 M1 11 p (nI k)) 4 k (nI 46)) = M2 at *
    refine ⟨?_, ?_, HX_f hx1 (fun j h1 h2 => f2 j (by omega) (by omega)) (Nat.le_refl t), by rw [f2 233 (by omega) (by omega), (f1 233 (by omega)).1, h233], h12⟩
    · refine RS_shift (A := vA M1 1) (B := vB M1 1) (s := s) (φ := φ) H1 hk hp (fun j hj hj2 => ?_) ?_ ?_ (fun j hj _ => ?_) (fun i hi hi2 => ?_) ?_ ?_ (fun i _ => rfl)
      · simp only [Bool.or_eq_false_iff, beq_eq_false_iff_ne] at hj2
        exact f2 _ (by omega) (by omega)
      · exact g11
      · exact g4
      · show M2.2 (1 + j) = M1.2 (1 + j)
        rw [gB]
      · rw [upd_ne hi2, upd_ne hi]
      · rw [upd_ne (by omega), upd_eq rfl]
      · exact upd_eq rfl
    · obtain ⟨⟨k1, k2, k3⟩, x2, x3, x4⟩ := X
      have z : ∀ i, i ≠ 5 + p → i ≠ 260 + k → upd (upd s (5 + p) (nI k)) (260 + k) (nI 46) i = s i := fun i a b => by rw [upd_ne b, upd_ne a]
      have z5 : upd (upd s (5 + p) (nI k)) (260 + k) (nI 46) (5 + p) = nI k := by rw [upd_ne (by omega), upd_eq rfl]
      have z26 : upd (upd s (5 + p) (nI k)) (260 + k) (nI 46) (260 + k) = nI 46 := upd_eq rfl
      generalize upd (upd s (5 + p) (nI k)) (260 + k) (nI 46) = s2 at *
      have hcase : ∀ j, j < r * c → j ≠ k → (s2 5 = nI j ∨ s2 6 = nI j) → (s 5 = nI j ∨ s 6 = nI j) := fun j hj hjk hq => by
        rcases (show p = 0 ∨ p = 1 by omega) with rfl | rfl
        · rcases hq with hq | hq
          · rw [show (5 : Nat) = 5 + 0 from rfl, z5, nI_eq (by omega) (by omega)] at hq
            exact absurd hq.symm hjk
          · rw [z 6 (by omega) (by omega)] at hq
            exact .inr hq
        · rcases hq with hq | hq
          · rw [z 5 (by omega) (by omega)] at hq
            exact .inl hq
          · rw [show (6 : Nat) = 5 + 1 from rfl, z5, nI_eq (by omega) (by omega)] at hq
            exact absurd hq.symm hjk
      refine ⟨⟨fun j hj => ?_, fun j hj hq => ?_, fun j hj hq => ?_⟩, ?_, XE_f x3 (fun i hi => z i (by omega) (by omega)), x4⟩
      · by_cases hjk : j = k
        · subst hjk
          rw [z26]
          exact ⟨46, rfl, .inl rfl⟩
        · rw [z _ (by omega) (by omega)]
          exact k1 j hj
      · by_cases hjk : j = k
        · subst hjk
          exact z26
        · rw [z _ (by omega) (by omega)]
          exact k2 j hj (hcase j hj hjk hq)
      · by_cases hjk : j = k
        · subst hjk
          rcases (show p = 0 ∨ p = 1 by omega) with rfl | rfl
          · have := hq.2
            rw [z 6 (by omega) (by omega)] at this
            exact o2 this
          · have := hq.1
            rw [z 5 (by omega) (by omega)] at this
            exact o1 this
        · have a1 := hcase j hj hjk (.inl hq.1)
          rcases (show p = 0 ∨ p = 1 by omega) with rfl | rfl
          · have := hq.1
            rw [show (5 : Nat) = 5 + 0 from rfl, z5, nI_eq (by omega) (by omega)] at this
            exact hjk this.symm
          · have := hq.2
            rw [show (6 : Nat) = 5 + 1 from rfl, z5, nI_eq (by omega) (by omega)] at this
            exact hjk this.symm
      · obtain ⟨m, x5, x6⟩ := x2
        exact ⟨m, XN_f x5 (fun i hi => z i (by omega) (by omega)), by rw [opn_f H.d20 (fun i hi => z i (by omega) (by omega))]; exact x6⟩
theorem okS_of {x : Int32} (h : sgn x) : okS x := by
  obtain ⟨v, rfl, hv⟩ := h
  unfold okS
  rcases hv with rfl | ⟨h1, h2⟩
  · exact .inl rfl
  · refine .inr ⟨?_, ?_, ?_, ?_⟩
    · rw [nI_eq (by omega) (by omega)]
      omega
    · rw [nI_ltI (by omega) (by omega)]
      omega
    · rw [nI_leI (by omega) (by omega)]
      omega
    · rw [nI_ltI (by omega) (by omega)]
      omega
theorem j_setSign (h : JS N r c t e dt M s φ) (hN : N < 2 ^ 30) {k : Nat} {x : Int32} (hk : k < r * c) (hxs : sgn x) :
    (s (260 + k) = x ∧ ownS s k = nm 5 ∧ fX8_setSign 0 (nI k) x M = some (nm 5, M)) ∨
    (¬ (s (260 + k) = x ∧ ownS s k = nm 5) ∧ ∃ M2 s2, fX8_setSign 0 (nI k) x M = some (s (260 + k), M2) ∧ JS N r c t e dt M2 s2 φ ∧ s2 (260 + k) = x ∧ ownS s2 k = nm 5) := by
  obtain ⟨H, X, hx, h233, h12⟩ := h
  have m48 := H.m48
  have e0 := e_has H.hr H.hc hk H.m31
  have hsg := e_signOf H.hr H.hc m48 hk
  rw [H.sign hk] at hsg
  have hown := own_m H (k := k) (by omega)
  have hok := okS_of hxs
  obtain ⟨M1, e1, hx1, H1, f1⟩ := h_rem H hx
  have hown1 := own_m H1 (k := k) (by omega) M1 rfl
  have hc3 : ownS s k = nm 5 ↔ (¬ s 5 = nI k ∧ ¬ s 6 = nI k) := by
    rcases ownS_c s k with ⟨o1, o2⟩ | ⟨o1, o2⟩ | ⟨o1, o2, o3⟩
    · rw [o1]
      exact ⟨fun q => absurd q (by decide), fun q => absurd o2 q.1⟩
    · rw [o1]
      exact ⟨fun q => absurd q (by decide), fun q => absurd o2 q.2⟩
    · rw [o1]
      exact ⟨fun _ => ⟨o2, o3⟩, fun _ => rfl⟩
  have key : ∀ (K : Unit → Mem → Option (Int32 × Mem)), jn K (fun j4 => if x = nI 46 then j4 () M else if x < nI 97 then some (nm 2, M) else if x ≤ nI 122 then j4 () M else some (nm 2, M)) = K () M := fun K => by
    rw [jn_x]
    rcases hok with q | ⟨q1, q2, q3, _⟩
    · rw [if_pos q]
    · rw [if_neg q1, if_neg q2, if_pos q3]
  have hK : ∀ (K : Unit → Mem → Option (Int32 × Mem)), jn K (fun j9 => if s (260 + k) = x then cal (fX0_shiftOwner 2 (nI k) M) (fun v15 M16 => if v15 = nm 1 then some (nm 5, M16) else j9 () M16) else j9 () M) = if s (260 + k) = x ∧ ownS s k = nm 5 then some (nm 5, M) else K () M := fun K => by
    rw [jn_x]
    by_cases h1 : s (260 + k) = x
    · rw [if_pos h1, hown M rfl, cal_x]
      by_cases h2 : ¬ s 5 = nI k ∧ ¬ s 6 = nI k
      · rw [if_neg h2.1, if_neg h2.2, if_pos rfl, if_pos ⟨h1, hc3.mpr h2⟩]
      · rw [if_neg (show ¬ (s (260 + k) = x ∧ ownS s k = nm 5) from fun q => h2 (hc3.mp q.2))]
        by_cases h3 : s 5 = nI k
        · rw [if_pos h3, if_neg n_own.1]
        · by_cases h4 : s 6 = nI k
          · rw [if_neg h3, if_pos h4, if_neg n_own.2.1]
          · exact absurd ⟨h3, h4⟩ h2
    · rw [if_neg h1, if_neg (fun q => h1 q.1)]
  have eset : fX8_setSign 0 (nI k) x M = if s (260 + k) = x ∧ ownS s k = nm 5 then some (nm 5, M) else cal (fX0_giveSign 2 (nI k) x M1) (fun _ M14 => some (s (260 + k), M14)) := by
    unfold fX8_setSign
    simp only [Nat.reduceAdd, nlit', nm_x]
    rw [e0, cal_x, if_neg n10, key, hsg, cal_x, hK]
    split
    · rfl
    · rw [e1, cal_x]
  by_cases hboth : s (260 + k) = x ∧ ownS s k = nm 5
  · exact .inl ⟨hboth.1, hboth.2, by rw [eset, if_pos hboth]⟩
  refine .inr ⟨hboth, ?_⟩
  rw [eset, if_neg hboth]
  obtain ⟨⟨k1, k2, k3⟩, x2, x3, x4⟩ := X
  -- the state with another sign, whatever the shifts have become
  have fin : ∀ (s1 : Nat → Int32) (Mx : Mem), CV r c t e dt N Mx s1 φ → (∀ j, (100 ≤ j) → Mx.1 j = M1.1 j) → (∀ i, i ≠ 5 → i ≠ 6 → s1 i = s i) → (∀ j, j < r * c → (s1 5 = nI j ∨ s1 6 = nI j) → (s 5 = nI j ∨ s 6 = nI j) ∧ j ≠ k) → (∀ j, j < r * c → ¬ (s1 5 = nI j ∧ s1 6 = nI j)) → JS N r c t e dt (w1 Mx 4 k x) (upd s1 (260 + k) x) φ ∧ upd s1 (260 + k) x (260 + k) = x ∧ ownS (upd s1 (260 + k) x) k = nm 5 := by
    intro s1 Mx Hx fx g1 g2 g3
    have z : ∀ i, i ≠ 260 + k → upd s1 (260 + k) x i = s1 i := fun i a => upd_ne a
    refine ⟨⟨?_, ⟨⟨fun j hj => ?_, fun j hj hq => ?_, fun j hj hq => ?_⟩, ?_, XE_f x3 (fun i hi => by rw [z i (by omega), g1 i (by omega) (by omega)]), x4⟩, HX_f hx1 (fun j h1 h2 => by rw [w1_o (by omega), fx j h1]) (Nat.le_refl t), by rw [w1_o (by omega), fx 233 (by omega), (f1 233 (by omega)).1, h233], h12⟩, upd_eq rfl, ?_⟩
    · refine RS_sign (x := x) (A := vA Mx 1) (B := vB Mx 1) (s := s1) (φ := φ) Hx hk (fun j hj hj2 => ?_) ?_ (fun j hj _ => rfl) (fun i hi => upd_ne hi) (upd_eq rfl) (fun i _ => rfl)
      · simp only [beq_eq_false_iff_ne] at hj2
        exact w1_o (by omega)
      · exact w1_self
    · by_cases hjk : j = k
      · subst hjk
        rw [upd_eq rfl]
        exact hxs
      · rw [z _ (by omega), g1 _ (by omega) (by omega)]
        exact k1 j hj
    · rw [z 5 (by omega), z 6 (by omega)] at hq
      obtain ⟨q1, q2⟩ := g2 j hj hq
      rw [z _ (by omega), g1 _ (by omega) (by omega)]
      exact k2 j hj q1
    · rw [z 5 (by omega), z 6 (by omega)] at hq
      exact g3 j hj hq
    · obtain ⟨m, x5, x6⟩ := x2
      exact ⟨m, XN_f x5 (fun i hi => by rw [z i (by omega), g1 i (by omega) (by omega)]), by rw [opn_f H.d20 (fun i hi => by rw [z i (by omega), g1 i (by omega) (by omega)])]; exact x6⟩
    · unfold ownS
      rw [z 5 (by omega), z 6 (by omega), if_neg (fun q => (g2 k hk (.inl q)).2 rfl), if_neg (fun q => (g2 k hk (.inr q)).2 rfl)]
  have noS : ∀ (p : Nat) (hp : p < 2), CV r c t e dt N (w1 M1 11 p (nm 1)) (upd s (5 + p) (nm 5)) φ := fun p hp => by
    refine RS_noshift (A := vA M1 1) (B := vB M1 1) (s := s) (φ := φ) H1 hp (fun j hj hj2 => ?_) ?_ (fun j hj _ => rfl) (fun i hi => upd_ne hi) (upd_eq rfl) (fun i _ => rfl)
    · simp only [beq_eq_false_iff_ne] at hj2
      exact w1_o (by omega)
    · exact w1_self
  have n5 : ∀ j, j < r * c → ¬ nm 5 = nI j := fun j hj => by rw [nm_nI (by omega) (by decide) (by decide)]; exact not_false
  by_cases h5 : s 5 = nI k
  · have h6 : ¬ s 6 = nI k := fun q => k3 k hk ⟨h5, q⟩
    rw [if_pos h5] at hown1
    rw [e_giveSign hown1 (by omega) (.inl ⟨0, by omega, rfl⟩), cal_x, if_neg n_own.1, nI_clamp (by decide)]
    obtain ⟨a, b, d⟩ := fin (upd s (5 + 0) (nm 5)) (w1 M1 11 0 (nm 1)) (noS 0 (by omega)) (fun j hj => w1_o (by omega)) (fun i h1 h2 => upd_ne (by omega)) (fun j hj hq => by
      rw [upd_eq (by omega), upd_ne (show ¬ 6 = 5 + 0 by omega)] at hq
      rcases hq with hq | hq
      · exact absurd hq (n5 j hj)
      · exact ⟨.inr hq, fun e => h6 (by rw [← e]; exact hq)⟩) (fun j hj hq => by
      rw [upd_eq (by omega)] at hq
      exact n5 j hj hq.1)
    exact ⟨_, _, rfl, a, b, d⟩
  · by_cases h6 : s 6 = nI k
    · rw [if_neg h5, if_pos h6] at hown1
      rw [e_giveSign hown1 (by omega) (.inl ⟨1, by omega, rfl⟩), cal_x, if_neg n_own.2.1, nI_clamp (by decide)]
      obtain ⟨a, b, d⟩ := fin (upd s (5 + 1) (nm 5)) (w1 M1 11 1 (nm 1)) (noS 1 (by omega)) (fun j hj => w1_o (by omega)) (fun i h1 h2 => upd_ne (by omega)) (fun j hj hq => by
        rw [upd_ne (show ¬ 5 = 5 + 1 by omega), upd_eq (by omega)] at hq
        rcases hq with hq | hq
        · exact ⟨.inl hq, fun e => h5 (by rw [← e]; exact hq)⟩
        · exact absurd hq (n5 j hj)) (fun j hj hq => by
        rw [upd_eq (show 6 = 5 + 1 by omega)] at hq
        exact n5 j hj hq.2)
      exact ⟨_, _, rfl, a, b, d⟩
    · rw [if_neg h5, if_neg h6] at hown1
      rw [e_giveSign hown1 (by omega) (.inr rfl), cal_x, if_pos rfl]
      obtain ⟨a, b, d⟩ := fin s M1 H1 (fun j hj => rfl) (fun i h1 h2 => rfl) (fun j hj hq => ⟨hq, fun e => by
        subst e
        rcases hq with hq | hq
        · exact h5 hq
        · exact h6 hq⟩) k3
      exact ⟨_, _, rfl, a, b, d⟩
end SE
