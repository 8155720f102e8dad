/-! PURE: the law's acts -/
section AC
variable {r c t e dt N : Nat} {M : Mem} {s : Nat → Int32} {φ : Nat → UInt32}
theorem JS_mono {N2 : Nat} (h : JS N r c t e dt M s φ) (hN : N ≤ N2) : JS N2 r c t e dt M s φ := ⟨h.1.mono hN, h.2⟩
theorem JS.jn {N2 : Nat} (h : JS N r c t e dt M s φ) (hN : N ≤ N2) : JN N2 M := ⟨r, c, t, e, dt, s, φ, JS_mono h hN⟩
theorem p_neg {j : Nat} : nm 5 < nI 0 ∧ ¬ nI 0 ≤ nm 5 := by decide
theorem b_press (h : JS N r c t e dt M s φ) (hN : N < 2 ^ 30) {p k : Nat} (hp : p < 2) (hk : k < r * c) : ∃ M2, (cal (fX8_typist 0 (nI p) (nI 0) M) (fun v39 M40 => cal (fX8_key 0 (nI k) (nI 0) M40) (fun v41 M42 => jn (fun (b43 : Int32) (M45 : Mem) => cal (fX8_press 0 (nI p) (nI k) M45) (fun v46 M47 => if v46 = b43 then some (nI 1, M47) else some (nI 0, M47))) (fun j44 => if v41 < nI 0 then if v39 = nI 5 then j44 (nm 3) M42 else j44 (v39 + nI 1) M42 else j44 (nm 4) M42)))) = some (nI 1, M2) ∧ JN N M2 := by
  have H := h.1
  have m48 := H.m48
  obtain ⟨t0, _⟩ := a_typ H hN hp
  have k0 := (a_key H hN hk).1
  have hl := H.held5 hp
  rcases j_press h hN hp hk with ⟨h1, h2, M2, e2, J2⟩ | ⟨h1, h2, e2⟩ | ⟨h1, e2⟩
  · refine ⟨M2, ?_, J2.jn (Nat.le_refl N)⟩
    rw [t0, cal_x, k0, cal_x, jn_x, if_pos h1, if_neg (show ¬ nI (cnt (r * c) (fun k => decide (s (20 + k) = nI p))) = nI 5 by rw [nI_eq (by omega) (by omega)]; exact h2)]
    dsimp only
    rw [e2, cal_x, nI_add, if_pos rfl]
  · refine ⟨M, ?_, h.jn (Nat.le_refl N)⟩
    rw [t0, cal_x, k0, cal_x, jn_x, if_pos h1, if_pos (show nI (cnt (r * c) (fun k => decide (s (20 + k) = nI p))) = nI 5 by rw [h2])]
    dsimp only
    rw [e2, cal_x, if_pos rfl]
  · refine ⟨M, ?_, h.jn (Nat.le_refl N)⟩
    rw [t0, cal_x, k0, cal_x, jn_x, if_neg h1]
    dsimp only
    rw [e2, cal_x, if_pos rfl]
theorem b_release (h : JS N r c t e dt M s φ) (hN : N < 2 ^ 30) {p k : Nat} (hp : p < 2) (hk : k < r * c) : ∃ M2, (cal (fX8_key 0 (nI k) (nI 0) M) (fun v27 M28 => jn (fun (b29 : Int32) (M31 : Mem) => cal (fX8_release 0 (nI p) (nI k) M31) (fun v32 M33 => if v32 = b29 then some (nI 1, M33) else some (nI 0, M33))) (fun j30 => if v27 = nI p then cal (fX8_typist 0 (nI p) (nI 0) M28) (fun v34 M35 => j30 (v34 - nI 1) M35) else j30 (nm 4) M28))) = some (nI 1, M2) ∧ JN N M2 := by
  have H := h.1
  obtain ⟨t0, _⟩ := a_typ H hN hp
  have k0 := (a_key H hN hk).1
  rcases j_release h hN hp hk with ⟨h1, h2, M2, e2, J2⟩ | ⟨h1, e2⟩
  · refine ⟨M2, ?_, J2.jn (Nat.le_refl N)⟩
    rw [k0, cal_x, jn_x, if_pos h1, t0, cal_x, nI_sub (show 1 ≤ cnt (r * c) (fun k => decide (s (20 + k) = nI p)) from h2)]
    dsimp only
    rw [e2, cal_x, if_pos rfl]
  · refine ⟨M, ?_, h.jn (Nat.le_refl N)⟩
    rw [k0, cal_x, jn_x, if_neg h1]
    dsimp only
    rw [e2, cal_x, if_pos rfl]
theorem b_tick (h : JS N r c t e dt M s φ) (hN : N + 400 < 2 ^ 24) {m : Nat} (hm : m < 9) {y : Int32} (hy : ∀ M2 : Mem, fL_low y (nI 9) M2 = some (nI m, M2)) : ∃ M2, (cal (fX8_count 0 (nI 6) M) (fun v12 M13 => cal (fX8_count 0 (nI 0) M13) (fun v14 M15 => cal (fL_low y (nI 9) M15) (fun v16 M17 => cal (fX8_tick 0 (nI 1 + v16) M17) (fun v18 M19 => cal (fX8_count 0 (nI 6) M19) (fun v20 M21 => if v18 = (v20 - v12) then cal (fX8_count 0 (nI 0) M21) (fun v22 M23 => if v22 = (v14 + (nI 1 + v16)) then some (nI 1, M23) else some (nI 0, M23)) else some (nI 0, M21))))))) = some (nI 1, M2) ∧ JN (N + 200) M2 := by
  have H := h.1
  obtain ⟨cc0, _, _, _, _, _, cc6, _⟩ := a_count H (by omega)
  obtain ⟨M2, s2, φ2, dt2, z, e2, J2⟩ := j_tick h (n := 1 + m) (by omega) (by omega) (by omega)
  obtain ⟨dd0, _, _, _, _, _, dd6, _⟩ := a_count J2.1 (by omega)
  refine ⟨M2, ?_, J2.jn (by omega)⟩
  rw [cc6, cal_x, cc0, cal_x, hy, cal_x, nI_add, e2, cal_x, dd6, cal_x, nI_sub (show e ≤ e + z by omega), if_pos (show nI z = nI (e + z - e) by rw [Nat.add_sub_cancel_left]), dd0, cal_x, nI_add, if_pos rfl]
theorem b_setShift (h : JS N r c t e dt M s φ) (hN : N < 2 ^ 30) {p k m : Nat} (hp : p < 2) (hk : k < r * c) (hm : m < 3) {y : Int32} (hy : ∀ M2 : Mem, fL_low y (nI 3) M2 = some (nI m, M2)) : ∃ M2, (cal (fX8_typist 0 (nI p) (nI 1) M) (fun v58 M59 => cal (fX8_key 0 (nI k) (nI 5) M59) (fun v60 M61 => jn (fun (b62 : Int32) (M64 : Mem) => cal (fL_low y (nI 3) M64) (fun v65 M66 => jn (fun (_ : Unit) (M69 : Mem) => some (nI 1, M69)) (fun j68 => if nI 0 < v65 then j68 () M66 else cal (fX8_setShift 0 (nI p) (nI k) M66) (fun v70 M71 => if v70 = b62 then j68 () M71 else some (nI 0, M71))))) (fun j63 => if v60 = nI p then j63 (nm 5) M61 else if v60 < nI 0 then if nI 0 ≤ v58 then j63 v58 M61 else j63 (nI k) M61 else j63 (nm 4) M61)))) = some (nI 1, M2) ∧ JN N M2 := by
  have H := h.1
  have m48 := H.m48
  obtain ⟨_, t1, _⟩ := a_typ H hN hp
  obtain ⟨_, _, _, _, _, k5, _⟩ := a_key H hN hk
  have early : ∀ b : Int32, 0 < m → (fun (b62 : Int32) (M64 : Mem) => cal (fL_low y (nI 3) M64) (fun v65 M66 => jn (fun (_ : Unit) (M69 : Mem) => some (nI 1, M69)) (fun j68 => if nI 0 < v65 then j68 () M66 else cal (fX8_setShift 0 (nI p) (nI k) M66) (fun v70 M71 => if v70 = b62 then j68 () M71 else some (nI 0, M71))))) b M = some (nI 1, M) := fun b h0 => by
    dsimp only
    rw [hy, cal_x, jn_x, if_pos (show nI 0 < nI m by rw [nI_ltI (by omega) (by omega)]; exact h0)]
  have late : ∀ (b : Int32) (M2 : Mem), ¬ 0 < m → fX8_setShift 0 (nI p) (nI k) M = some (b, M2) → (fun (b62 : Int32) (M64 : Mem) => cal (fL_low y (nI 3) M64) (fun v65 M66 => jn (fun (_ : Unit) (M69 : Mem) => some (nI 1, M69)) (fun j68 => if nI 0 < v65 then j68 () M66 else cal (fX8_setShift 0 (nI p) (nI k) M66) (fun v70 M71 => if v70 = b62 then j68 () M71 else some (nI 0, M71))))) b M = some (nI 1, M2) := fun b M2 h0 he => by
    dsimp only
    rw [hy, cal_x, jn_x, if_neg (show ¬ nI 0 < nI m by rw [nI_ltI (by omega) (by omega)]; exact h0), he, cal_x, if_pos rfl]
  rw [t1, cal_x, k5, cal_x, jn_x]
  rcases j_setShift h hN hp hk with ⟨o1, e2⟩ | ⟨o1, o2, e2⟩ | ⟨o1, M2, s2, e2, J2⟩
  · rw [if_pos o1]
    by_cases h0 : 0 < m
    · exact ⟨M, early _ h0, h.jn (Nat.le_refl N)⟩
    · exact ⟨M, late _ _ h0 e2, h.jn (Nat.le_refl N)⟩
  · rw [if_neg o1, if_neg o2]
    by_cases h0 : 0 < m
    · exact ⟨M, early _ h0, h.jn (Nat.le_refl N)⟩
    · exact ⟨M, late _ _ h0 e2, h.jn (Nat.le_refl N)⟩
  · have hne : ¬ ownS s k = nI p := by
      rw [o1]
      rcases (show p = 0 ∨ p = 1 by omega) with rfl | rfl
      · exact n_own.2.2.2.2.1
      · exact n_own.2.2.2.2.2
    rw [if_neg hne, if_pos (show ownS s k < nI 0 by rw [o1]; exact nm_lt0 (by decide) (by decide))]
    by_cases h5 : s (5 + p) < nI 0
    · rw [if_pos h5] at e2
      rw [if_neg (show ¬ nI 0 ≤ s (5 + p) by rw [le0]; exact fun q => q h5)]
      by_cases h0 : 0 < m
      · exact ⟨M, early _ h0, h.jn (Nat.le_refl N)⟩
      · exact ⟨M2, late _ _ h0 e2, J2.jn (Nat.le_refl N)⟩
    · rw [if_neg h5] at e2
      rw [if_pos (show nI 0 ≤ s (5 + p) by rw [le0]; exact h5)]
      by_cases h0 : 0 < m
      · exact ⟨M, early _ h0, h.jn (Nat.le_refl N)⟩
      · exact ⟨M2, late _ _ h0 e2, J2.jn (Nat.le_refl N)⟩
theorem b_setSign (h : JS N r c t e dt M s φ) (hN : N < 2 ^ 30) {k v : Nat} (hk : k < r * c) (hv : v = 46 ∨ (97 ≤ v ∧ v ≤ 122)) : ∃ M2, (cal (fX8_key 0 (nI k) (nI 4) M) (fun v78 M79 => jn (fun (b80 : Int32) (M82 : Mem) => cal (fX8_setSign 0 (nI k) (nI v) M82) (fun v83 M84 => if v83 = b80 then cal (fX8_key 0 (nI k) (nI 4) M84) (fun v85 M86 => if v85 = nI v then cal (fX8_key 0 (nI k) (nI 5) M86) (fun v87 M88 => if v87 = nm 5 then some (nI 1, M88) else some (nI 0, M88)) else some (nI 0, M86)) else some (nI 0, M84))) (fun j81 => jn (fun (_ : Unit) (M91 : Mem) => j81 v78 M91) (fun j90 => if v78 = nI v then cal (fX8_key 0 (nI k) (nI 5) M79) (fun v92 M93 => if nI 0 ≤ v92 then j90 () M93 else j81 (nm 5) M93) else j90 () M79)))) = some (nI 1, M2) ∧ JN N M2 := by
  have H := h.1
  obtain ⟨_, _, _, _, k4, k5, _⟩ := a_key H hN hk
  rw [k4, cal_x, jn_x, jn_x]
  rcases j_setSign h hN hk ⟨v, rfl, hv⟩ with ⟨o1, o2, e2⟩ | ⟨o1, M2, s2, e2, J2, z1, z2⟩
  · refine ⟨M, ?_, h.jn (Nat.le_refl N)⟩
    rw [if_pos o1, k5, cal_x, o2, if_neg (show ¬ nI 0 ≤ nm 5 by decide)]
    dsimp only
    rw [e2, cal_x, if_pos rfl, k4, cal_x, if_pos o1, k5, cal_x, if_pos o2]
  · obtain ⟨_, _, _, _, l4, l5, _⟩ := a_key J2.1 hN hk
    refine ⟨M2, ?_, J2.jn (Nat.le_refl N)⟩
    have fin : (cal (fX8_setSign 0 (nI k) (nI v) M) (fun v83 M84 => if v83 = s (260 + k) then cal (fX8_key 0 (nI k) (nI 4) M84) (fun v85 M86 => if v85 = nI v then cal (fX8_key 0 (nI k) (nI 5) M86) (fun v87 M88 => if v87 = nm 5 then some (nI 1, M88) else some (nI 0, M88)) else some (nI 0, M86)) else some (nI 0, M84))) = some (nI 1, M2) := by
      rw [e2, cal_x, if_pos rfl, l4, cal_x, if_pos z1, l5, cal_x, if_pos z2]
    by_cases q1 : s (260 + k) = nI v
    · rw [if_pos q1, k5, cal_x]
      have : nI 0 ≤ ownS s k := by
        rcases ownS_c s k with ⟨a, _⟩ | ⟨a, _⟩ | ⟨a, _⟩
        · rw [a]
          decide
        · rw [a]
          decide
        · exact absurd ⟨q1, a⟩ o1
      rw [if_pos this]
      exact fin
    · rw [if_neg q1]
      exact fin
theorem i2cv_of {v : Nat} (hv : v < 65536) : i2cv (nI v) = nI v := by
  unfold i2cv
  have e0 : (nI v).toUInt32.toNat = v := toU_n (by omega)
  have e1 : ((nI v).toUInt32 % 65536).toNat = v := by
    rw [UInt32.toNat_mod, e0]
    exact Nat.mod_eq_of_lt hv
  rw [toI_nI (by omega), e1]
theorem a_acts (h : JS N r c t e dt M s φ) (hN : N + 400 < 2 ^ 24) (g x : Int32) : ∃ M2, fL_acts 0 g x M = some (nI 1, M2) ∧ JN (N + 200) M2 := by
  have hN30 : N < 2 ^ 30 := by omega
  have H := h.1
  have m48 := H.m48
  have m0 := H.m0
  have lows : ∀ (y : Int32) (n : Nat), 0 < n → n < 2 ^ 31 → ∃ m, m < n ∧ ∀ M2 : Mem, fL_low y (nI n) M2 = some (nI m, M2) := fun y n h0 h1 => by
    obtain ⟨m, hm, em⟩ := a_low M y h0 h1
    refine ⟨m, hm, fun M2 => ?_⟩
    unfold fL_low at em ⊢
    obtain ⟨hb, he⟩ := asr_some em
    have he := (Prod.mk.injEq ..).mp (Option.some.inj he)
    rw [hb, asr_x, he.1]
  have up : ∀ {M2 : Mem}, JN N M2 → JN (N + 200) M2 := fun ⟨r, c, t, e, dt, s, φ, J⟩ => ⟨r, c, t, e, dt, s, φ, JS_mono J (by omega)⟩
  obtain ⟨p, hp, ep⟩ := lows (g >>> (nI 4 &&& nI 31)) 2 (by omega) (by omega)
  obtain ⟨k, hk, ek⟩ := lows x (r * c) m0 (by omega)
  obtain ⟨m, hm, em⟩ := lows g 12 (by omega) (by omega)
  have f : ∀ a, a < 12 → ∀ b, b < 12 → a ≠ b → ¬ nI a = nI b := fun a ha b hb hab => by rw [nI_eq (by omega) (by omega)]; exact hab
  unfold fL_acts
  simp only [nlit', nm_x]
  rw [ep, cal_x, a_keys H hN30, cal_x, ek, cal_x, em, cal_x, jn_x, jn_x, jn_x]
  rcases (show m = 0 ∨ m = 1 ∨ m = 2 ∨ m = 3 ∨ m = 4 ∨ m = 5 ∨ m = 6 ∨ m = 7 ∨ m = 8 ∨ m = 9 ∨ m = 10 ∨ m = 11 by omega) with rfl | rfl | rfl | rfl | rfl | rfl | rfl | rfl | rfl | rfl | rfl | rfl
  · rw [if_pos rfl]
    obtain ⟨M2, e2, J2⟩ := b_press h hN30 hp hk
    exact ⟨M2, e2, up J2⟩
  · rw [if_neg (f 1 (by omega) 0 (by omega) (by omega)), if_pos rfl]
    obtain ⟨M2, e2, J2⟩ := b_press h hN30 hp hk
    exact ⟨M2, e2, up J2⟩
  · rw [if_neg (f 2 (by omega) 0 (by omega) (by omega)), if_neg (f 2 (by omega) 1 (by omega) (by omega)), if_pos rfl]
    obtain ⟨M2, e2, J2⟩ := b_press h hN30 hp hk
    exact ⟨M2, e2, up J2⟩
  · rw [if_neg (f 3 (by omega) 0 (by omega) (by omega)), if_neg (f 3 (by omega) 1 (by omega) (by omega)), if_neg (f 3 (by omega) 2 (by omega) (by omega)), if_pos rfl]
    obtain ⟨M2, e2, J2⟩ := b_press h hN30 hp hk
    exact ⟨M2, e2, up J2⟩
  · rw [if_neg (f 4 (by omega) 0 (by omega) (by omega)), if_neg (f 4 (by omega) 1 (by omega) (by omega)), if_neg (f 4 (by omega) 2 (by omega) (by omega)), if_neg (f 4 (by omega) 3 (by omega) (by omega)), if_pos rfl]
    obtain ⟨M2, e2, J2⟩ := b_release h hN30 hp hk
    exact ⟨M2, e2, up J2⟩
  · rw [if_neg (f 5 (by omega) 0 (by omega) (by omega)), if_neg (f 5 (by omega) 1 (by omega) (by omega)), if_neg (f 5 (by omega) 2 (by omega) (by omega)), if_neg (f 5 (by omega) 3 (by omega) (by omega)), if_neg (f 5 (by omega) 4 (by omega) (by omega)), if_pos rfl]
    obtain ⟨M2, e2, J2⟩ := b_release h hN30 hp hk
    exact ⟨M2, e2, up J2⟩
  · rw [if_neg (f 6 (by omega) 0 (by omega) (by omega)), if_neg (f 6 (by omega) 1 (by omega) (by omega)), if_neg (f 6 (by omega) 2 (by omega) (by omega)), if_neg (f 6 (by omega) 3 (by omega) (by omega)), if_neg (f 6 (by omega) 4 (by omega) (by omega)), if_neg (f 6 (by omega) 5 (by omega) (by omega)), if_pos rfl]
    obtain ⟨m9, hm9, em9⟩ := lows x 9 (by omega) (by omega)
    exact b_tick h hN hm9 em9
  · rw [if_neg (f 7 (by omega) 0 (by omega) (by omega)), if_neg (f 7 (by omega) 1 (by omega) (by omega)), if_neg (f 7 (by omega) 2 (by omega) (by omega)), if_neg (f 7 (by omega) 3 (by omega) (by omega)), if_neg (f 7 (by omega) 4 (by omega) (by omega)), if_neg (f 7 (by omega) 5 (by omega) (by omega)), if_neg (f 7 (by omega) 6 (by omega) (by omega)), if_pos rfl]
    obtain ⟨m9, hm9, em9⟩ := lows x 9 (by omega) (by omega)
    exact b_tick h hN hm9 em9
  · rw [if_neg (f 8 (by omega) 0 (by omega) (by omega)), if_neg (f 8 (by omega) 1 (by omega) (by omega)), if_neg (f 8 (by omega) 2 (by omega) (by omega)), if_neg (f 8 (by omega) 3 (by omega) (by omega)), if_neg (f 8 (by omega) 4 (by omega) (by omega)), if_neg (f 8 (by omega) 5 (by omega) (by omega)), if_neg (f 8 (by omega) 6 (by omega) (by omega)), if_neg (f 8 (by omega) 7 (by omega) (by omega)), if_pos rfl]
    obtain ⟨m9, hm9, em9⟩ := lows x 9 (by omega) (by omega)
    exact b_tick h hN hm9 em9
  · rw [if_neg (f 9 (by omega) 0 (by omega) (by omega)), if_neg (f 9 (by omega) 1 (by omega) (by omega)), if_neg (f 9 (by omega) 2 (by omega) (by omega)), if_neg (f 9 (by omega) 3 (by omega) (by omega)), if_neg (f 9 (by omega) 4 (by omega) (by omega)), if_neg (f 9 (by omega) 5 (by omega) (by omega)), if_neg (f 9 (by omega) 6 (by omega) (by omega)), if_neg (f 9 (by omega) 7 (by omega) (by omega)), if_neg (f 9 (by omega) 8 (by omega) (by omega)), if_pos rfl]
    obtain ⟨m3, hm3, em3⟩ := lows (x >>> (nI 8 &&& nI 31)) 3 (by omega) (by omega)
    obtain ⟨M2, e2, J2⟩ := b_setShift h hN30 hp hk hm3 em3
    exact ⟨M2, e2, up J2⟩
  · rw [if_neg (f 10 (by omega) 0 (by omega) (by omega)), if_neg (f 10 (by omega) 1 (by omega) (by omega)), if_neg (f 10 (by omega) 2 (by omega) (by omega)), if_neg (f 10 (by omega) 3 (by omega) (by omega)), if_neg (f 10 (by omega) 4 (by omega) (by omega)), if_neg (f 10 (by omega) 5 (by omega) (by omega)), if_neg (f 10 (by omega) 6 (by omega) (by omega)), if_neg (f 10 (by omega) 7 (by omega) (by omega)), if_neg (f 10 (by omega) 8 (by omega) (by omega)), if_neg (f 10 (by omega) 9 (by omega) (by omega)), if_pos rfl]
    obtain ⟨m5, hm5, em5⟩ := lows (x >>> (nI 8 &&& nI 31)) 5 (by omega) (by omega)
    obtain ⟨m26, hm26, em26⟩ := lows (x >>> (nI 11 &&& nI 31)) 26 (by omega) (by omega)
    rw [em5, cal_x, jn_x]
    by_cases h0 : m5 = 0
    · subst h0
      obtain ⟨M2, e2, J2⟩ := b_setSign h hN30 hk (v := 46) (.inl rfl)
      rw [if_pos rfl]
      dsimp only
      rw [i2cv_of (show 46 < 65536 by omega)]
      exact ⟨M2, e2, up J2⟩
    · obtain ⟨M2, e2, J2⟩ := b_setSign h hN30 hk (v := 97 + m26) (.inr (by omega))
      rw [if_neg (show ¬ nI m5 = nI 0 by rw [nI_eq (by omega) (by omega)]; exact h0), em26, cal_x, nI_add]
      dsimp only
      rw [i2cv_of (show 97 + m26 < 65536 by omega)]
      exact ⟨M2, e2, up J2⟩
  · rw [if_neg (f 11 (by omega) 0 (by omega) (by omega)), if_neg (f 11 (by omega) 1 (by omega) (by omega)), if_neg (f 11 (by omega) 2 (by omega) (by omega)), if_neg (f 11 (by omega) 3 (by omega) (by omega)), if_neg (f 11 (by omega) 4 (by omega) (by omega)), if_neg (f 11 (by omega) 5 (by omega) (by omega)), if_neg (f 11 (by omega) 6 (by omega) (by omega)), if_neg (f 11 (by omega) 7 (by omega) (by omega)), if_neg (f 11 (by omega) 8 (by omega) (by omega)), if_neg (f 11 (by omega) 9 (by omega) (by omega)), if_neg (f 11 (by omega) 10 (by omega) (by omega))]
    obtain ⟨d, hd, ed⟩ := lows x 22 (by omega) (by omega)
    obtain ⟨w, hw, ew⟩ := lows (x >>> (nI 6 &&& nI 31)) 3 (by omega) (by omega)
    obtain ⟨M2, s2, φ2, e2, J2⟩ := a_settles h (by omega) (d := d) (by omega) hw
    refine ⟨M2, ?_, J2.jn (by omega)⟩
    rw [ed, cal_x, ew, cal_x, e2, cal_x, show bzb (nI 1) = true by decide, asr_x]
end AC
