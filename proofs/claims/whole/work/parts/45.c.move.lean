/-! PURE: a move of a script, on both sides -/
theorem held_eqC {r c t e dt N p : Nat} {M : Mem} {s : Nat → Int32} {φ : Nat → UInt32} (H : CV r c t e dt N M s φ) (hp : p < 2) : cnt 48 (fun k => decide (M.1 3 k = nI p)) = cnt (r * c) (fun k => decide (s (20 + k) = nI p)) := by
  rw [cnt_cut H.m48 (fun i h1 h2 => decide_eq_false (by rw [H.hold48 h1 h2, nm_nI (by omega) (by decide) (by decide)]; exact not_false))]
  exact cnt_congr (fun i hi => by simp only [oN_eq (H.hold hi) (show p < 2 ^ 31 by omega)])
section AGC
variable {r c t e dt N : Nat} {M : Mem} {s : Nat → Int32} {φ : Nat → UInt32}
theorem cp_outC {x y : Int32} (H : CV r c t e dt N M s φ) (h : (x < nI 0 ∨ nI 2 ≤ x) ∨ (y < nI 0 ∨ nI (r * c) ≤ y)) : fX5_pressError 1 x y M = some (nm 1, M) ∧ fX5_releaseError 1 x y M = some (nm 1, M) := by
  rcases pk_ix x (show 2 < 2 ^ 31 by decide) with hx | hx | ⟨p, hp, rfl⟩
  · have hx' : x < nI 0 ∨ nI 2 ≤ x := .inl hx
    unfold fX5_pressError fX5_releaseError
    simp only [e_isTypn M hx', cal_e, nlit, nm_def, if_true, and_self]
  · have hx' : x < nI 0 ∨ nI 2 ≤ x := .inr hx
    unfold fX5_pressError fX5_releaseError
    simp only [e_isTypn M hx', cal_e, nlit, nm_def, if_true, and_self]
  · have hy : y < nI 0 ∨ nI (r * c) ≤ y := by
      rcases h with h | h
      · exact absurd rfl (out_ne h hp (by decide))
      · exact h
    unfold fX5_pressError fX5_releaseError
    simp only [e_isTyp M hp, Nat.reduceAdd, e_hasn H.hr H.hc hy, cal_e, nlit, nm_def, n10, if_true, if_false, and_self]
theorem cp_inC {p k : Nat} (H : CV r c t e dt N M s φ) (hp : p < 2) (hk : k < r * c) : fX5_pressError 1 (nI p) (nI k) M = some (agP (s) (r * c) p k, M) ∧ fX5_releaseError 1 (nI p) (nI k) M = some (agR (s) p k, M) := by
  have hd := H.hd
  have m48 := H.m48
  have m31 := H.m31
  have hkr := divr hk
  have h5 := H.held5 hp
  obtain ⟨b7, b8, b9⟩ := H.bits hk
  obtain ⟨s1, s2, s3⟩ := e_isBit H.hc (by omega) (by omega) (show k / c < 6 by omega) (show k < 2 ^ 31 by omega)
  have e0 := e_has H.hr H.hc hk m31
  constructor
  · unfold fX5_pressError agP
    simp (disch := omega) only [Nat.reduceAdd, if_true, if_false, e0, cal_e, nlit, nm_def, n10, e_isTyp M hp, s1, b7, b2_if, e_heldBy, held_eqC H hp, nI_ltI]
    by_cases q : s (20 + k) < nI 0
    · simp only [q, decide_true, Bool.not_true, if_true]
      by_cases q2 : cnt (r * c) (fun k => decide (s (20 + k) = nI p)) = 5
      · rw [if_neg (by omega), if_pos q2]
      · rw [if_pos (by omega), if_neg q2]
    · simp only [q, decide_false, Bool.not_false, Bool.true_eq_false, if_false]
  · unfold fX5_releaseError agR
    simp (disch := omega) only [Nat.reduceAdd, if_true, if_false, e0, cal_e, nlit, nm_def, n10, e_isTyp M hp, (e_leaf (M := M) (show k < 48 by omega)).1, oN_eq (H.hold hk) (show p < 2 ^ 31 by omega)]
    split <;> rfl
end AGC
theorem put_w1o {M : Mem} {s : Nat → Int32} {φ : Nat → UInt32} {a i : Nat} {x : Int32} (h : a ≠ 236) : w1 (put M s φ) a i x = put (w1 M a i x) s φ := by
  refine Prod.ext (funext fun b => ?_) ?_
  · by_cases hb : b = 236
    · subst hb
      rw [w1_o (fun g => h g.symm), put_s, put_s]
    · rw [put_1 hb]
      by_cases hb2 : b = a
      · subst hb2
        rw [w1_self, w1_self, put_1 h]
      · rw [w1_o hb2, w1_o hb2, put_1 hb]
  · rw [w1_2]
    rfl
theorem TR_put {L : Nat} {ch : Nat → Nat} {M : Mem} {s : Nat → Int32} {φ : Nat → UInt32} (T : TR L ch M) : TR L ch (put M s φ) := ⟨by rw [put_1 (by decide)]; exact T.1, fun j hj => by rw [put_1 (by decide)]; exact T.2 j hj⟩
section MOVE
variable {r c t e dt N L p : Nat} {ch : Nat → Nat} {M : Mem} {s : Nat → Int32} {φ : Nat → UInt32}
/-- a key is pressed or released as a move asks, or both sides tell the same error -/
theorem j_press {q k : Nat} (H : CV r c t e dt N M s φ) (hq : q < 2) (hk : k < 1000) : ∃ x, fX5_pressError 1 (nI q) (nI k) M = some (x, M) ∧ (∀ Mr, fX9_againstPress 235 (nI q) (nI k) (put Mr s φ) = some (x, put Mr s φ)) ∧
    ((x = nI 0 ∧ k < r * c ∧ ∃ M1, fX0_putDown 2 (nI q) (nI k) M = some ((), M1) ∧ FC M M1 ∧ CV r c t e dt N M1 (upd s (20 + k) (nI q)) φ) ∨ (x = nm 1 ∨ x = nm 3 ∨ x = nm 4)) := by
  have hd := H.hd
  have m48 := H.m48
  by_cases hkn : k < r * c
  · refine ⟨agP s (r * c) q k, (cp_inC H hq hkn).1, fun Mr => (rp_in (M := put Mr s φ) hd H.sr H.sc hq hkn).1, ?_⟩
    rcases agP_c s (r * c) q k with ⟨g, g1, g2⟩ | g | g
    · left
      have h5 := H.held5 hq
      have hkr := divr hkn
      refine ⟨g, hkn, _, e_putDown (M := M) (x := nI q) H.hc (by omega) hd.2.2.2 (show k / c < 6 by omega) (show k < 48 by omega), FC_trans (FC_1 (by omega)) (FC_1 (by omega)), ?_⟩
      refine RS_press (A := vA M 1) (B := vB M 1) (s := s) (φ := φ) H hkn hq (by omega) g1 (fun j hj hj2 => ?_) ?_ ?_ (fun j hj _ => rfl) (fun i hi => upd_ne hi) (upd_eq rfl) (fun i _ => rfl)
      · simp only [Bool.or_eq_false_iff, beq_eq_false_iff_ne] at hj2
        show (w1 (w1 M 3 k (nI q)) 8 (k / c) _).1 (1 + j) = M.1 (1 + j)
        rw [w1_o (by omega), w1_o (by omega)]
      · show (w1 (w1 M 3 k (nI q)) 8 (k / c) _).1 3 = _
        rw [w1_o (by omega), w1_self]
        rfl
      · show (w1 (w1 M 3 k (nI q)) 8 (k / c) _).1 8 = _
        rw [w1_self, w1_o (by omega)]
        rfl
    · exact .inr (.inr (.inl g))
    · exact .inr (.inr (.inr g))
  · have ho : (nI q < nI 0 ∨ nI 2 ≤ nI q) ∨ (nI k < nI 0 ∨ nI (r * c) ≤ nI k) := .inr (.inr (by rw [nI_leI (by omega) (by omega)]; omega))
    exact ⟨nm 1, (cp_outC H ho).1, fun Mr => (rp_out (M := put Mr s φ) hd H.sr H.sc ho).1, .inr (.inl rfl)⟩
theorem j_release {q k : Nat} (H : CV r c t e dt N M s φ) (hq : q < 2) (hk : k < 1000) : ∃ x, fX5_releaseError 1 (nI q) (nI k) M = some (x, M) ∧ (∀ Mr, fX9_againstRelease 235 (nI q) (nI k) (put Mr s φ) = some (x, put Mr s φ)) ∧
    ((x = nI 0 ∧ k < r * c ∧ ∃ M1, fX0_liftUp 2 (nI k) M = some ((), M1) ∧ FC M M1 ∧ CV r c t e dt N M1 (upd s (20 + k) (nm 5)) φ) ∨ (x = nm 1 ∨ x = nm 3 ∨ x = nm 4)) := by
  have hd := H.hd
  have m48 := H.m48
  by_cases hkn : k < r * c
  · refine ⟨agR s q k, (cp_inC H hq hkn).2, fun Mr => (rp_in (M := put Mr s φ) hd H.sr H.sc hq hkn).2, ?_⟩
    rcases agR_c s q k with ⟨g, g1⟩ | g
    · left
      have hkr := divr hkn
      refine ⟨g, hkn, _, e_liftUp (M := M) H.hc (by omega) hd.2.2.2 (show k / c < 6 by omega) (show k < 48 by omega), FC_trans (FC_1 (by omega)) (FC_1 (by omega)), ?_⟩
      refine RS_release (A := vA M 1) (B := vB M 1) (s := s) (φ := φ) H hkn (fun j hj hj2 => ?_) ?_ ?_ (fun j hj _ => rfl) (fun i hi => upd_ne hi) (upd_eq rfl) (fun i _ => rfl)
      · simp only [Bool.or_eq_false_iff, beq_eq_false_iff_ne] at hj2
        show (w1 (w1 M 3 k (nm 1)) 8 (k / c) _).1 (1 + j) = M.1 (1 + j)
        rw [w1_o (by omega), w1_o (by omega)]
      · show (w1 (w1 M 3 k (nm 1)) 8 (k / c) _).1 3 = _
        rw [w1_o (by omega), w1_self]
        rfl
      · show (w1 (w1 M 3 k (nm 1)) 8 (k / c) _).1 8 = _
        rw [w1_self, w1_o (by omega)]
        rfl
    · exact .inr (.inr (.inr g))
  · have ho : (nI q < nI 0 ∨ nI 2 ≤ nI q) ∨ (nI k < nI 0 ∨ nI (r * c) ≤ nI k) := .inr (.inr (by rw [nI_leI (by omega) (by omega)]; omega))
    exact ⟨nm 1, (cp_outC H ho).2, fun Mr => (rp_out (M := put Mr s φ) hd H.sr H.sc ho).2, .inr (.inl rfl)⟩
/-! the class -/
theorem num5 {x y z : Int32} {rec : Int32 × Int32 → Mem → Option (Int32 × Mem)} : FX3_number_5 233 z rec (x, y) M = if z ≤ y then some (x, M) else cal (fX3_characterAt 233 y M) (fun v1 M2 => rec ((x * 10) + (v1 - 48), y + 1) M2) := by
  unfold FX3_number_5
  simp only [bnd_x]
theorem c_num (hL : L ≤ 60) (hch : ∀ j, j < L → ch j < 65536) (T : TC L ch M) {q : Nat} (hq : q < L) (hd : isD (ch q) = true) : fX3_number 233 (nI q) (nI (numE L ch q)) M = some (nI (numV L ch q), M) := by
  have hd2 := isD_iff.mp hd
  obtain ⟨n1, n2, n3⟩ := numE_b (ch := ch) hq
  unfold fX3_number
  obtain ⟨k1, _, hk1, el1⟩ := lp_1 (F := FX3_number_5 233 (nI (numE L ch q))) (show 999 < 1000000 by omega)
  obtain ⟨k2, _, hk2, el2⟩ := lp_1 (F := FX3_number_5 233 (nI (numE L ch q))) (show 99 < k1 by omega)
  obtain ⟨k3, _, hk3, el3⟩ := lp_1 (F := FX3_number_5 233 (nI (numE L ch q))) (show 9 < k2 by omega)
  have v0 : ((0 : Int32) * 10 + (nI (ch q) - 48)) = nI (ch q - 48) := by
    rw [show (0 : Int32) = nI 0 from rfl, show (10 : Int32) = nI 10 from rfl, show (48 : Int32) = nI 48 from rfl, nI_sub (by omega), nI_mul, nI_add]
    exact congrArg nI (by omega)
  have a1 : nI q + 1 = nI (q + 1) := nI_add q 1
  rw [el1, num5, if_neg (by rw [nI_leI (by omega) (by omega)]; omega), c_char hL hch T hq, cal_x, v0, a1, el2, num5]
  unfold numV numE at *
  by_cases h48 : ch q = 48
  · rw [if_pos h48, if_pos h48, if_pos (by rw [nI_leI (by omega) (by omega)]; omega), h48]
  · rw [if_neg h48, if_neg h48]
    by_cases g : q + 1 < L ∧ isD (ch (q + 1)) = true
    · have g2 := isD_iff.mp g.2
      have v1 : (nI (ch q - 48) * 10 + (nI (ch (q + 1)) - 48)) = nI (10 * (ch q - 48) + (ch (q + 1) - 48)) := by
        rw [show (10 : Int32) = nI 10 from rfl, show (48 : Int32) = nI 48 from rfl, nI_sub (by omega), nI_mul, nI_add]
        exact congrArg nI (by omega)
      have a2 : nI (q + 1) + 1 = nI (q + 2) := nI_add (q + 1) 1
      rw [if_neg h48, if_pos g] at el3
      rw [if_pos g, if_pos g, if_neg (by rw [nI_leI (by omega) (by omega)]; omega), c_char hL hch T g.1, cal_x, v1, a2, el3, num5, if_pos (by rw [nI_leI (by omega) (by omega)]; omega)]
    · rw [if_neg g, if_neg g, if_pos (by rw [nI_leI (by omega) (by omega)]; omega)]
theorem c_moveT (hL : L ≤ 60) (hch : ∀ j, j < L → ch j < 65536) (T : TC L ch M) (hp : p < L) (hm : mvT L ch p) : fX8_move 0 (nI p) (nI (mvE L ch p)) M = cal (fX5_pass 1 (nI (numV L ch (p + 1))) M) (fun v M => some (v, M)) := by
  have a1 : nI p + 1 = nI (p + 1) := nI_add p 1
  unfold fX8_move mvE
  rw [if_pos hm.1, show (0 : Nat) + 233 = 233 from rfl, c_char hL hch T hp, cal_x, hm.1, if_pos (show nI 116 = 116 from rfl), a1, c_num hL hch T hm.2.1 hm.2.2.1, cal_x]
theorem c_moveK (hL : L ≤ 60) (hch : ∀ j, j < L → ch j < 65536) (T : TC L ch M) (hp : p < L) (hm : mvK L ch p) : fX8_move 0 (nI p) (nI (mvE L ch p)) M =
    if ch (p + 1) = 100 then cal (fX5_pressError 1 (nI (ch p - 48)) (nI (numV L ch (p + 2))) M) (fun b M12 => if b = nI 0 then cal (fX0_putDown 2 (nI (ch p - 48)) (nI (numV L ch (p + 2))) M12) (fun _ M16 => some (nI 0, M16)) else some (b, M12))
    else cal (fX5_releaseError 1 (nI (ch p - 48)) (nI (numV L ch (p + 2))) M) (fun b M12 => if b = nI 0 then cal (fX0_liftUp 2 (nI (numV L ch (p + 2))) M12) (fun _ M16 => some (nI 0, M16)) else some (b, M12)) := by
  have h16 : ¬ ch p = 116 := by rcases hm.1 with g | g <;> omega
  have c1 := hch (p + 1) (by have := hm.2.1; omega)
  have a1 : nI p + nI 1 = nI (p + 1) := nI_add p 1
  have a2 : nI p + nI 2 = nI (p + 2) := nI_add p 2
  have s48 : nI (ch p) - nI 48 = nI (ch p - 48) := nI_sub (by rcases hm.1 with g | g <;> omega)
  unfold fX8_move mvE
  rw [if_neg h16]
  have n116 : ¬ nI (ch p) = nI 116 := by rw [nI_eq (by have := hch p hp; omega) (by decide)]; exact h16
  simp only [Nat.reduceAdd, nlit', c_char hL hch T hp, cal_x, n116, if_false, a1, a2, s48, c_num hL hch T hm.2.1 hm.2.2.2, c_char hL hch T (show p + 1 < L by have := hm.2.1; omega), nI_eq (show ch (p + 1) < 2 ^ 31 by omega) (show 100 < 2 ^ 31 by decide), jn_ite]
  by_cases h : ch (p + 1) = 100
  · simp only [h, if_true, jn_x, n10, if_false]
  · simp only [h, if_true, jn_x, if_false]
/-! the reference -/
theorem r_moveT (hL : L ≤ 60) (hch : ∀ j, j < L → ch j < 65536) (T : TR L ch M) (hp : M.1 235 12 = nI p) (hpL : p < L) (hm : mvT L ch p) : fX9_move 235 (nI 1) M = cal (fX9_steps 235 (nI (numV L ch (p + 1))) (w1 M 235 12 (nI (mvE L ch p)))) (fun v M => some (v, M)) := by
  have pl1 : nI p + 1 = nI (p + 1) := nI_add p 1
  have T1 := TR_w (x := nI (p + 1)) T
  have hp1 : (w1 M 235 12 (nI (p + 1))).1 235 12 = nI (p + 1) := w1_eq ⟨rfl, rfl⟩
  have d := isD_iff.mp hm.2.2.1
  have h16 := hm.1
  have h48 := hm.2.2.2
  have h0 := nI0_le (n := numV L ch (p + 1)) (by have := numV_lt (L := L) d.2; omega)
  unfold fX9_move
  rw [show fX9_sees 235 116 116 M = _ from r_sees1 (a := 116) (b := 116) hL hch T hp (by omega) ⟨hpL, by omega, by omega⟩, cal_x, if_neg (show ¬ nI 1 = 0 from n10), hp, pl1, bnd_x]
  rw [show fX9_readsNumber 235 1 (w1 M 235 12 (nI (p + 1))) = _ from r_num1 (a := 1) hL hch T1 hp1 (by omega) ⟨hm.2.1, by omega, d.2⟩, cal_x, if_pos h0, if_neg (show ¬ nI 1 = 0 from n10), w1_w1]
  unfold mvE
  rw [if_pos hm.1]
theorem r_moveK (hL : L ≤ 60) (hch : ∀ j, j < L → ch j < 65536) (T : TR L ch M) (hp : M.1 235 12 = nI p) (hpL : p < L) (hm : mvK L ch p) (hk : numV L ch (p + 2) < 1000) : fX9_move 235 (nI 1) M =
    if ch (p + 1) = 100 then cal (fX9_againstPress 235 (nI (ch p - 48)) (nI (numV L ch (p + 2))) (w1 M 235 12 (nI (mvE L ch p)))) (fun b M17 => if b = nI 0 then asr (inb (nI (20 + numV L ch (p + 2))) 592) (some (b, w1 M17 236 (20 + numV L ch (p + 2)) (nI (ch p - 48)))) else some (b, M17))
    else cal (fX9_againstRelease 235 (nI (ch p - 48)) (nI (numV L ch (p + 2))) (w1 M 235 12 (nI (mvE L ch p)))) (fun b M17 => if b = nI 0 then asr (inb (nI (20 + numV L ch (p + 2))) 592) (some (b, w1 M17 236 (20 + numV L ch (p + 2)) (nm 5))) else some (b, M17)) := by
  have pl1 : nI p + nI 1 = nI (p + 1) := nI_add p 1
  have pl2 : nI (p + 1) + nI 1 = nI (p + 2) := nI_add (p + 1) 1
  have pk : nI 20 + nI (numV L ch (p + 2)) = nI (20 + numV L ch (p + 2)) := nI_add _ _
  have cl : (nI (20 + numV L ch (p + 2))).toNatClampNeg = 20 + numV L ch (p + 2) := nI_clamp (by omega)
  have h2 := hm.2.1
  have h16 : ¬ ch p = 116 := by rcases hm.1 with g | g <;> omega
  have d := isD_iff.mp hm.2.2.2
  have T1 := TR_w (x := nI (p + 1)) T
  have hp1 : (w1 M 235 12 (nI (p + 1))).1 235 12 = nI (p + 1) := w1_eq ⟨rfl, rfl⟩
  have T2 := TR_w (x := nI (p + 2)) T
  have hp2 : (w1 M 235 12 (nI (p + 2))).1 235 12 = nI (p + 2) := w1_eq ⟨rfl, rfl⟩
  have h0 : nI 0 ≤ nI (numV L ch (p + 2)) := nI0_le (by omega)
  have s48 : nI (ch p) - nI 48 = nI (ch p - 48) := nI_sub (by rcases hm.1 with g | g <;> omega)
  have e1 := r_sees0 (a := 116) (b := 116) hL hch T hp (by omega) (by omega) (by omega) (fun g => h16 (by omega))
  have e2 := r_sees1 (a := 48) (b := 49) hL hch T hp (by omega) ⟨hpL, by rcases hm.1 with g | g <;> omega, by rcases hm.1 with g | g <;> omega⟩
  have e3 := r_num1 (a := 0) hL hch T2 hp2 (by omega) ⟨h2, by omega, d.2⟩
  have ib : inb (nI p) 60 = true := inb_nI (by omega) (by decide)
  have cp : (nI p).toNatClampNeg = p := nI_clamp (by omega)
  have emv : mvE L ch p = numE L ch (p + 2) := by unfold mvE; rw [if_neg h16]
  rw [emv]
  by_cases b1 : ch (p + 1) = 100
  · have e4 := r_sees1 (a := 100) (b := 100) hL hch T1 hp1 (by omega) ⟨by omega, by omega, by omega⟩
    rw [if_pos b1]
    unfold fX9_move
    simp only [nlit', Nat.reduceAdd, e1, cal_x, if_true, e2, n10, if_false, hp, ln_244, ib, asr_x, bnd_x, pl1, cp, T.2 p hpL, s48, e4, jn_x, hp1, w1_w1, pl2, e3, h0, pk, cl, ln_236]
  · have b2' : ch (p + 1) = 117 := by rcases hm.2.2.1 with g | g <;> omega
    have e4 := r_sees0 (a := 100) (b := 100) hL hch T1 hp1 (by omega) (by omega) (by omega) (fun g => b1 (by omega))
    have e5 := r_sees1 (a := 117) (b := 117) hL hch T1 hp1 (by omega) ⟨by omega, by omega, by omega⟩
    rw [if_neg b1]
    unfold fX9_move
    simp only [nlit', nm_x, Nat.reduceAdd, e1, cal_x, if_true, e2, n10, if_false, hp, ln_244, ib, asr_x, bnd_x, pl1, cp, T.2 p hpL, s48, e4, e5, jn_x, hp1, w1_w1, pl2, e3, h0, pk, cl, ln_236]
/-- a move, on both sides -/
theorem j_move (hL : L ≤ 60) (hch : ∀ j, j < L → ch j < 65536) (H : CV r c t e dt N M s φ) (T : TC L ch M) (hN : N + 4000 < 2 ^ 24) (hpL : p < L) (hm : mvT L ch p ∨ mvK L ch p) :
    ∃ x M1 s1 φ1, FC M M1 ∧ fX8_move 0 (nI p) (nI (mvE L ch p)) M = some (x, M1) ∧ (∀ Mr, TR L ch Mr → Mr.1 235 12 = nI p → wp (fX9_move 235 (nI 1) (put Mr s φ)) (fun v M5 => v = x ∧ ∃ M6, FD (w1 Mr 235 12 (nI (mvE L ch p))) M6 ∧ M5 = put M6 s1 φ1)) ∧
      ((∃ z t1 e1 dt1, x = nI z ∧ z < 2 ^ 24 ∧ CV r c t1 e1 dt1 (N + 430 * (mvE L ch p + 1 - p)) M1 s1 φ1) ∨ (x = nm 1 ∨ x = nm 3 ∨ x = nm 4)) := by
  rcases hm with hm | hm
  · have d := isD_iff.mp hm.2.2.1
    have h48 := hm.2.2.2
    have hn : numV L ch (p + 1) ≤ 99 := numV_lt d.2
    have hn2 : 17 * numV L ch (p + 1) ≤ 430 * (mvE L ch p + 1 - p) := by
      unfold mvE
      rw [if_pos hm.1]
      unfold numV at hn ⊢
      unfold numE
      rw [if_neg h48] at hn
      rw [if_neg h48, if_neg h48]
      by_cases g : p + 1 + 1 < L ∧ isD (ch (p + 1 + 1)) = true
      · rw [if_pos g] at hn
        rw [if_pos g, if_pos g]
        omega
      · rw [if_neg g, if_neg g]
        omega
    obtain ⟨M1, s1, φ1, t1, e1, dt1, z, F1, H1, hz, C1, R1⟩ := j_ticks (n := numV L ch (p + 1)) H hn (by omega)
    refine ⟨nI z, M1, s1, φ1, F1, ?_, fun Mr TRr hpr => ?_, .inl ⟨z, t1, e1, dt1, rfl, hz, H1.mono (by omega)⟩⟩
    · rw [c_moveT hL hch T hpL hm, C1, cal_x]
    · rw [r_moveT hL hch (TR_put TRr) (by rw [put_1 (by decide)]; exact hpr) hpL hm, put_w1o (by decide), wp_cal]
      refine wp_mono (R1 _) (fun v M5 hv => ?_)
      rw [wp_some]
      exact hv
  · have d := isD_iff.mp hm.2.2.2
    have hk : numV L ch (p + 2) ≤ 99 := numV_lt d.2
    have hq : ch p - 48 < 2 := by rcases hm.1 with g | g <;> omega
    have ib : inb (nI (20 + numV L ch (p + 2))) 592 = true := inb_nI (by omega) (by decide)
    by_cases b1 : ch (p + 1) = 100
    · obtain ⟨x, ec, er, hx⟩ := j_press (q := ch p - 48) (k := numV L ch (p + 2)) H hq (by omega)
      rcases hx with ⟨rfl, hkn, M1, e1, F1, H1⟩ | hx
      · refine ⟨nI 0, M1, _, φ, F1, ?_, fun Mr TRr hpr => ?_, .inl ⟨0, t, e, dt, rfl, by decide, H1.mono (by omega)⟩⟩
        · rw [c_moveK hL hch T hpL hm, if_pos b1, ec, cal_x, if_pos rfl, e1, cal_x]
        · rw [r_moveK hL hch (TR_put TRr) (by rw [put_1 (by decide)]; exact hpr) hpL hm (by omega), if_pos b1, put_w1o (by decide), er, cal_x, if_pos rfl, ib, asr_x, put_w1, wp_some]
          exact ⟨rfl, _, FD_refl _, rfl⟩
      · have hx0 : ¬ x = nI 0 := by rcases hx with rfl | rfl | rfl <;> decide
        refine ⟨x, M, s, φ, FC_refl M, ?_, fun Mr TRr hpr => ?_, .inr hx⟩
        · rw [c_moveK hL hch T hpL hm, if_pos b1, ec, cal_x, if_neg hx0]
        · rw [r_moveK hL hch (TR_put TRr) (by rw [put_1 (by decide)]; exact hpr) hpL hm (by omega), if_pos b1, put_w1o (by decide), er, cal_x, if_neg hx0, wp_some]
          exact ⟨rfl, _, FD_refl _, rfl⟩
    · obtain ⟨x, ec, er, hx⟩ := j_release (q := ch p - 48) (k := numV L ch (p + 2)) H hq (by omega)
      rcases hx with ⟨rfl, hkn, M1, e1, F1, H1⟩ | hx
      · refine ⟨nI 0, M1, _, φ, F1, ?_, fun Mr TRr hpr => ?_, .inl ⟨0, t, e, dt, rfl, by decide, H1.mono (by omega)⟩⟩
        · rw [c_moveK hL hch T hpL hm, if_neg b1, ec, cal_x, if_pos rfl, e1, cal_x]
        · rw [r_moveK hL hch (TR_put TRr) (by rw [put_1 (by decide)]; exact hpr) hpL hm (by omega), if_neg b1, put_w1o (by decide), er, cal_x, if_pos rfl, ib, asr_x, put_w1, wp_some]
          exact ⟨rfl, _, FD_refl _, rfl⟩
      · have hx0 : ¬ x = nI 0 := by rcases hx with rfl | rfl | rfl <;> decide
        refine ⟨x, M, s, φ, FC_refl M, ?_, fun Mr TRr hpr => ?_, .inr hx⟩
        · rw [c_moveK hL hch T hpL hm, if_neg b1, ec, cal_x, if_neg hx0]
        · rw [r_moveK hL hch (TR_put TRr) (by rw [put_1 (by decide)]; exact hpr) hpL hm (by omega), if_neg b1, put_w1o (by decide), er, cal_x, if_neg hx0, wp_some]
          exact ⟨rfl, _, FD_refl _, rfl⟩
end MOVE
