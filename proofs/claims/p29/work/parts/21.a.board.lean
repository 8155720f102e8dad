/-! PURE: the lengths; the board of the class by equations -/
theorem ln_3 : ln 3 = 48 := rfl
theorem ln_4 : ln 4 = 48 := rfl
theorem ln_5 : ln 5 = 48 := rfl
theorem ln_6 : ln 6 = 48 := rfl
theorem ln_7 : ln 7 = 48 := rfl
theorem ln_8 : ln 8 = 6 := rfl
theorem ln_9 : ln 9 = 6 := rfl
theorem ln_10 : ln 10 = 6 := rfl
theorem ln_11 : ln 11 = 2 := rfl
theorem ln_13 : ln 13 = 24 := rfl
theorem ln_15 : ln 15 = 24 := rfl
theorem ln_17 : ln 17 = 20 := rfl
theorem ln_18 : ln 18 = 20 := rfl
theorem ln_19 : ln 19 = 20 := rfl
theorem ln_20 : ln 20 = 20 := rfl
theorem ln_21 : ln 21 = 20 := rfl
theorem ln_22 : ln 22 = 20 := rfl
theorem ln_23 : ln 23 = 20 := rfl
theorem ln_25 : ln 25 = 20 := rfl
theorem ln_26 : ln 26 = 20 := rfl
theorem ln_27 : ln 27 = 20 := rfl
theorem ln_28 : ln 28 = 20 := rfl
theorem ln_29 : ln 29 = 20 := rfl
theorem ln_30 : ln 30 = 20 := rfl
theorem ln_31 : ln 31 = 20 := rfl
theorem ln_33 : ln 33 = 3 := rfl
theorem ln_234 : ln 234 = 60 := rfl
theorem ln_lt (a : Nat) : ln a < 4096 := by
  unfold ln
  by_cases h : a < 235
  · have key : ∀ k, k < 235 → lnL.getD k 0 < 4096 := by decide +kernel
    exact key a h
  · have e : lnL.length = 235 := by decide +kernel
    rw [List.getD_eq_getElem?_getD, List.getElem?_eq_none (by omega)]
    decide
def pw (d : Nat) : Int32 := nI 1 <<< (nI d &&& nI 31)
theorem pw_def (d : Nat) : nI 1 <<< (nI d &&& nI 31) = pw d := rfl
theorem bt_pw {c : Nat} (hc : c < 32) (d : Nat) : bt (pw c) d = decide (c = d) := bt_1 hc d
theorem and_pw {x : Int32} {c : Nat} (hc : c < 32) : (x &&& pw c = nI 0) = (bt x c = false) := and_bit hc
def b2 (b : Bool) : Int32 := if b = true then nI 1 else nI 0
theorem b2_0 {b : Bool} : (b2 b = nI 0) = (b = false) := by
  cases b
  · simp [b2]
  · simp only [b2, if_true]
    exact propext ⟨fun h => absurd h (by decide), fun h => absurd h (by decide)⟩
theorem b2_t : b2 true = nI 1 := rfl
theorem b2_f : b2 false = nI 0 := rfl
theorem cal_e {γ β : Type} {v : γ} {M : Mem} {k : γ → Mem → Option β} : cal (some (v, M)) k = k v M := rfl
theorem bnd_e {γ δ : Type} {e : γ} {k : γ → δ} : bnd e k = k e := rfl
theorem asr_e {β : Type} {k : Option β} : asr true k = k := rfl
theorem jn_e {γ β δ : Type} {K : γ → Mem → Option β} {F : (γ → Mem → Option β) → δ} : jn K F = F K := rfl
theorem e_at {a j : Nat} (M : Mem) (h : j < ln a) : fX1_at a (nI j) M = some (M.1 a j, M) := by
  have := ln_lt a
  unfold fX1_at
  simp (disch := omega) only [nlit, nm_def, nI_add, nI_mul, nI_sub, nI_div, nI_rem, nI_clamp, nI_leI, nI_ltI, nI_eq, inb_nI, nzb_nI, nI_nm, nm_nI, nI_le_nm, nI_lt_nm, nm_le_nI, nm_lt_nI, cal_e, bnd_e, asr_e, jn_e, if_true, Nat.not_lt_zero, show ¬ (ln a ≤ j) by omega, if_false]
theorem e_put {a j : Nat} {x : Int32} (M : Mem) (h : j < ln a) : fX1_put a (nI j) x M = some ((), w1 M a j x) := by
  have := ln_lt a
  unfold fX1_put
  simp (disch := omega) only [nlit, nm_def, nI_add, nI_mul, nI_sub, nI_div, nI_rem, nI_clamp, nI_leI, nI_ltI, nI_eq, inb_nI, nzb_nI, nI_nm, nm_nI, nI_le_nm, nI_lt_nm, nm_le_nI, nm_lt_nI, cal_e, bnd_e, asr_e, jn_e, if_true, Nat.not_lt_zero, show ¬ (ln a ≤ j) by omega, if_false]
theorem e_rowOf {M : Mem} {c k : Nat} (hc : M.1 2 1 = nI c) (h0 : 0 < c) (h8 : c ≤ 8) (hk : k < 2 ^ 31) : fX0_rowOf 2 (nI k) M = some (nI (k / c), M) := by
  unfold fX0_rowOf
  simp (disch := omega) only [hc, nlit, nm_def, nI_add, nI_mul, nI_sub, nI_div, nI_rem, nI_clamp, nI_leI, nI_ltI, nI_eq, inb_nI, nzb_nI, nI_nm, nm_nI, nI_le_nm, nI_lt_nm, nm_le_nI, nm_lt_nI, cal_e, bnd_e, asr_e, jn_e, if_true, show ¬ (c ≤ 0) by omega, if_false]
theorem e_bitOf {M : Mem} {c k : Nat} (hc : M.1 2 1 = nI c) (h0 : 0 < c) (h8 : c ≤ 8) (hk : k < 2 ^ 31) : fX0_bitOf 2 (nI k) M = some (pw (k % c), M) := by
  unfold fX0_bitOf
  simp (disch := omega) only [hc, nlit, nm_def, nI_add, nI_mul, nI_sub, nI_div, nI_rem, nI_clamp, nI_leI, nI_ltI, nI_eq, inb_nI, nzb_nI, nI_nm, nm_nI, nI_le_nm, nI_lt_nm, nm_le_nI, nm_lt_nI, cal_e, bnd_e, asr_e, jn_e, if_true, show ¬ (c ≤ 0) by omega, if_false, pw_def]
theorem e_has {M : Mem} {r c k : Nat} (hr : M.1 2 0 = nI r) (hc : M.1 2 1 = nI c) (hk : k < r * c) (hn : r * c < 2 ^ 31) : fX0_has 2 (nI k) M = some (nI 1, M) := by
  unfold fX0_has
  simp (disch := omega) only [hr, hc, nlit, nm_def, nI_add, nI_mul, nI_sub, nI_div, nI_rem, nI_clamp, nI_leI, nI_ltI, nI_eq, inb_nI, nzb_nI, nI_nm, nm_nI, nI_le_nm, nI_lt_nm, nm_le_nI, nm_lt_nI, cal_e, bnd_e, asr_e, jn_e, if_true, Nat.not_lt_zero, show ¬ (r * c ≤ k) by omega, if_false]
theorem e_hasn {M : Mem} {r c : Nat} {x : Int32} (hr : M.1 2 0 = nI r) (hc : M.1 2 1 = nI c) (hx : x < 0 ∨ nI (r * c) ≤ x) : fX0_has 2 x M = some (nI 0, M) := by
  unfold fX0_has
  rw [hr, hc, nI_mul]
  by_cases h : x < 0
  · simp only [h, if_true]
    rfl
  · rcases hx with hx | hx
    · exact absurd hx h
    · simp only [h, hx, if_true, if_false]
      rfl

