theorem cnt_succ (n : Nat) (p : Nat → Bool) : cnt (n + 1) p = cnt n p + (if p n = true then 1 else 0) := rfl
theorem cnt_0 (p : Nat → Bool) : cnt 0 p = 0 := rfl
theorem sm_succ (n : Nat) (f : Nat → Nat) : sm (n + 1) f = sm n f + f n := rfl
theorem e_heldBy (M : Mem) (x : Int32) : fX0_heldBy 2 x M = some (nI (cnt 48 (fun k => decide (M.1 3 k = x))), M) := by
  unfold fX0_heldBy
  refine wp_eq (lp_for 48 (fun i b M1 => b = (nI (cnt i (fun k => decide (M.1 3 k = x))), nI i) ∧ M1 = M) (by omega) ⟨rfl, rfl⟩ ?_ ?_)
  · rintro i b M1 rec hi ⟨rfl, rfl⟩ kk
    unfold FX0_heldBy_14
    simp (disch := first | omega | (simp only [ln_3, ln_4, ln_5, ln_6, ln_7, ln_8, ln_9, ln_10, ln_11, ln_13, ln_15, ln_17, ln_18, ln_19, ln_20, ln_21, ln_22, ln_23, ln_25, ln_26, ln_27, ln_28, ln_29, ln_30, ln_31, ln_33, ln_234]; omega)) only [nlit, nm_def, nI_add, nI_mul, nI_sub, nI_div, nI_rem, nI_clamp, nI_leI, nI_ltI, nI_eq, inb_nI, nzb_nI, nI_nm, nm_nI, nI_le_nm, nI_lt_nm, nm_le_nI, nm_lt_nI, cal_e, bnd_e, asr_e, jn_e, if_true, Nat.reduceAdd, ln_3, show ¬ (48 ≤ i) by omega, if_false]
    by_cases h : M1.1 3 i = x
    · simp only [h, if_true]
      exact kk _ _ ⟨by simp [cnt_succ, h], rfl⟩
    · simp only [h, if_false]
      exact kk _ _ ⟨by simp [cnt_succ, h], rfl⟩
  · rintro b M1 rec ⟨rfl, rfl⟩
    unfold FX0_heldBy_14
    simp (disch := first | omega | (simp only [ln_3, ln_4, ln_5, ln_6, ln_7, ln_8, ln_9, ln_10, ln_11, ln_13, ln_15, ln_17, ln_18, ln_19, ln_20, ln_21, ln_22, ln_23, ln_25, ln_26, ln_27, ln_28, ln_29, ln_30, ln_31, ln_33, ln_234]; omega)) only [nlit, nm_def, nI_add, nI_mul, nI_sub, nI_div, nI_rem, nI_clamp, nI_leI, nI_ltI, nI_eq, inb_nI, nzb_nI, nI_nm, nm_nI, nI_le_nm, nI_lt_nm, nm_le_nI, nm_lt_nI, cal_e, bnd_e, asr_e, jn_e, if_true, Nat.reduceAdd, ln_3, Nat.le_refl, wp_some, and_self]
theorem e_bitsIn {M : Mem} {a : Nat} (hl : ln a = 6) (h : ∀ i, i < 6 → ∀ d, 8 ≤ d → bt (M.1 a i) d = false) : fX1_bitsIn a M = some (nI (sm 6 (fun i => cnt 8 (bt (M.1 a i)))), M) := by
  unfold fX1_bitsIn
  refine wp_eq (lp_for 6 (fun i b M1 => b = (nI (sm i (fun i => cnt 8 (bt (M.1 a i)))), nI i) ∧ M1 = M) (by omega) ⟨rfl, rfl⟩ ?_ ?_)
  · rintro i b M1 rec hi ⟨rfl, rfl⟩ kk
    unfold FX1_bitsIn_10
    simp (disch := first | omega | (simp only [ln_3, ln_4, ln_5, ln_6, ln_7, ln_8, ln_9, ln_10, ln_11, ln_13, ln_15, ln_17, ln_18, ln_19, ln_20, ln_21, ln_22, ln_23, ln_25, ln_26, ln_27, ln_28, ln_29, ln_30, ln_31, ln_33, ln_234]; omega)) only [nlit, nm_def, nI_add, nI_mul, nI_sub, nI_div, nI_rem, nI_clamp, nI_leI, nI_ltI, nI_eq, inb_nI, nzb_nI, nI_nm, nm_nI, nI_le_nm, nI_lt_nm, nm_le_nI, nm_lt_nI, cal_e, bnd_e, asr_e, jn_e, if_true, hl, show ¬ (6 ≤ i) by omega, if_false, e_bitCount M1 (h i hi)]
    exact kk _ _ ⟨rfl, rfl⟩
  · rintro b M1 rec ⟨rfl, rfl⟩
    unfold FX1_bitsIn_10
    simp (disch := first | omega | (simp only [ln_3, ln_4, ln_5, ln_6, ln_7, ln_8, ln_9, ln_10, ln_11, ln_13, ln_15, ln_17, ln_18, ln_19, ln_20, ln_21, ln_22, ln_23, ln_25, ln_26, ln_27, ln_28, ln_29, ln_30, ln_31, ln_33, ln_234]; omega)) only [nlit, nm_def, nI_add, nI_mul, nI_sub, nI_div, nI_rem, nI_clamp, nI_leI, nI_ltI, nI_eq, inb_nI, nzb_nI, nI_nm, nm_nI, nI_le_nm, nI_lt_nm, nm_le_nI, nm_lt_nI, cal_e, bnd_e, asr_e, jn_e, if_true, hl, Nat.le_refl, wp_some, and_self]
theorem e_shiftOwner (M : Mem) (x : Int32) : fX0_shiftOwner 2 x M = some (if M.1 11 0 = x then nI 0 else if M.1 11 1 = x then nI 1 else nm 1, M) := by
  unfold fX0_shiftOwner
  simp (disch := first | omega | (simp only [ln_3, ln_4, ln_5, ln_6, ln_7, ln_8, ln_9, ln_10, ln_11, ln_13, ln_15, ln_17, ln_18, ln_19, ln_20, ln_21, ln_22, ln_23, ln_25, ln_26, ln_27, ln_28, ln_29, ln_30, ln_31, ln_33, ln_234]; omega)) only [nlit, nm_def, nI_add, nI_mul, nI_sub, nI_div, nI_rem, nI_clamp, nI_leI, nI_ltI, nI_eq, inb_nI, nzb_nI, nI_nm, nm_nI, nI_le_nm, nI_lt_nm, nm_le_nI, nm_lt_nI, cal_e, bnd_e, asr_e, jn_e, if_true, Nat.reduceAdd, e_at]
  by_cases h : M.1 11 0 = x
  · simp only [h, if_true]
  · by_cases h2 : M.1 11 1 = x
    · simp only [h, h2, if_true, if_false]
    · simp only [h, h2, if_false]
theorem e_isBit {M : Mem} {c k : Nat} (hc : M.1 2 1 = nI c) (h0 : 0 < c) (h8 : c ≤ 8) (hk : k / c < 6) (hk2 : k < 2 ^ 31) :
    fX0_isDown 2 (nI k) M = some (b2 (bt (M.1 8 (k / c)) (k % c)), M) ∧ fX0_isSeen 2 (nI k) M = some (b2 (bt (M.1 9 (k / c)) (k % c)), M) ∧ fX0_isDoubtful 2 (nI k) M = some (b2 (bt (M.1 10 (k / c)) (k % c)), M) := by
  have h1 : k % c < c := Nat.mod_lt _ h0
  refine ⟨?_, ?_, ?_⟩
  · unfold fX0_isDown
    simp (disch := first | omega | (simp only [ln_3, ln_4, ln_5, ln_6, ln_7, ln_8, ln_9, ln_10, ln_11, ln_13, ln_15, ln_17, ln_18, ln_19, ln_20, ln_21, ln_22, ln_23, ln_25, ln_26, ln_27, ln_28, ln_29, ln_30, ln_31, ln_33, ln_234]; omega)) only [e_rowOf hc h0 h8 hk2, e_bitOf hc h0 h8 hk2, nlit, nm_def, nI_add, nI_mul, nI_sub, nI_div, nI_rem, nI_clamp, nI_leI, nI_ltI, nI_eq, inb_nI, nzb_nI, nI_nm, nm_nI, nI_le_nm, nI_lt_nm, nm_le_nI, nm_lt_nI, cal_e, bnd_e, asr_e, jn_e, if_true, Nat.reduceAdd, e_at, and_pw]
    cases bt (M.1 8 (k / c)) (k % c) <;> simp [b2]
  · unfold fX0_isSeen
    simp (disch := first | omega | (simp only [ln_3, ln_4, ln_5, ln_6, ln_7, ln_8, ln_9, ln_10, ln_11, ln_13, ln_15, ln_17, ln_18, ln_19, ln_20, ln_21, ln_22, ln_23, ln_25, ln_26, ln_27, ln_28, ln_29, ln_30, ln_31, ln_33, ln_234]; omega)) only [e_rowOf hc h0 h8 hk2, e_bitOf hc h0 h8 hk2, nlit, nm_def, nI_add, nI_mul, nI_sub, nI_div, nI_rem, nI_clamp, nI_leI, nI_ltI, nI_eq, inb_nI, nzb_nI, nI_nm, nm_nI, nI_le_nm, nI_lt_nm, nm_le_nI, nm_lt_nI, cal_e, bnd_e, asr_e, jn_e, if_true, Nat.reduceAdd, e_at, and_pw]
    cases bt (M.1 9 (k / c)) (k % c) <;> simp [b2]
  · unfold fX0_isDoubtful
    simp (disch := first | omega | (simp only [ln_3, ln_4, ln_5, ln_6, ln_7, ln_8, ln_9, ln_10, ln_11, ln_13, ln_15, ln_17, ln_18, ln_19, ln_20, ln_21, ln_22, ln_23, ln_25, ln_26, ln_27, ln_28, ln_29, ln_30, ln_31, ln_33, ln_234]; omega)) only [e_rowOf hc h0 h8 hk2, e_bitOf hc h0 h8 hk2, nlit, nm_def, nI_add, nI_mul, nI_sub, nI_div, nI_rem, nI_clamp, nI_leI, nI_ltI, nI_eq, inb_nI, nzb_nI, nI_nm, nm_nI, nI_le_nm, nI_lt_nm, nm_le_nI, nm_lt_nI, cal_e, bnd_e, asr_e, jn_e, if_true, Nat.reduceAdd, e_at, and_pw]
    cases bt (M.1 10 (k / c)) (k % c) <;> simp [b2]
theorem e_leaf {M : Mem} {k : Nat} (hk : k < 48) : fX0_holderOf 2 (nI k) M = some (M.1 3 k, M) ∧ fX0_notedFor 2 (nI k) M = some (M.1 6 k, M) ∧ fX0_sinceOf 2 (nI k) M = some (M.1 5 k, M) ∧ fX0_trueHolderOf 2 (nI k) M = some (M.1 7 k, M) := by
  refine ⟨?_, ?_, ?_, ?_⟩
  · unfold fX0_holderOf
    simp (disch := first | omega | (simp only [ln_3, ln_4, ln_5, ln_6, ln_7, ln_8, ln_9, ln_10, ln_11, ln_13, ln_15, ln_17, ln_18, ln_19, ln_20, ln_21, ln_22, ln_23, ln_25, ln_26, ln_27, ln_28, ln_29, ln_30, ln_31, ln_33, ln_234]; omega)) only [cal_e, bnd_e, asr_e, jn_e, if_true, Nat.reduceAdd, e_at]
  · unfold fX0_notedFor
    simp (disch := first | omega | (simp only [ln_3, ln_4, ln_5, ln_6, ln_7, ln_8, ln_9, ln_10, ln_11, ln_13, ln_15, ln_17, ln_18, ln_19, ln_20, ln_21, ln_22, ln_23, ln_25, ln_26, ln_27, ln_28, ln_29, ln_30, ln_31, ln_33, ln_234]; omega)) only [cal_e, bnd_e, asr_e, jn_e, if_true, Nat.reduceAdd, e_at]
  · unfold fX0_sinceOf
    simp (disch := first | omega | (simp only [ln_3, ln_4, ln_5, ln_6, ln_7, ln_8, ln_9, ln_10, ln_11, ln_13, ln_15, ln_17, ln_18, ln_19, ln_20, ln_21, ln_22, ln_23, ln_25, ln_26, ln_27, ln_28, ln_29, ln_30, ln_31, ln_33, ln_234]; omega)) only [cal_e, bnd_e, asr_e, jn_e, if_true, Nat.reduceAdd, e_at]
  · unfold fX0_trueHolderOf
    simp (disch := first | omega | (simp only [ln_3, ln_4, ln_5, ln_6, ln_7, ln_8, ln_9, ln_10, ln_11, ln_13, ln_15, ln_17, ln_18, ln_19, ln_20, ln_21, ln_22, ln_23, ln_25, ln_26, ln_27, ln_28, ln_29, ln_30, ln_31, ln_33, ln_234]; omega)) only [cal_e, bnd_e, asr_e, jn_e, if_true, Nat.reduceAdd, e_at]
theorem e_shiftOf {M : Mem} {p : Nat} (hp : p < 2) : fX0_shiftOf 2 (nI p) M = some (M.1 11 p, M) := by
  unfold fX0_shiftOf
  simp (disch := first | omega | (simp only [ln_3, ln_4, ln_5, ln_6, ln_7, ln_8, ln_9, ln_10, ln_11, ln_13, ln_15, ln_17, ln_18, ln_19, ln_20, ln_21, ln_22, ln_23, ln_25, ln_26, ln_27, ln_28, ln_29, ln_30, ln_31, ln_33, ln_234]; omega)) only [cal_e, bnd_e, asr_e, jn_e, if_true, Nat.reduceAdd, e_at]
theorem e_signOf {M : Mem} {r c k : Nat} (hr : M.1 2 0 = nI r) (hc : M.1 2 1 = nI c) (hn : r * c ≤ 48) (hk : k < r * c) : fX0_signOf 2 (nI k) M = some (M.1 4 k, M) := by
  unfold fX0_signOf
  simp (disch := first | omega | (simp only [ln_3, ln_4, ln_5, ln_6, ln_7, ln_8, ln_9, ln_10, ln_11, ln_13, ln_15, ln_17, ln_18, ln_19, ln_20, ln_21, ln_22, ln_23, ln_25, ln_26, ln_27, ln_28, ln_29, ln_30, ln_31, ln_33, ln_234]; omega)) only [e_has hr hc hk (by omega), nlit, nm_def, nI_add, nI_mul, nI_sub, nI_div, nI_rem, nI_clamp, nI_leI, nI_ltI, nI_eq, inb_nI, nzb_nI, nI_nm, nm_nI, nI_le_nm, nI_lt_nm, nm_le_nI, nm_lt_nI, cal_e, bnd_e, asr_e, jn_e, if_true, Nat.reduceAdd, e_at, if_false]
  rw [if_neg (by omega)]
theorem e_signOfn {M : Mem} {r c : Nat} {x : Int32} (hr : M.1 2 0 = nI r) (hc : M.1 2 1 = nI c) (hx : x < 0 ∨ nI (r * c) ≤ x) : fX0_signOf 2 x M = some (nI 46, M) := by
  unfold fX0_signOf
  simp only [e_hasn hr hc hx, nlit, nm_def, nI_add, nI_mul, nI_sub, nI_div, nI_rem, nI_clamp, nI_leI, nI_ltI, nI_eq, inb_nI, nzb_nI, nI_nm, nm_nI, nI_le_nm, nI_lt_nm, nm_le_nI, nm_lt_nI, cal_e, bnd_e, asr_e, jn_e, if_true]
theorem e_putDown {M : Mem} {c k : Nat} {x : Int32} (hc : M.1 2 1 = nI c) (h0 : 0 < c) (h8 : c ≤ 8) (hk : k / c < 6) (hk2 : k < 48) :
    fX0_putDown 2 x (nI k) M = some ((), w1 (w1 M 3 k x) 8 (k / c) (M.1 8 (k / c) ||| pw (k % c))) := by
  have hc2 : (w1 M 3 k x).1 2 1 = nI c := by rw [w1_o (by decide), hc]
  unfold fX0_putDown
  simp (disch := first | omega | (simp only [ln_3, ln_4, ln_5, ln_6, ln_7, ln_8, ln_9, ln_10, ln_11, ln_13, ln_15, ln_17, ln_18, ln_19, ln_20, ln_21, ln_22, ln_23, ln_25, ln_26, ln_27, ln_28, ln_29, ln_30, ln_31, ln_33, ln_234]; omega)) only [e_rowOf hc h0 h8, e_bitOf hc2 h0 h8, cal_e, bnd_e, asr_e, jn_e, if_true, Nat.reduceAdd, e_at, e_put]
  rw [w1_o (by decide)]
theorem e_liftUp {M : Mem} {c k : Nat} (hc : M.1 2 1 = nI c) (h0 : 0 < c) (h8 : c ≤ 8) (hk : k / c < 6) (hk2 : k < 48) :
    fX0_liftUp 2 (nI k) M = some ((), w1 (w1 M 3 k (nm 1)) 8 (k / c) (M.1 8 (k / c) &&& (pw (k % c) ^^^ nm 1))) := by
  have hc2 : (w1 M 3 k (nm 1)).1 2 1 = nI c := by rw [w1_o (by decide), hc]
  unfold fX0_liftUp
  simp (disch := first | omega | (simp only [ln_3, ln_4, ln_5, ln_6, ln_7, ln_8, ln_9, ln_10, ln_11, ln_13, ln_15, ln_17, ln_18, ln_19, ln_20, ln_21, ln_22, ln_23, ln_25, ln_26, ln_27, ln_28, ln_29, ln_30, ln_31, ln_33, ln_234]; omega)) only [e_rowOf hc h0 h8, nlit, nm_def, e_bitOf hc2 h0 h8, cal_e, bnd_e, asr_e, jn_e, if_true, Nat.reduceAdd, e_at, e_put]
  rw [w1_o (by decide)]
theorem e_loseSight {M : Mem} {c k : Nat} (hc : M.1 2 1 = nI c) (h0 : 0 < c) (h8 : c ≤ 8) (hk : k / c < 6) (hk2 : k < 48) :
    fX0_loseSight 2 (nI k) M = some ((), w1 (w1 M 9 (k / c) (M.1 9 (k / c) &&& (pw (k % c) ^^^ nm 1))) 10 (k / c) (M.1 10 (k / c) &&& (pw (k % c) ^^^ nm 1))) := by
  have hc2 : ∀ x, (w1 M 9 (k / c) x).1 2 1 = nI c := fun x => by rw [w1_o (by decide), hc]
  unfold fX0_loseSight
  simp (disch := first | omega | (simp only [ln_3, ln_4, ln_5, ln_6, ln_7, ln_8, ln_9, ln_10, ln_11, ln_13, ln_15, ln_17, ln_18, ln_19, ln_20, ln_21, ln_22, ln_23, ln_25, ln_26, ln_27, ln_28, ln_29, ln_30, ln_31, ln_33, ln_234]; omega)) only [e_rowOf hc h0 h8, nlit, nm_def, e_bitOf hc h0 h8, e_bitOf (hc2 _) h0 h8, cal_e, bnd_e, asr_e, jn_e, if_true, Nat.reduceAdd, e_at, e_put]
  rw [w1_o (by decide)]
theorem e_giveShift {M : Mem} {p k : Nat} (hp : p < 2) (hk : k < 48) : fX0_giveShift 2 (nI p) (nI k) M = some ((), w1 (w1 M 11 p (nI k)) 4 k (nI 46)) := by
  unfold fX0_giveShift
  simp (disch := first | omega | (simp only [ln_3, ln_4, ln_5, ln_6, ln_7, ln_8, ln_9, ln_10, ln_11, ln_13, ln_15, ln_17, ln_18, ln_19, ln_20, ln_21, ln_22, ln_23, ln_25, ln_26, ln_27, ln_28, ln_29, ln_30, ln_31, ln_33, ln_234]; omega)) only [nlit, cal_e, bnd_e, asr_e, jn_e, if_true, Nat.reduceAdd, e_put]
theorem e_size {M : Mem} {r c : Nat} (hr : M.1 2 0 = nI r) (hc : M.1 2 1 = nI c) : fX0_size 2 M = some (nI (r * c), M) := by
  unfold fX0_size
  rw [hr, hc, nI_mul]

