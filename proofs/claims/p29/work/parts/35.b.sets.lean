/-! PURE: setSign -/
theorem e_giveSign {M : Mem} {o x : Int32} {k : Nat} (ho : fX0_shiftOwner 2 (nI k) M = some (o, M)) (hk : k < 48) (hq : (∃ q, q < 2 ∧ o = nI q) ∨ o = nm 1) :
    fX0_giveSign 2 (nI k) x M = some ((), w1 (if o = nm 1 then M else w1 M 11 o.toNatClampNeg (nm 1)) 4 k x) := by
  unfold fX0_giveSign
  rw [ho, cal_e]
  rcases hq with ⟨q, hq, rfl⟩ | rfl
  · have n1 : ¬ nI q = nm 1 := by rw [nI_nm (by omega) (by decide) (by decide)]; exact not_false
    simp (disch := first | omega | (simp only [ln_3, ln_4, ln_5, ln_6, ln_7, ln_8, ln_9, ln_10, ln_11, ln_13, ln_15, ln_17, ln_18, ln_19, ln_20, ln_21, ln_22, ln_23, ln_25, ln_26, ln_27, ln_28, ln_29, ln_30, ln_31, ln_33, ln_234]; omega)) only [nlit, nm_def, n1, if_false, jn_e, Nat.reduceAdd, e_put, cal_e, nI_clamp]
  · simp (disch := first | omega | (simp only [ln_3, ln_4, ln_5, ln_6, ln_7, ln_8, ln_9, ln_10, ln_11, ln_13, ln_15, ln_17, ln_18, ln_19, ln_20, ln_21, ln_22, ln_23, ln_25, ln_26, ln_27, ln_28, ln_29, ln_30, ln_31, ln_33, ln_234]; omega)) only [nlit, nm_def, if_true, jn_e, Nat.reduceAdd, e_put, cal_e]
def okS (x : Int32) : Prop := x = nI 46 ∨ (¬ x = nI 46 ∧ ¬ x < nI 97 ∧ x ≤ nI 122 ∧ ¬ nI 122 < x)
theorem okS_n {x : Int32} (h : ¬ okS x) : ¬ x = nI 46 ∧ (x < nI 97 ∨ (¬ x < nI 97 ∧ ¬ x ≤ nI 122 ∧ nI 122 < x)) := by
  unfold okS at h
  have h1 : ¬ x = nI 46 := fun q => h (.inl q)
  refine ⟨h1, ?_⟩
  by_cases h2 : x < nI 97
  · exact .inl h2
  · refine .inr ⟨h2, ?_⟩
    by_cases h3 : x ≤ nI 122
    · refine absurd (.inr ⟨h1, h2, h3, ?_⟩) h
      rw [Int32.lt_iff_toInt_lt]
      rw [Int32.le_iff_toInt_le] at h3
      omega
    · refine ⟨h3, ?_⟩
      rw [Int32.lt_iff_toInt_lt]
      rw [Int32.le_iff_toInt_le] at h3
      omega
