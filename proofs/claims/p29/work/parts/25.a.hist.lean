/-! PURE: the history of the class -/
def hb (x : Nat) : Nat := 101 + 33 * (x % 4)
def HIid (q : Nat) (M : Mem) : Prop := ∀ i, i < 4 → M.1 100 (1 + i) = nI (hb (q + i))
theorem hb_in (x : Nat) : hb x ∈ bLs := by
  have : x % 4 < 4 := Nat.mod_lt _ (by decide)
  unfold hb
  rcases (show x % 4 = 0 ∨ x % 4 = 1 ∨ x % 4 = 2 ∨ x % 4 = 3 by omega) with h | h | h | h <;> rw [h] <;> decide
theorem hb_rng (x : Nat) : 101 ≤ hb x ∧ hb x + 33 ≤ 233 := by
  have : x % 4 < 4 := Nat.mod_lt _ (by decide)
  unfold hb
  omega
theorem kdb4 : kdb 101 4 = true ∧ kdb 134 4 = true ∧ kdb 167 4 = true ∧ kdb 200 4 = true := by decide +kernel
theorem e_copySt4 {a : Nat} (M : Mem) (ha : a ∈ bLs) (ha2 : a < 100) (hz : bzb (M.1 (a + 11) 3) = true ∧ bzb (M.1 (a + 13) 3) = true) {b : Nat} (hb : b ∈ bLs) (hb2 : 100 < b) (M0 : Mem) (hM : ∀ k, k ≠ 100 → M0.1 k = M.1 k) (hM2 : M0.2 = M.2) :
    ∃ M1, fX5_copyFrom b a M0 = some ((), M1) ∧ AG (vA M a) (vB M a) (vA M1 b) (vB M1 b) ∧ (∀ k, k ≠ 100 → (k < b ∨ b + 33 ≤ k) → M1.1 k = M.1 k ∧ M1.2 k = M.2 k) ∧ M1.1 100 = M0.1 100 := by
  have h100 : a + 33 ≤ 100 := by
    have := bL_ne a ha 101 (by decide)
    have h2 : a ∈ bLs := ha
    simp only [bLs, List.mem_cons, List.not_mem_nil, or_false] at h2
    omega
  have hv : vA M0 a = vA M a ∨ ¬ (vA M0 a = vA M a) := Classical.em _
  obtain ⟨M1, e, g, f⟩ := e_copySt (a := b) (b := a) M0 hb ha (by omega) (by rw [hM _ (by omega), hM _ (by omega)]; exact hz)
  refine ⟨M1, e, ?_, fun k hk h => ?_, (f 100 (by omega)).1⟩
  · have eA : ∀ k, k < 33 → vA M0 a k = vA M a k := fun k hk => hM _ (by omega)
    have eB : vB M0 a = vB M a := by unfold vB; rw [hM2]
    rw [eB] at g
    unfold AG at *
    simp (disch := omega) only [eA] at g ⊢
    obtain ⟨g0, g1, g2, g7, g10, gp, gr⟩ := g
    refine ⟨g0, g1, g2, g7, g10, fun p hp => ?_, gr⟩
    have := gp p hp
    rw [eA _ (by omega), eA _ (by omega)] at this
    exact this
  · rw [(f k h).1, (f k h).2, hM k hk, hM2]
    exact ⟨rfl, rfl⟩
theorem e_remember {a q st : Nat} (M : Mem) (ha : a ∈ bLs) (ha2 : a < 100) (hz : bzb (M.1 (a + 11) 3) = true ∧ bzb (M.1 (a + 13) 3) = true) (hq : HIid q M) (hst : M.1 100 0 = nI st) (hs4 : st ≤ 4) :
    ∃ M1, fX2_remember 100 a M = some ((), M1) ∧ M1.1 100 0 = nI (min (st + 1) 4) ∧ HIid (q + 3) M1 ∧ AG (vA M a) (vB M a) (vA M1 (hb (q + 3))) (vB M1 (hb (q + 3))) ∧
      (∀ k, k ≠ 100 → (k < hb (q + 3) ∨ hb (q + 3) + 33 ≤ k) → M1.1 k = M.1 k ∧ M1.2 k = M.2 k) := by
  have i1 := hq 0 (by omega)
  have i2 := hq 1 (by omega)
  have i3 := hq 2 (by omega)
  have i4 := hq 3 (by omega)
  have r0 := hb_rng (q + 0)
  have r1 := hb_rng (q + 1)
  have r2 := hb_rng (q + 2)
  have r3 := hb_rng (q + 3)
  have kk : ∀ x, kdb (hb x) 4 = true := fun x => by
    have : x % 4 < 4 := Nat.mod_lt _ (by decide)
    unfold hb
    rcases (show x % 4 = 0 ∨ x % 4 = 1 ∨ x % 4 = 2 ∨ x % 4 = 3 by omega) with h | h | h | h <;> rw [h] <;> decide +kernel
  unfold fX2_remember
  simp only [Nat.reduceAdd] at i1 i2 i3 i4
  simp (disch := omega) only [bnd_e, i4, i3, nI_clamp, kk, asr_e, w1_1, reduceIte, and_true, and_false, Nat.reduceEqDiff, i2, i1]
  obtain ⟨M1, e, g, f, f1⟩ := e_copySt4 M ha ha2 hz (hb_in (q + 3)) (by omega) (w1 (w1 (w1 (w1 M 100 4 (nI (hb (q + 2)))) 100 3 (nI (hb (q + 1)))) 100 2 (nI (hb (q + 0)))) 100 1 (nI (hb (q + 3)))) (fun k hk => by rw [w1_o hk, w1_o hk, w1_o hk, w1_o hk]) rfl
  have d0 : M1.1 100 0 = nI st := by
    rw [f1]
    simp [w1_1, hst]
  rw [e, cal_e, d0]
  simp (disch := omega) only [nlit, nI_add, e_min, cal_e]
  refine ⟨_, rfl, by simp [w1_1], fun i hi => ?_, ?_, fun k hk h => ?_⟩
  · rw [w1_1, if_neg (by omega), f1]
    rcases (show i = 0 ∨ i = 1 ∨ i = 2 ∨ i = 3 by omega) with rfl | rfl | rfl | rfl
    · simp [w1_1]
    · first | (simp [w1_1, hb, Nat.add_assoc]; done) | (simp [w1_1, hb, Nat.add_assoc]; exact congrArg nI (by omega))
    · first | (simp [w1_1, hb, Nat.add_assoc]; done) | (simp [w1_1, hb, Nat.add_assoc]; exact congrArg nI (by omega))
    · first | (simp [w1_1, hb, Nat.add_assoc]; done) | (simp [w1_1, hb, Nat.add_assoc]; exact congrArg nI (by omega))
  · refine (show vA (w1 M1 100 0 (nI (min (st + 1) 4))) (hb (q + 3)) = vA M1 (hb (q + 3)) ∨ True from Or.inr trivial).elim (fun _ => ?_) (fun _ => ?_)
    all_goals
      have eA : ∀ k, k < 33 → vA (w1 M1 100 0 (nI (min (st + 1) 4))) (hb (q + 3)) k = vA M1 (hb (q + 3)) k := fun k hk => by
        unfold vA
        rw [w1_o (by omega)]
      have eB : vB (w1 M1 100 0 (nI (min (st + 1) 4))) (hb (q + 3)) = vB M1 (hb (q + 3)) := rfl
      rw [eB]
      unfold AG at *
      simp (disch := omega) only [eA] at g ⊢
      obtain ⟨g0, g1, g2, g7, g10, gp, gr⟩ := g
      refine ⟨g0, g1, g2, g7, g10, fun p hp => ?_, gr⟩
      have := gp p hp
      rw [eA _ (by omega), eA _ (by omega)]
      exact this
  · rw [w1_o hk, w1_2]
    exact f k hk h
theorem e_takeBack {q st : Nat} (M : Mem) (hz : bzb (M.1 (hb q + 11) 3) = true ∧ bzb (M.1 (hb q + 13) 3) = true) (hq : HIid q M) (hst : M.1 100 0 = nI (st + 1)) (hs4 : st + 1 ≤ 4) :
    ∃ M1, fX2_takeBack 100 1 M = some ((), M1) ∧ M1.1 100 0 = nI st ∧ HIid (q + 1) M1 ∧ AG (vA M (hb q)) (vB M (hb q)) (vA M1 1) (vB M1 1) ∧
      (∀ k, k ≠ 100 → (k < 1 ∨ 34 ≤ k) → M1.1 k = M.1 k ∧ M1.2 k = M.2 k) := by
  have i1 := hq 0 (by omega)
  have i2 := hq 1 (by omega)
  have i3 := hq 2 (by omega)
  have i4 := hq 3 (by omega)
  have r0 := hb_rng (q + 0)
  have r1 := hb_rng (q + 1)
  have r2 := hb_rng (q + 2)
  have r3 := hb_rng (q + 3)
  have kk : ∀ x, kdb (hb x) 4 = true := fun x => by
    have : x % 4 < 4 := Nat.mod_lt _ (by decide)
    unfold hb
    rcases (show x % 4 = 0 ∨ x % 4 = 1 ∨ x % 4 = 2 ∨ x % 4 = 3 by omega) with h | h | h | h <;> rw [h] <;> decide +kernel
  obtain ⟨M1, e, g, f⟩ := e_copySt (a := 1) (b := hb q) M (by decide) (hb_in q) (by have := hb_rng q; omega) hz
  have f1 : M1.1 100 = M.1 100 := (f 100 (by omega)).1
  unfold fX2_takeBack
  simp only [Nat.reduceAdd, Nat.add_zero] at i1 i2 i3 i4 r0
  simp (disch := omega) only [bnd_e, i1, nI_clamp, kk, asr_e, e, cal_e, f1, w1_1, reduceIte, and_true, and_false, Nat.reduceEqDiff, i2, i3, i4, hst, nlit, nI_sub, Nat.add_sub_cancel]
  refine ⟨_, rfl, by simp [w1_1], fun i hi => ?_, ?_, fun k hk h => ?_⟩
  · rcases (show i = 0 ∨ i = 1 ∨ i = 2 ∨ i = 3 by omega) with rfl | rfl | rfl | rfl
    · simp [w1_1]
    · first | (simp [w1_1, hb, Nat.add_assoc]; done) | (simp [w1_1, hb, Nat.add_assoc]; exact congrArg nI (by omega))
    · first | (simp [w1_1, hb, Nat.add_assoc]; done) | (simp [w1_1, hb, Nat.add_assoc]; exact congrArg nI (by omega))
    · first | (simp [w1_1, hb, Nat.add_assoc]; done) | (simp [w1_1, hb, Nat.add_assoc]; exact congrArg nI (by omega))
  · have eA : ∀ k, k < 33 → ∀ a b c d e, vA (w1 (w1 (w1 (w1 (w1 M1 100 1 a) 100 2 b) 100 3 c) 100 4 d) 100 0 e) 1 k = vA M1 1 k := fun k hk a b c d e => by
      unfold vA
      rw [w1_o (by omega), w1_o (by omega), w1_o (by omega), w1_o (by omega), w1_o (by omega)]
    have eB : ∀ a b c d e, vB (w1 (w1 (w1 (w1 (w1 M1 100 1 a) 100 2 b) 100 3 c) 100 4 d) 100 0 e) 1 = vB M1 1 := fun _ _ _ _ _ => rfl
    rw [eB]
    unfold AG at *
    simp (disch := omega) only [eA] at g ⊢
    obtain ⟨g0, g1, g2, g7, g10, gp, gr⟩ := g
    refine ⟨g0, g1, g2, g7, g10, fun p hp => ?_, gr⟩
    have := gp p hp
    rw [eA _ (by omega), eA _ (by omega)]
    exact this
  · rw [w1_o hk, w1_o hk, w1_o hk, w1_o hk, w1_o hk]
    exact f k h

