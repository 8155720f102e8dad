def bLs : List Nat := [1, 34, 67, 101, 134, 167, 200]
theorem bL_ln : ∀ a ∈ bLs, ∀ i, i < 33 → ln (a + i) = lnS.getD i 0 := by decide +kernel
theorem bL_ne : ∀ a ∈ bLs, ∀ b ∈ bLs, a ≠ b → a + 33 ≤ b ∨ b + 33 ≤ a := by decide +kernel
def vA (M : Mem) (a : Nat) : Nat → Nat → Int32 := fun k => M.1 (a + k)
def vB (M : Mem) (a : Nat) : Nat → Nat → UInt32 := fun k => M.2 (a + k)
theorem e_copySt {a b : Nat} (M : Mem) (ha : a ∈ bLs) (hb : b ∈ bLs) (hne : a ≠ b) (hz : bzb (M.1 (b + 11) 3) = true ∧ bzb (M.1 (b + 13) 3) = true) :
    ∃ M1, fX5_copyFrom a b M = some ((), M1) ∧ AG (vA M b) (vB M b) (vA M1 a) (vB M1 a) ∧ ∀ k, (k < a ∨ a + 33 ≤ k) → M1.1 k = M.1 k ∧ M1.2 k = M.2 k := by
  have hd := bL_ne a ha b hb hne
  have la := bL_ln a ha
  have lb := bL_ln b hb
  have la' : ∀ x i, x + i < 33 → ln (a + x + i) = lnS.getD (x + i) 0 := fun x i h => by rw [Nat.add_assoc]; exact la _ h
  have lb' : ∀ x i, x + i < 33 → ln (b + x + i) = lnS.getD (x + i) 0 := fun x i h => by rw [Nat.add_assoc]; exact lb _ h
  obtain ⟨M1, e1, p1, q1, f1, g1⟩ := e_copyB (x := a + 1) (y := b + 1) M (by omega) ⟨fun i h1 h2 => by
      rw [la' 1 i (by omega), lb' 1 i (by omega)]
      rcases (show i = 1 ∨ i = 2 ∨ i = 3 ∨ i = 4 ∨ i = 5 by omega) with rfl | rfl | rfl | rfl | rfl <;> exact ⟨rfl, rfl⟩, fun i h1 h2 => by
      rw [la' 1 i (by omega), lb' 1 i (by omega)]
      rcases (show i = 6 ∨ i = 7 ∨ i = 8 by omega) with rfl | rfl | rfl <;> exact ⟨rfl, rfl⟩, la' 1 9 (by omega), lb' 1 9 (by omega)⟩
  obtain ⟨M2, e2, p2, q2, r2, f2⟩ := e_copyT (x := a + 11) (y := b + 11) M1 (by omega) (la' 11 1 (by omega)) (lb' 11 1 (by omega)) (by rw [f1 _ (by omega)]; exact hz.1)
  obtain ⟨M3, e3, p3, q3, r3, f3⟩ := e_copyT (x := a + 13) (y := b + 13) M2 (by omega) (la' 13 1 (by omega)) (lb' 13 1 (by omega)) (by rw [(f2 _ (by omega)).1, f1 _ (by omega)]; exact hz.2)
  obtain ⟨M4, e4, p4, q4, f4, g4⟩ := e_copyS (x := a + 15) (y := b + 15) M3 (by omega) (fun i h1 h2 => by
      rw [la' 15 i (by omega), lb' 15 i (by omega)]
      rcases (show i = 1 ∨ i = 2 ∨ i = 3 ∨ i = 4 ∨ i = 5 ∨ i = 6 ∨ i = 7 by omega) with rfl | rfl | rfl | rfl | rfl | rfl | rfl <;> exact ⟨rfl, rfl⟩)
  obtain ⟨M5, e5, p5, q5, f5, g5⟩ := e_copyS (x := a + 23) (y := b + 23) M4 (by omega) (fun i h1 h2 => by
      rw [la' 23 i (by omega), lb' 23 i (by omega)]
      rcases (show i = 1 ∨ i = 2 ∨ i = 3 ∨ i = 4 ∨ i = 5 ∨ i = 6 ∨ i = 7 by omega) with rfl | rfl | rfl | rfl | rfl | rfl | rfl <;> exact ⟨rfl, rfl⟩)
  obtain ⟨M6, e6, p6, f6⟩ := e_copyG (x := a + 31) (y := b + 31) M5 (by omega) (la' 31 1 (by omega)) (lb' 31 1 (by omega))
  have F6 : ∀ k, (k < a + 31 ∨ a + 33 ≤ k) → M6.1 k = M5.1 k := fun k hk => (f6 k (by omega)).1
  have G6 : ∀ k, (k < a + 31 ∨ a + 33 ≤ k) → M6.2 k = M5.2 k := fun k hk => (f6 k (by omega)).2
  have F3 : ∀ k, (k < a + 13 ∨ a + 15 ≤ k) → M3.1 k = M2.1 k := fun k hk => (f3 k (by omega)).1
  have G3 : ∀ k, (k < a + 13 ∨ a + 15 ≤ k) → M3.2 k = M2.2 k := fun k hk => (f3 k (by omega)).2
  have F2 : ∀ k, (k < a + 11 ∨ a + 13 ≤ k) → M2.1 k = M1.1 k := fun k hk => (f2 k (by omega)).1
  have G2 : ∀ k, (k < a + 11 ∨ a + 13 ≤ k) → M2.2 k = M1.2 k := fun k hk => (f2 k (by omega)).2
  unfold fX5_copyFrom
  rw [e1, cal_e, e2, cal_e, e3, cal_e, e4, cal_e, e5, cal_e, e6, cal_e]
  simp only [bnd_e]
  have hB : ∀ i, 1 ≤ i → i ≤ 9 → ∀ j, j < ln (b + 1 + i) → M6.1 (a + (1 + i)) j = M.1 (b + (1 + i)) j := fun i h1 h2 j hj => by
    rw [F6 _ (by omega), f5 _ (by omega), f4 _ (by omega), F3 _ (by omega), F2 _ (by omega), ← Nat.add_assoc, ← Nat.add_assoc]
    exact q1 i h1 h2 j hj
  have hS : ∀ i, 1 ≤ i → i ≤ 7 → ∀ j, j < 20 → M6.1 (a + (15 + i)) j = M.1 (b + (15 + i)) j := fun i h1 h2 j hj => by
    rw [F6 _ (by omega), f5 _ (by omega), ← Nat.add_assoc, ← Nat.add_assoc, q4 i h1 h2 j hj, F3 _ (by omega), F2 _ (by omega), f1 _ (by omega)]
  have hD : ∀ i, 1 ≤ i → i ≤ 7 → ∀ j, j < 20 → M6.1 (a + (23 + i)) j = M.1 (b + (23 + i)) j := fun i h1 h2 j hj => by
    rw [F6 _ (by omega), ← Nat.add_assoc, ← Nat.add_assoc, q5 i h1 h2 j hj, f4 _ (by omega), F3 _ (by omega), F2 _ (by omega), f1 _ (by omega)]
  have hT : ∀ p, p < 2 → (∀ j, 2 ≤ j → j < 7 → M6.1 (a + (11 + 2 * p)) j = M.1 (b + (11 + 2 * p)) j) ∧ (∀ j, j < 24 → M6.1 (a + (12 + 2 * p)) j = M.1 (b + (12 + 2 * p)) j) ∧ (∀ j, j < 2 → M6.2 (a + (11 + 2 * p)) j = M.2 (b + (11 + 2 * p)) j) := fun p hp => by
    rcases (show p = 0 ∨ p = 1 by omega) with rfl | rfl
    · refine ⟨fun j h1 h2 => ?_, fun j hj => ?_, fun j hj => ?_⟩
      · rw [F6 _ (by omega), f5 _ (by omega), f4 _ (by omega), F3 _ (by omega)]
        refine (p2 j h1 h2).trans ?_
        rw [f1 _ (by omega)]
      · rw [F6 _ (by omega), f5 _ (by omega), f4 _ (by omega), F3 _ (by omega)]
        refine (q2 j hj).trans ?_
        rw [f1 _ (by omega)]
      · rw [G6 _ (by omega), g5, g4, G3 _ (by omega)]
        refine (r2 j hj).trans ?_
        rw [g1]
    · refine ⟨fun j h1 h2 => ?_, fun j hj => ?_, fun j hj => ?_⟩
      · rw [F6 _ (by omega), f5 _ (by omega), f4 _ (by omega)]
        refine (p3 j h1 h2).trans ?_
        rw [F2 _ (by omega), f1 _ (by omega)]
      · rw [F6 _ (by omega), f5 _ (by omega), f4 _ (by omega)]
        refine (q3 j hj).trans ?_
        rw [F2 _ (by omega), f1 _ (by omega)]
      · rw [G6 _ (by omega), g5, g4]
        refine (r3 j hj).trans ?_
        rw [G2 _ (by omega), g1]
  suffices key : ∀ M7 : Mem, (∀ j, 6 ≤ j → j < 10 → M7.1 a j = M.1 b j) → (∀ k, k ≠ a → M7.1 k = M6.1 k) → M7.2 = M6.2 → AG (vA M b) (vB M b) (vA M7 a) (vB M7 a) ∧ ∀ k, (k < a ∨ a + 33 ≤ k) → M7.1 k = M.1 k ∧ M7.2 k = M.2 k by
    refine ⟨_, rfl, key _ (fun j h1 h2 => ?_) (fun k hk => ?_) rfl⟩
    · have e : M6.1 b = M.1 b := by rw [F6 _ (by omega), f5 _ (by omega), f4 _ (by omega), F3 _ (by omega), F2 _ (by omega), f1 _ (by omega)]
      rcases (show j = 6 ∨ j = 7 ∨ j = 8 ∨ j = 9 by omega) with rfl | rfl | rfl | rfl <;> simp (disch := omega) [w1_1, w1_o, e]
    · simp only [w1_o hk]
  intro M7 h7 F7 G7
  refine ⟨⟨h7, fun j hj => ?_, fun j hj => ⟨?_, ?_, ?_, ?_, ?_⟩, fun j hj => ⟨?_, ?_, ?_⟩, fun j hj => ?_, fun p hp => ⟨fun j h1 h2 => ?_, fun j hj => ?_, fun j hj => ?_⟩, ?_, fun j hj => ⟨?_, ?_, ?_, ?_, ?_, ?_, ?_⟩, ?_, fun j hj => ⟨?_, ?_, ?_, ?_, ?_, ?_, ?_⟩, fun j hj => ⟨?_, ?_⟩⟩, fun k hk => ⟨?_, ?_⟩⟩
  · show M7.1 (a + 1) j = M.1 (b + 1) j
    rw [F7 _ (by omega), F6 _ (by omega), f5 _ (by omega), f4 _ (by omega), F3 _ (by omega), F2 _ (by omega)]
    exact p1 j hj
  · exact (congrFun (F7 (a + (1 + 1)) (by omega)) j).trans (hB 1 (by omega) (by omega) j (by rw [lb' 1 1 (by omega)]; exact hj))
  · exact (congrFun (F7 (a + (1 + 2)) (by omega)) j).trans (hB 2 (by omega) (by omega) j (by rw [lb' 1 2 (by omega)]; exact hj))
  · exact (congrFun (F7 (a + (1 + 3)) (by omega)) j).trans (hB 3 (by omega) (by omega) j (by rw [lb' 1 3 (by omega)]; exact hj))
  · exact (congrFun (F7 (a + (1 + 4)) (by omega)) j).trans (hB 4 (by omega) (by omega) j (by rw [lb' 1 4 (by omega)]; exact hj))
  · exact (congrFun (F7 (a + (1 + 5)) (by omega)) j).trans (hB 5 (by omega) (by omega) j (by rw [lb' 1 5 (by omega)]; exact hj))
  · exact (congrFun (F7 (a + (1 + 6)) (by omega)) j).trans (hB 6 (by omega) (by omega) j (by rw [lb' 1 6 (by omega)]; exact hj))
  · exact (congrFun (F7 (a + (1 + 7)) (by omega)) j).trans (hB 7 (by omega) (by omega) j (by rw [lb' 1 7 (by omega)]; exact hj))
  · exact (congrFun (F7 (a + (1 + 8)) (by omega)) j).trans (hB 8 (by omega) (by omega) j (by rw [lb' 1 8 (by omega)]; exact hj))
  · exact (congrFun (F7 (a + (1 + 9)) (by omega)) j).trans (hB 9 (by omega) (by omega) j (by rw [lb' 1 9 (by omega)]; exact hj))
  · exact (congrFun (F7 (a + (11 + 2 * p)) (by omega)) j).trans ((hT p hp).1 j h1 h2)
  · exact (congrFun (F7 (a + (12 + 2 * p)) (by omega)) j).trans ((hT p hp).2.1 j hj)
  · exact (congrFun (congrFun G7 (a + (11 + 2 * p))) j).trans ((hT p hp).2.2 j hj)
  · show M7.1 (a + 15) 0 = M.1 (b + 15) 0
    rw [F7 _ (by omega), F6 _ (by omega), f5 _ (by omega), p4, F3 _ (by omega), F2 _ (by omega), f1 _ (by omega)]
  · exact (congrFun (F7 (a + (15 + 1)) (by omega)) j).trans (hS 1 (by omega) (by omega) j hj)
  · exact (congrFun (F7 (a + (15 + 2)) (by omega)) j).trans (hS 2 (by omega) (by omega) j hj)
  · exact (congrFun (F7 (a + (15 + 3)) (by omega)) j).trans (hS 3 (by omega) (by omega) j hj)
  · exact (congrFun (F7 (a + (15 + 4)) (by omega)) j).trans (hS 4 (by omega) (by omega) j hj)
  · exact (congrFun (F7 (a + (15 + 5)) (by omega)) j).trans (hS 5 (by omega) (by omega) j hj)
  · exact (congrFun (F7 (a + (15 + 6)) (by omega)) j).trans (hS 6 (by omega) (by omega) j hj)
  · exact (congrFun (F7 (a + (15 + 7)) (by omega)) j).trans (hS 7 (by omega) (by omega) j hj)
  · show M7.1 (a + 23) 0 = M.1 (b + 23) 0
    rw [F7 _ (by omega), F6 _ (by omega), p5, f4 _ (by omega), F3 _ (by omega), F2 _ (by omega), f1 _ (by omega)]
  · exact (congrFun (F7 (a + (23 + 1)) (by omega)) j).trans (hD 1 (by omega) (by omega) j hj)
  · exact (congrFun (F7 (a + (23 + 2)) (by omega)) j).trans (hD 2 (by omega) (by omega) j hj)
  · exact (congrFun (F7 (a + (23 + 3)) (by omega)) j).trans (hD 3 (by omega) (by omega) j hj)
  · exact (congrFun (F7 (a + (23 + 4)) (by omega)) j).trans (hD 4 (by omega) (by omega) j hj)
  · exact (congrFun (F7 (a + (23 + 5)) (by omega)) j).trans (hD 5 (by omega) (by omega) j hj)
  · exact (congrFun (F7 (a + (23 + 6)) (by omega)) j).trans (hD 6 (by omega) (by omega) j hj)
  · exact (congrFun (F7 (a + (23 + 7)) (by omega)) j).trans (hD 7 (by omega) (by omega) j hj)
  · show M7.1 (a + 32) j = M.1 (b + 32) j
    rw [F7 _ (by omega)]
    refine (p6 j hj).1.trans ?_
    rw [f5 _ (by omega), f4 _ (by omega), F3 _ (by omega), F2 _ (by omega), f1 _ (by omega)]
  · show M7.2 (a + 31) (1 + j) = M.2 (b + 31) (1 + j)
    rw [G7]
    refine (p6 j hj).2.trans ?_
    rw [g5, g4, G3 _ (by omega), G2 _ (by omega), g1]
  · rw [F7 _ (by omega), F6 _ (by omega), f5 _ (by omega), f4 _ (by omega), F3 _ (by omega), F2 _ (by omega), f1 _ (by omega)]
  · rw [G7, G6 _ (by omega), g5, g4, G3 _ (by omega), G2 _ (by omega), g1]

