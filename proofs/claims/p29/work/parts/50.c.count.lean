/-! PURE: count, ghostsBy -/
section FACE2
variable {r c t e dt N : Nat} {M : Mem} {s : Nat → Int32} {φ : Nat → UInt32}
theorem a_count (H : CV r c t e dt N M s φ) (hN : N < 2 ^ 30) : fX8_count 0 (nI 0) M = some (nI t, M) ∧ fX8_count 0 (nI 1) M = some (nI r, M) ∧ fX8_count 0 (nI 2) M = some (nI c, M) ∧
    fX8_count 0 (nI 3) M = some (nI (cnt (r * c) (fun k => !decide (s (20 + k) < nI 0))), M) ∧ fX8_count 0 (nI 4) M = some (nI (cnt (r * c) (fun k => !decide (s (68 + k) < nI 0))), M) ∧ fX8_count 0 (nI 5) M = some (nI (cnt (r * c) (fun k => decide (s (116 + k) = nI 1))), M) ∧
    fX8_count 0 (nI 6) M = some (nI e, M) ∧ fX8_count 0 (nI 7) M = some (s 10 + s 11, M) ∧ fX8_count 0 (nI 8) M = some (s 14, M) ∧ fX8_count 0 (nI 9) M = some (nI (cnt dt (fun d => decide (s (404 + 7 * d + 3) < nI 0))), M) ∧
    fX8_count 0 (nI 10) M = some (nI dt, M) ∧ fX8_count 0 (nI 11) M = some (s 12 + s 13, M) ∧ fX8_count 0 (nI 12) M = some (s 15, M) ∧ fX8_count 0 (nI 13) M = some (nI (t % r), M) := by
  obtain ⟨_, _, _, v4, v5, _⟩ := H.ty0
  obtain ⟨_, _, _, w4, w5, _⟩ := H.ty1
  obtain ⟨c1, c2, c3⟩ := H.counts
  refine ⟨?_, ?_, ?_, ?_, ?_, ?_, ?_, ?_, ?_, ?_, ?_, ?_, ?_, ?_⟩ <;> unfold fX8_count <;>
    simp (disch := omega) only [Nat.reduceAdd, nlit, f16, Nat.reduceEqDiff, if_true, if_false, cal_e, H.t1, H.hr, H.hc, c1, c2, c3, H.e1, v4, w4, v5, w5, H.gh, H.gb, H.opn, H.d1, e_drivenC H hN, Nat.add_zero, Nat.zero_add]
theorem a_count14 {x y : Int32} (h1 : M.1 100 0 = x) (h2 : M.1 233 0 = y) : fX8_count 0 (nI 14) M = some (x, M) ∧ fX8_count 0 (nI 15) M = some (y, M) ∧ fX8_count 0 (nI 16) M = some (nm 2, M) := by
  have f17 : ∀ a, a < 17 → ∀ b, b < 17 → (nI a = nI b) = (a = b) := fun a ha b hb => by rw [nI_eq (by omega) (by omega)]
  refine ⟨?_, ?_, ?_⟩ <;> unfold fX8_count <;>
    simp (disch := omega) only [Nat.reduceAdd, nlit, nm_def, f17, Nat.reduceEqDiff, if_true, if_false, h1, h2]
/-- a row with one key the other way -/
def othR (s : Nat → Int32) (k : Nat) : Nat → Int32 := upd s (20 + k) (if s (20 + k) < nI 0 then nI 0 else nm 5)
theorem othR_k (s : Nat → Int32) (k : Nat) : (othR s k (20 + k) < nI 0) ↔ ¬ (s (20 + k) < nI 0) := by
  unfold othR
  rw [upd_self]
  by_cases h : s (20 + k) < nI 0
  · rw [if_pos h]
    exact ⟨fun q => absurd q (by decide), fun q => absurd h q⟩
  · rw [if_neg h]
    exact ⟨fun _ => h, fun _ => nm_lt0 (by decide) (by decide)⟩
theorem othR_o (s : Nat → Int32) {k j : Nat} (h : j ≠ k) : othR s k (20 + j) = s (20 + j) := by
  unfold othR
  rw [upd_o (by omega)]
theorem a_ghostsBy (H : CV r c t e dt N M s φ) {k : Nat} (hk : k < r * c) : fX8_ghostsBy 0 (nI k) M = some (nI (100 + cnt (r * c) (fun j => bt (sw (Dm s r c) (j / c)) (j % c) && (decide (j ≠ k) && decide (s (20 + j) < nI 0)))) - nI (cnt (r * c) (fun j => bt (sw (Dm (othR s k) r c) (j / c)) (j % c) && (decide (j ≠ k) && decide (s (20 + j) < nI 0)))), M) := by
  have hd := H.hd
  have e0 := e_has H.hr H.hc hk H.m31
  have c1 := e_besideC H hk (fl := nm 1) (S := fun i => sw (Dm s r c) i) (fun i hi => H.sens hi) (fun i d hb => sw_c hd.2.2.2 hb)
  have c2 := e_besideC H hk (fl := nI k) (S := fun i => sw (Dm (othR s k) r c) i) (fun i hi => H.sensF hi hk (fun j hj hjk => othR_o s hjk) (othR_k s k)) (fun i d hb => sw_c hd.2.2.2 hb)
  unfold fX8_ghostsBy
  simp only [Nat.reduceAdd, if_true, if_false, e0, cal_e, nlit, nm_def, n10, c1, c2, nI_add]
end FACE2
