/-! PURE: how a State of the class (cells A, B from its place) stands to a row s, φ of the reference -/
def oN (x y : Int32) (n : Nat) : Prop := (x = nm 1 ∧ y = nm 5) ∨ ∃ k, k < n ∧ x = nI k ∧ y = nI k
def gm (x : UInt32) : Prop := 126 * 2 ^ 23 ≤ x.toNat ∧ x.toNat ≤ 152 * 2 ^ 23
def lims (j : Nat) : Nat := if j = 0 then 1073741825 else if j = 1 then 1082130433 else 1065353217
def rDim (r c : Nat) (A : Nat → Nat → Int32) (s : Nat → Int32) : Prop := (2 ≤ r ∧ r ≤ 6 ∧ 2 ≤ c ∧ c ≤ 8) ∧ A 1 0 = nI r ∧ A 1 1 = nI c ∧ s 0 = nI r ∧ s 1 = nI c
def rShift (n : Nat) (A : Nat → Nat → Int32) (s : Nat → Int32) : Prop := ∀ p, p < 2 → oN (A 10 p) (s (5 + p)) n
def rHold (n : Nat) (A : Nat → Nat → Int32) (s : Nat → Int32) : Prop := (∀ k, k < n → oN (A 2 k) (s (20 + k)) 2) ∧ (∀ k, n ≤ k → k < 48 → A 2 k = nm 1) ∧ ∀ p, p < 2 → cnt n (fun k => decide (s (20 + k) = nI p)) ≤ 5
def rBits (r c : Nat) (A : Nat → Nat → Int32) (s : Nat → Int32) : Prop :=
  (∀ i, i < 6 → ∀ d, (i < r ∧ d < c) → bt (A 7 i) d = !decide (s (20 + (i * c + d)) < nI 0) ∧ bt (A 8 i) d = !decide (s (68 + (i * c + d)) < nI 0) ∧ bt (A 9 i) d = decide (s (116 + (i * c + d)) = nI 1)) ∧
  (∀ i, i < 6 → ∀ d, ¬ (i < r ∧ d < c) → bt (A 7 i) d = false ∧ bt (A 8 i) d = false ∧ bt (A 9 i) d = false)
def rKey (n t : Nat) (A : Nat → Nat → Int32) (s : Nat → Int32) : Prop := ∀ k, k < n →
  (s (68 + k) = nm 5 ∧ s (116 + k) = nI 0) ∨
  ((∃ u, u ≤ t ∧ s (68 + k) = nI u ∧ A 4 k = nI u) ∧ (s (116 + k) = nI 0 ∨ s (116 + k) = nI 1) ∧ (∃ q, q < 4 ∧ s (164 + k) = nI q ∧ A 5 k = nI q) ∧ oN (A 6 k) (s (212 + k)) 2)
def rSign (n : Nat) (A : Nat → Nat → Int32) (s : Nat → Int32) : Prop := ∀ k, k < n → A 3 k = s (260 + k)
def rTyp (p N : Nat) (A : Nat → Nat → Int32) (B : Nat → Nat → UInt32) (s : Nat → Int32) (φ : Nat → UInt32) : Prop :=
  (B (11 + 2 * p) 0 = φ p ∧ B (11 + 2 * p) 1 = φ (2 + p) ∧ gm (φ p) ∧ gm (φ (2 + p))) ∧ oN (A (11 + 2 * p) 2) (s (3 + p)) (N + 1) ∧
  (∃ b, b < 2 ∧ A (11 + 2 * p) 3 = nI b ∧ s (7 + p) = nI b) ∧ A (11 + 2 * p) 4 = s (10 + p) ∧ A (11 + 2 * p) 5 = s (12 + p) ∧
  (∃ m, m ≤ N ∧ A (11 + 2 * p) 6 = nI m ∧ s (17 + p) = nI m) ∧ ∀ j, j < 24 → A (12 + 2 * p) j = s (544 + 24 * p + j)
def rEnd (e N : Nat) (A : Nat → Nat → Int32) (s : Nat → Int32) : Prop := e ≤ N ∧ A 15 0 = nI e ∧ s 9 = nI e ∧ ∀ i, i < e → e ≤ i + 16 →
  A 16 (i % 20) = s (308 + 6 * (i % 16)) ∧ A 17 (i % 20) = s (308 + 6 * (i % 16) + 1) ∧ A 18 (i % 20) = s (308 + 6 * (i % 16) + 2) ∧ A 19 (i % 20) = s (308 + 6 * (i % 16) + 3) ∧ oN (A 20 (i % 20)) (s (308 + 6 * (i % 16) + 4)) 2 ∧ A 21 (i % 20) = s (308 + 6 * (i % 16) + 5)
def rDis (dt e N : Nat) (A : Nat → Nat → Int32) (s : Nat → Int32) : Prop := dt ≤ 20 ∧ A 23 0 = nI dt ∧ s 16 = nI dt ∧
  (∀ d, d < dt → (∃ k, k < 48 ∧ A 24 d = nI k ∧ s (404 + 7 * d) = nI k) ∧ (∃ u, u ≤ N ∧ A 25 d = nI u ∧ s (404 + 7 * d + 1) = nI u) ∧ (∃ u, u ≤ N ∧ A 26 d = nI u ∧ s (404 + 7 * d + 2) = nI u) ∧
    ((A 27 d = nI 3 ∧ s (404 + 7 * d + 3) = nm 5) ∨ ∃ w, w < 3 ∧ A 27 d = nI w ∧ s (404 + 7 * d + 3) = nI w) ∧ oN (A 28 d) (s (404 + 7 * d + 4)) 2 ∧ (∃ q, q < 4 ∧ A 29 d = nI q ∧ s (404 + 7 * d + 5) = nI q) ∧ (∃ o, o < e ∧ A 30 d = nI o ∧ s (404 + 7 * d + 6) = nI o)) ∧
  A 0 9 = nI (cnt dt (fun d => decide (s (404 + 7 * d + 3) < nI 0)))
def rSet (A : Nat → Nat → Int32) (B : Nat → Nat → UInt32) (φ : Nat → UInt32) : Prop := ∀ j, j < 3 → (∃ b, b < lims j ∧ A 32 j = nI b ∧ φ (4 + j) = (nI b).toUInt32) ∧ B 31 (1 + j) = φ (4 + j)
def rCnt (t N : Nat) (A : Nat → Nat → Int32) (s : Nat → Int32) : Prop := t ≤ N ∧ A 0 6 = nI t ∧ s 2 = nI t ∧ A 0 7 = s 14 ∧ A 0 8 = s 15
def RSp (r c t e dt N : Nat) (A : Nat → Nat → Int32) (B : Nat → Nat → UInt32) (s : Nat → Int32) (φ : Nat → UInt32) : Prop :=
  rDim r c A s ∧ rShift (r * c) A s ∧ rHold (r * c) A s ∧ rBits r c A s ∧ rKey (r * c) t A s ∧ rSign (r * c) A s ∧ rTyp 0 N A B s φ ∧ rTyp 1 N A B s φ ∧ rEnd e N A s ∧ rDis dt e N A s ∧ rSet A B φ ∧ rCnt t N A s
def RS (N : Nat) (A : Nat → Nat → Int32) (B : Nat → Nat → UInt32) (s : Nat → Int32) (φ : Nat → UInt32) : Prop := ∃ r c t e dt, RSp r c t e dt N A B s φ
/-- two States that hold the same -/
def AG (A : Nat → Nat → Int32) (B : Nat → Nat → UInt32) (A2 : Nat → Nat → Int32) (B2 : Nat → Nat → UInt32) : Prop :=
  (∀ j, 6 ≤ j → j < 10 → A2 0 j = A 0 j) ∧ (∀ j, j < 2 → A2 1 j = A 1 j) ∧ (∀ j, j < 48 → A2 2 j = A 2 j ∧ A2 3 j = A 3 j ∧ A2 4 j = A 4 j ∧ A2 5 j = A 5 j ∧ A2 6 j = A 6 j) ∧ (∀ j, j < 6 → A2 7 j = A 7 j ∧ A2 8 j = A 8 j ∧ A2 9 j = A 9 j) ∧ (∀ j, j < 2 → A2 10 j = A 10 j) ∧
  (∀ p, p < 2 → (∀ j, 2 ≤ j → j < 7 → A2 (11 + 2 * p) j = A (11 + 2 * p) j) ∧ (∀ j, j < 24 → A2 (12 + 2 * p) j = A (12 + 2 * p) j) ∧ (∀ j, j < 2 → B2 (11 + 2 * p) j = B (11 + 2 * p) j)) ∧
  A2 15 0 = A 15 0 ∧ (∀ j, j < 20 → A2 16 j = A 16 j ∧ A2 17 j = A 17 j ∧ A2 18 j = A 18 j ∧ A2 19 j = A 19 j ∧ A2 20 j = A 20 j ∧ A2 21 j = A 21 j ∧ A2 22 j = A 22 j) ∧
  A2 23 0 = A 23 0 ∧ (∀ j, j < 20 → A2 24 j = A 24 j ∧ A2 25 j = A 25 j ∧ A2 26 j = A 26 j ∧ A2 27 j = A 27 j ∧ A2 28 j = A 28 j ∧ A2 29 j = A 29 j ∧ A2 30 j = A 30 j) ∧
  (∀ j, j < 3 → A2 32 j = A 32 j ∧ B2 31 (1 + j) = B 31 (1 + j))
section CONG
variable {A A2 : Nat → Nat → Int32} {B B2 : Nat → Nat → UInt32} {s s2 : Nat → Int32} {φ φ2 : Nat → UInt32} {r c t e dt N p n : Nat}
theorem rDim_c (h : rDim r c A s) (h1 : A2 1 0 = A 1 0) (h2 : A2 1 1 = A 1 1) (h3 : s2 0 = s 0) (h4 : s2 1 = s 1) : rDim r c A2 s2 := by
  unfold rDim at *
  rw [h1, h2, h3, h4]
  exact h
theorem rShift_c (h : rShift n A s) (h1 : ∀ p, p < 2 → A2 10 p = A 10 p) (h2 : ∀ p, p < 2 → s2 (5 + p) = s (5 + p)) : rShift n A2 s2 := by
  intro p hp
  rw [h1 p hp, h2 p hp]
  exact h p hp
theorem rHold_c (h : rHold n A s) (h1 : ∀ k, k < 48 → A2 2 k = A 2 k) (h2 : ∀ k, k < n → s2 (20 + k) = s (20 + k)) (hn : n ≤ 48) : rHold n A2 s2 := by
  refine ⟨fun k hk => ?_, fun k hk hk2 => ?_, fun p hp => ?_⟩
  · rw [h1 k (by omega), h2 k hk]
    exact h.1 k hk
  · rw [h1 k hk2]
    exact h.2.1 k hk hk2
  · rw [cnt_congr (q := fun k => decide (s (20 + k) = nI p)) (fun i hi => by rw [h2 i hi])]
    exact h.2.2 p hp
theorem ixlt {r c i d : Nat} (hi : i < r) (hd : d < c) : i * c + d < r * c := by
  have h1 := Nat.mul_le_mul_right c (show i + 1 ≤ r from hi)
  rw [Nat.succ_mul] at h1
  omega
theorem rBits_c (h : rBits r c A s) (h1 : ∀ i, i < 6 → A2 7 i = A 7 i ∧ A2 8 i = A 8 i ∧ A2 9 i = A 9 i) (h2 : ∀ k, k < r * c → s2 (20 + k) = s (20 + k) ∧ s2 (68 + k) = s (68 + k) ∧ s2 (116 + k) = s (116 + k)) : rBits r c A2 s2 := by
  refine ⟨fun i hi d hd => ?_, fun i hi d hd => ?_⟩
  · have h3 := h1 i hi
    have h4 := h2 _ (ixlt hd.1 hd.2)
    rw [h3.1, h3.2.1, h3.2.2, h4.1, h4.2.1, h4.2.2]
    exact h.1 i hi d hd
  · have h3 := h1 i hi
    rw [h3.1, h3.2.1, h3.2.2]
    exact h.2 i hi d hd
theorem rKey_c (h : rKey n t A s) (h1 : ∀ k, k < n → A2 4 k = A 4 k ∧ A2 5 k = A 5 k ∧ A2 6 k = A 6 k) (h2 : ∀ k, k < n → s2 (68 + k) = s (68 + k) ∧ s2 (116 + k) = s (116 + k) ∧ s2 (164 + k) = s (164 + k) ∧ s2 (212 + k) = s (212 + k)) : rKey n t A2 s2 := by
  intro k hk
  have h3 := h1 k hk
  have h4 := h2 k hk
  rw [h3.1, h3.2.1, h3.2.2, h4.1, h4.2.1, h4.2.2.1, h4.2.2.2]
  exact h k hk
theorem rSign_c (h : rSign n A s) (h1 : ∀ k, k < n → A2 3 k = A 3 k) (h2 : ∀ k, k < n → s2 (260 + k) = s (260 + k)) : rSign n A2 s2 := by
  intro k hk
  rw [h1 k hk, h2 k hk]
  exact h k hk
theorem rTyp_c (h : rTyp p N A B s φ) (h1 : ∀ j, 2 ≤ j → j < 7 → A2 (11 + 2 * p) j = A (11 + 2 * p) j) (h2 : ∀ j, j < 24 → A2 (12 + 2 * p) j = A (12 + 2 * p) j) (h3 : ∀ j, j < 2 → B2 (11 + 2 * p) j = B (11 + 2 * p) j)
    (g : s2 (3 + p) = s (3 + p) ∧ s2 (7 + p) = s (7 + p) ∧ s2 (10 + p) = s (10 + p) ∧ s2 (12 + p) = s (12 + p) ∧ s2 (17 + p) = s (17 + p)) (g2 : ∀ j, j < 24 → s2 (544 + 24 * p + j) = s (544 + 24 * p + j)) (g3 : φ2 p = φ p ∧ φ2 (2 + p) = φ (2 + p)) : rTyp p N A2 B2 s2 φ2 := by
  unfold rTyp at *
  rw [h1 2 (by omega) (by omega), h1 3 (by omega) (by omega), h1 4 (by omega) (by omega), h1 5 (by omega) (by omega), h1 6 (by omega) (by omega), h3 0 (by omega), h3 1 (by omega), g.1, g.2.1, g.2.2.1, g.2.2.2.1, g.2.2.2.2, g3.1, g3.2]
  refine ⟨h.1, h.2.1, h.2.2.1, h.2.2.2.1, h.2.2.2.2.1, h.2.2.2.2.2.1, fun j hj => ?_⟩
  rw [h2 j hj, g2 j hj]
  exact h.2.2.2.2.2.2 j hj
theorem rEnd_c (h : rEnd e N A s) (h1 : A2 15 0 = A 15 0) (h2 : ∀ j, j < 20 → A2 16 j = A 16 j ∧ A2 17 j = A 17 j ∧ A2 18 j = A 18 j ∧ A2 19 j = A 19 j ∧ A2 20 j = A 20 j ∧ A2 21 j = A 21 j)
    (g1 : s2 9 = s 9) (g2 : ∀ j, 308 ≤ j → j < 404 → s2 j = s j) : rEnd e N A2 s2 := by
  unfold rEnd at *
  rw [h1, g1]
  refine ⟨h.1, h.2.1, h.2.2.1, fun i hi hi2 => ?_⟩
  have h3 := h2 (i % 20) (Nat.mod_lt _ (by decide))
  have h4 := Nat.mod_lt i (show 0 < 16 by decide)
  rw [h3.1, h3.2.1, h3.2.2.1, h3.2.2.2.1, h3.2.2.2.2.1, h3.2.2.2.2.2]
  rw [g2 (308 + 6 * (i % 16)) (by omega) (by omega), g2 (308 + 6 * (i % 16) + 1) (by omega) (by omega), g2 (308 + 6 * (i % 16) + 2) (by omega) (by omega), g2 (308 + 6 * (i % 16) + 3) (by omega) (by omega), g2 (308 + 6 * (i % 16) + 4) (by omega) (by omega), g2 (308 + 6 * (i % 16) + 5) (by omega) (by omega)]
  exact h.2.2.2 i hi hi2
theorem rDis_c (h : rDis dt e N A s) (h1 : A2 23 0 = A 23 0) (h0 : A2 0 9 = A 0 9) (h2 : ∀ j, j < 20 → A2 24 j = A 24 j ∧ A2 25 j = A 25 j ∧ A2 26 j = A 26 j ∧ A2 27 j = A 27 j ∧ A2 28 j = A 28 j ∧ A2 29 j = A 29 j ∧ A2 30 j = A 30 j)
    (g1 : s2 16 = s 16) (g2 : ∀ j, 404 ≤ j → j < 544 → s2 j = s j) : rDis dt e N A2 s2 := by
  unfold rDis at *
  rw [h1, h0, g1]
  refine ⟨h.1, h.2.1, h.2.2.1, fun d hd => ?_, ?_⟩
  · have hd2 := h.1
    have h3 := h2 d (by omega)
    rw [h3.1, h3.2.1, h3.2.2.1, h3.2.2.2.1, h3.2.2.2.2.1, h3.2.2.2.2.2.1, h3.2.2.2.2.2.2]
    rw [g2 (404 + 7 * d) (by omega) (by omega), g2 (404 + 7 * d + 1) (by omega) (by omega), g2 (404 + 7 * d + 2) (by omega) (by omega), g2 (404 + 7 * d + 3) (by omega) (by omega), g2 (404 + 7 * d + 4) (by omega) (by omega), g2 (404 + 7 * d + 5) (by omega) (by omega), g2 (404 + 7 * d + 6) (by omega) (by omega)]
    exact h.2.2.2.1 d hd
  · have hd2 := h.1
    rw [h.2.2.2.2]
    exact congrArg nI (cnt_congr fun i hi => by rw [g2 (404 + 7 * i + 3) (by omega) (by omega)])
theorem rSet_c (h : rSet A B φ) (h1 : ∀ j, j < 3 → A2 32 j = A 32 j ∧ B2 31 (1 + j) = B 31 (1 + j)) (g : ∀ j, j < 3 → φ2 (4 + j) = φ (4 + j)) : rSet A2 B2 φ2 := by
  intro j hj
  rw [(h1 j hj).1, (h1 j hj).2, g j hj]
  exact h j hj
theorem rCnt_c (h : rCnt t N A s) (h1 : A2 0 6 = A 0 6 ∧ A2 0 7 = A 0 7 ∧ A2 0 8 = A 0 8) (g : s2 2 = s 2 ∧ s2 14 = s 14 ∧ s2 15 = s 15) : rCnt t N A2 s2 := by
  unfold rCnt at *
  rw [h1.1, h1.2.1, h1.2.2, g.1, g.2.1, g.2.2]
  exact h
theorem oN_mono {x y : Int32} {n m : Nat} (h : oN x y n) (hm : n ≤ m) : oN x y m := by
  rcases h with h | ⟨k, hk, h⟩
  · exact .inl h
  · exact .inr ⟨k, by omega, h⟩
theorem RS_mono {N2 : Nat} (h : RS N A B s φ) (hN : N ≤ N2) : RS N2 A B s φ := by
  obtain ⟨r, c, t, e, dt, h1, h2, h3, h4, h5, h6, h7, h8, h9, h10, h11, h12⟩ := h
  have ty : ∀ p, rTyp p N A B s φ → rTyp p N2 A B s φ := fun p h => ⟨h.1, oN_mono h.2.1 (by omega), h.2.2.1, h.2.2.2.1, h.2.2.2.2.1, (by obtain ⟨m, hm, q⟩ := h.2.2.2.2.2.1; exact ⟨m, by omega, q⟩), h.2.2.2.2.2.2⟩
  refine ⟨r, c, t, e, dt, h1, h2, h3, h4, h5, h6, ty 0 h7, ty 1 h8, ⟨by have := h9.1; omega, h9.2⟩, ⟨h10.1, h10.2.1, h10.2.2.1, fun d hd => ?_, h10.2.2.2.2⟩, h11, ⟨by have := h12.1; omega, h12.2⟩⟩
  obtain ⟨q1, ⟨u, hu, q2⟩, ⟨v, hv, q3⟩, q4⟩ := h10.2.2.2.1 d hd
  exact ⟨q1, ⟨u, by omega, q2⟩, ⟨v, by omega, q3⟩, q4⟩
theorem RS_c (h : RS N A B s φ) (g : AG A B A2 B2) (hs : ∀ i, i < 592 → s2 i = s i) (hφ : ∀ i, i < 7 → φ2 i = φ i) : RS N A2 B2 s2 φ2 := by
  obtain ⟨r, c, t, e, dt, h1, h2, h3, h4, h5, h6, h7, h8, h9, h10, h11, h12⟩ := h
  obtain ⟨g0, g1, g2, g7, g10, gp, g15, g16, g23, g24, g31⟩ := g
  have hd := h1.1
  have hn : r * c ≤ 48 := Nat.le_trans (Nat.mul_le_mul hd.2.1 hd.2.2.2) (by decide)
  refine ⟨r, c, t, e, dt, rDim_c h1 (g1 0 (by omega)) (g1 1 (by omega)) (hs 0 (by omega)) (hs 1 (by omega)), rShift_c h2 g10 (fun p hp => hs _ (by omega)), rHold_c h3 (fun k hk => (g2 k hk).1) (fun k hk => hs _ (by omega)) hn,
    rBits_c h4 g7 (fun k hk => ⟨hs _ (by omega), hs _ (by omega), hs _ (by omega)⟩), rKey_c h5 (fun k hk => (g2 k (by omega)).2.2) (fun k hk => ⟨hs _ (by omega), hs _ (by omega), hs _ (by omega), hs _ (by omega)⟩),
    rSign_c h6 (fun k hk => (g2 k (by omega)).2.1) (fun k hk => hs _ (by omega)), rTyp_c h7 (gp 0 (by omega)).1 (gp 0 (by omega)).2.1 (gp 0 (by omega)).2.2 ⟨hs _ (by omega), hs _ (by omega), hs _ (by omega), hs _ (by omega), hs _ (by omega)⟩ (fun j hj => hs _ (by omega)) ⟨hφ _ (by omega), hφ _ (by omega)⟩,
    rTyp_c h8 (gp 1 (by omega)).1 (gp 1 (by omega)).2.1 (gp 1 (by omega)).2.2 ⟨hs _ (by omega), hs _ (by omega), hs _ (by omega), hs _ (by omega), hs _ (by omega)⟩ (fun j hj => hs _ (by omega)) ⟨hφ _ (by omega), hφ _ (by omega)⟩,
    rEnd_c h9 g15 (fun j hj => by obtain ⟨a, b, c, d, e, f, _⟩ := g16 j hj; exact ⟨a, b, c, d, e, f⟩) (hs _ (by omega)) (fun j _ hj => hs _ (by omega)), rDis_c h10 g23 (g0 9 (by omega) (by omega)) g24 (hs _ (by omega)) (fun j _ hj => hs _ (by omega)),
    rSet_c h11 g31 (fun j hj => hφ _ (by omega)), rCnt_c h12 ⟨g0 6 (by omega) (by omega), g0 7 (by omega) (by omega), g0 8 (by omega) (by omega)⟩ ⟨hs _ (by omega), hs _ (by omega), hs _ (by omega)⟩⟩
end CONG

