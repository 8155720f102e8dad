/-! PURE: what is known now, cell by cell -/
def NF (r c t e dt N : Nat) (M : Mem) : Prop := RSp r c t e dt N (vA M 1) (vB M 1) (M.1 236) (M.2 240)
theorem mul48 {r c : Nat} (hd : 2 ≤ r ∧ r ≤ 6 ∧ 2 ≤ c ∧ c ≤ 8) : r * c ≤ 48 ∧ 0 < r * c := ⟨Nat.le_trans (Nat.mul_le_mul hd.2.1 hd.2.2.2) (by decide), Nat.mul_pos (by omega) (by omega)⟩
theorem divr {r c k : Nat} (hk : k < r * c) : k / c < r := Nat.div_lt_of_lt_mul (by rw [Nat.mul_comm]; exact hk)
theorem divmod (k c : Nat) : k / c * c + k % c = k := Nat.div_add_mod' k c
theorem bits_at {r c k : Nat} {A : Nat → Nat → Int32} {s : Nat → Int32} (hd : 2 ≤ r ∧ r ≤ 6 ∧ 2 ≤ c ∧ c ≤ 8) (h : rBits r c A s) (hk : k < r * c) : bt (A 7 (k / c)) (k % c) = !decide (s (20 + k) < nI 0) ∧ bt (A 8 (k / c)) (k % c) = !decide (s (68 + k) < nI 0) ∧ bt (A 9 (k / c)) (k % c) = decide (s (116 + k) = nI 1) := by
  have h1 := divr hk
  have h2 : k % c < c := Nat.mod_lt _ (by omega)
  have h3 := h.1 (k / c) (by omega) (k % c) ⟨h1, h2⟩
  rw [divmod] at h3
  exact h3
theorem nm_lt0 {n : Nat} (h : 0 < n) (h2 : n < 2 ^ 31) : nm n < nI 0 := by
  rw [nm_lt_nI (by decide) h h2]
  trivial
theorem nI_nlt0 {n : Nat} (h : n < 2 ^ 31) : ¬ nI n < nI 0 := by
  rw [nI_ltI h (by decide)]
  omega
def tyF (p a b N : Nat) (M : Mem) : Prop := (M.2 a 0 = M.2 240 p ∧ M.2 a 1 = M.2 240 (2 + p) ∧ gm (M.2 240 p) ∧ gm (M.2 240 (2 + p))) ∧ oN (M.1 a 2) (M.1 236 (3 + p)) (N + 1) ∧
  (∃ b, b < 2 ∧ M.1 a 3 = nI b ∧ M.1 236 (7 + p) = nI b) ∧ M.1 a 4 = M.1 236 (10 + p) ∧ M.1 a 5 = M.1 236 (12 + p) ∧
  (∃ m, m ≤ N ∧ M.1 a 6 = nI m ∧ M.1 236 (17 + p) = nI m) ∧ ∀ j, j < 24 → M.1 b j = M.1 236 (544 + 24 * p + j)
section NFS
variable {r c t e dt N : Nat} {M : Mem}
theorem NF.hd (h : NF r c t e dt N M) : 2 ≤ r ∧ r ≤ 6 ∧ 2 ≤ c ∧ c ≤ 8 := h.1.1
theorem NF.hr (h : NF r c t e dt N M) : M.1 2 0 = nI r := h.1.2.1
theorem NF.hc (h : NF r c t e dt N M) : M.1 2 1 = nI c := h.1.2.2.1
theorem NF.sr (h : NF r c t e dt N M) : M.1 236 0 = nI r := h.1.2.2.2.1
theorem NF.sc (h : NF r c t e dt N M) : M.1 236 1 = nI c := h.1.2.2.2.2
theorem NF.m48 (h : NF r c t e dt N M) : r * c ≤ 48 := (mul48 h.hd).1
theorem NF.m0 (h : NF r c t e dt N M) : 0 < r * c := (mul48 h.hd).2
theorem NF.m31 (h : NF r c t e dt N M) : r * c < 2 ^ 31 := by have := h.m48; omega
theorem NF.shift (h : NF r c t e dt N M) {p : Nat} (hp : p < 2) : oN (M.1 11 p) (M.1 236 (5 + p)) (r * c) := h.2.1 p hp
theorem NF.hold (h : NF r c t e dt N M) {k : Nat} (hk : k < r * c) : oN (M.1 3 k) (M.1 236 (20 + k)) 2 := h.2.2.1.1 k hk
theorem NF.hold48 (h : NF r c t e dt N M) {k : Nat} (hk : r * c ≤ k) (hk2 : k < 48) : M.1 3 k = nm 1 := h.2.2.1.2.1 k hk hk2
theorem NF.held5 (h : NF r c t e dt N M) {p : Nat} (hp : p < 2) : cnt (r * c) (fun k => decide (M.1 236 (20 + k) = nI p)) ≤ 5 := h.2.2.1.2.2 p hp
theorem NF.bits (h : NF r c t e dt N M) {k : Nat} (hk : k < r * c) : bt (M.1 8 (k / c)) (k % c) = !decide (M.1 236 (20 + k) < nI 0) ∧ bt (M.1 9 (k / c)) (k % c) = !decide (M.1 236 (68 + k) < nI 0) ∧ bt (M.1 10 (k / c)) (k % c) = decide (M.1 236 (116 + k) = nI 1) := bits_at h.hd h.2.2.2.1 hk
theorem NF.bitid (h : NF r c t e dt N M) {i d : Nat} (hi : i < r) (hd : d < c) : bt (M.1 8 i) d = !decide (M.1 236 (20 + (i * c + d)) < nI 0) ∧ bt (M.1 9 i) d = !decide (M.1 236 (68 + (i * c + d)) < nI 0) ∧ bt (M.1 10 i) d = decide (M.1 236 (116 + (i * c + d)) = nI 1) := h.2.2.2.1.1 i (by have := h.hd; omega) d ⟨hi, hd⟩
theorem NF.bit0 (h : NF r c t e dt N M) {i d : Nat} (hi : i < 6) (hd : ¬ (i < r ∧ d < c)) : bt (M.1 8 i) d = false ∧ bt (M.1 9 i) d = false ∧ bt (M.1 10 i) d = false := h.2.2.2.1.2 i hi d hd
theorem NF.key (h : NF r c t e dt N M) {k : Nat} (hk : k < r * c) : (M.1 236 (68 + k) = nm 5 ∧ M.1 236 (116 + k) = nI 0) ∨
  ((∃ u, u ≤ t ∧ M.1 236 (68 + k) = nI u ∧ M.1 5 k = nI u) ∧ (M.1 236 (116 + k) = nI 0 ∨ M.1 236 (116 + k) = nI 1) ∧ (∃ q, q < 4 ∧ M.1 236 (164 + k) = nI q ∧ M.1 6 k = nI q) ∧ oN (M.1 7 k) (M.1 236 (212 + k)) 2) := h.2.2.2.2.1 k hk
theorem NF.sign (h : NF r c t e dt N M) {k : Nat} (hk : k < r * c) : M.1 4 k = M.1 236 (260 + k) := h.2.2.2.2.2.1 k hk
theorem NF.ty0 (h : NF r c t e dt N M) : tyF 0 12 13 N M := h.2.2.2.2.2.2.1
theorem NF.ty1 (h : NF r c t e dt N M) : tyF 1 14 15 N M := h.2.2.2.2.2.2.2.1
theorem NF.eN (h : NF r c t e dt N M) : e ≤ N := h.2.2.2.2.2.2.2.2.1.1
theorem NF.e1 (h : NF r c t e dt N M) : M.1 16 0 = nI e := h.2.2.2.2.2.2.2.2.1.2.1
theorem NF.e2 (h : NF r c t e dt N M) : M.1 236 9 = nI e := h.2.2.2.2.2.2.2.2.1.2.2.1
theorem NF.en (h : NF r c t e dt N M) {i : Nat} (hi : i < e) (hi2 : e ≤ i + 16) : M.1 17 (i % 20) = M.1 236 (308 + 6 * (i % 16)) ∧ M.1 18 (i % 20) = M.1 236 (308 + 6 * (i % 16) + 1) ∧ M.1 19 (i % 20) = M.1 236 (308 + 6 * (i % 16) + 2) ∧ M.1 20 (i % 20) = M.1 236 (308 + 6 * (i % 16) + 3) ∧ oN (M.1 21 (i % 20)) (M.1 236 (308 + 6 * (i % 16) + 4)) 2 ∧ M.1 22 (i % 20) = M.1 236 (308 + 6 * (i % 16) + 5) := h.2.2.2.2.2.2.2.2.1.2.2.2 i hi hi2
theorem NF.d20 (h : NF r c t e dt N M) : dt ≤ 20 := h.2.2.2.2.2.2.2.2.2.1.1
theorem NF.d1 (h : NF r c t e dt N M) : M.1 24 0 = nI dt := h.2.2.2.2.2.2.2.2.2.1.2.1
theorem NF.d2 (h : NF r c t e dt N M) : M.1 236 16 = nI dt := h.2.2.2.2.2.2.2.2.2.1.2.2.1
theorem NF.dis (h : NF r c t e dt N M) {d : Nat} (hd : d < dt) : (∃ k, k < 48 ∧ M.1 25 d = nI k ∧ M.1 236 (404 + 7 * d) = nI k) ∧ (∃ u, u ≤ N ∧ M.1 26 d = nI u ∧ M.1 236 (404 + 7 * d + 1) = nI u) ∧ (∃ u, u ≤ N ∧ M.1 27 d = nI u ∧ M.1 236 (404 + 7 * d + 2) = nI u) ∧
    ((M.1 28 d = nI 3 ∧ M.1 236 (404 + 7 * d + 3) = nm 5) ∨ ∃ w, w < 3 ∧ M.1 28 d = nI w ∧ M.1 236 (404 + 7 * d + 3) = nI w) ∧ oN (M.1 29 d) (M.1 236 (404 + 7 * d + 4)) 2 ∧ (∃ q, q < 4 ∧ M.1 30 d = nI q ∧ M.1 236 (404 + 7 * d + 5) = nI q) ∧ (∃ o, o < e ∧ M.1 31 d = nI o ∧ M.1 236 (404 + 7 * d + 6) = nI o) := h.2.2.2.2.2.2.2.2.2.1.2.2.2.1 d hd
theorem NF.opn (h : NF r c t e dt N M) : M.1 1 9 = nI (cnt dt (fun d => decide (M.1 236 (404 + 7 * d + 3) < nI 0))) := h.2.2.2.2.2.2.2.2.2.1.2.2.2.2
theorem NF.set0 (h : NF r c t e dt N M) : (∃ b, b < 1073741825 ∧ M.1 33 0 = nI b ∧ M.2 240 4 = (nI b).toUInt32) ∧ M.2 32 1 = M.2 240 4 := h.2.2.2.2.2.2.2.2.2.2.1 0 (by omega)
theorem NF.set1 (h : NF r c t e dt N M) : (∃ b, b < 1082130433 ∧ M.1 33 1 = nI b ∧ M.2 240 5 = (nI b).toUInt32) ∧ M.2 32 2 = M.2 240 5 := h.2.2.2.2.2.2.2.2.2.2.1 1 (by omega)
theorem NF.set2 (h : NF r c t e dt N M) : (∃ b, b < 1065353217 ∧ M.1 33 2 = nI b ∧ M.2 240 6 = (nI b).toUInt32) ∧ M.2 32 3 = M.2 240 6 := h.2.2.2.2.2.2.2.2.2.2.1 2 (by omega)
theorem NF.tN (h : NF r c t e dt N M) : t ≤ N := h.2.2.2.2.2.2.2.2.2.2.2.1
theorem NF.t1 (h : NF r c t e dt N M) : M.1 1 6 = nI t := h.2.2.2.2.2.2.2.2.2.2.2.2.1
theorem NF.t2 (h : NF r c t e dt N M) : M.1 236 2 = nI t := h.2.2.2.2.2.2.2.2.2.2.2.2.2.1
theorem NF.gh (h : NF r c t e dt N M) : M.1 1 7 = M.1 236 14 := h.2.2.2.2.2.2.2.2.2.2.2.2.2.2.1
theorem NF.gb (h : NF r c t e dt N M) : M.1 1 8 = M.1 236 15 := h.2.2.2.2.2.2.2.2.2.2.2.2.2.2.2
end NFS
theorem IV.nf {N : Nat} {M : Mem} (h : IV N M) : ∃ r c t e dt, NF r c t e dt N M := h.1

