/-! PURE: the reference's drive -/
def FD (M M2 : Mem) : Prop := (∀ k, k ≠ 235 → M2.1 k = M.1 k) ∧ (∀ j, j ≠ 13 → j ≠ 14 → M2.1 235 j = M.1 235 j) ∧ M2.2 = M.2
theorem FD_refl (M : Mem) : FD M M := ⟨fun _ _ => rfl, fun _ _ _ => rfl, rfl⟩
theorem FD_trans {M M1 M2 : Mem} (h : FD M M1) (g : FD M1 M2) : FD M M2 := ⟨fun k hk => by rw [g.1 k hk, h.1 k hk], fun j h1 h2 => by rw [g.2.1 j h1 h2, h.2.1 j h1 h2], by rw [g.2.2, h.2.2]⟩
theorem FD_w {M M1 : Mem} {x : Int32} {j : Nat} (h : FD M M1) (hj : j = 13 ∨ j = 14) : FD M (w1 M1 235 j x) := ⟨fun k hk => by rw [w1_o hk, h.1 k hk], fun i h1 h2 => by rw [w1_1, if_neg (by omega)]; exact h.2.1 i h1 h2, h.2.2⟩
def Dm (s : Nat → Int32) (r c : Nat) (i d : Nat) : Bool := decide (i < r) && (decide (d < c) && !decide (s (20 + (i * c + d)) < nI 0))
def sbR (s : Nat → Int32) (r c f : Nat) (x : Int32) : Prop := ∀ i, bt x i = true → i < r ∧ SensR (Dm s r c) f i
def sbC (s : Nat → Int32) (r c f : Nat) (x : Int32) : Prop := ∀ d, bt x d = true → d < c ∧ SensC (Dm s r c) f d
def clD (s : Nat → Int32) (r c : Nat) (x y : Int32) (n : Nat) : Prop := ∀ k, k < n → (!decide (s (20 + k) < nI 0)) = true → (bt x (k / c) = true ∨ bt y (k % c) = true) → bt x (k / c) = true ∧ bt y (k % c) = true
theorem or_0 (x : Int32) : x ||| nI 0 = x := sbs_or3 (fun d h => by rw [bt_0] at h; cases h)
theorem ixdiv {c i d : Nat} (hd : d < c) : (i * c + d) / c = i := by rw [Nat.mul_comm, Nat.mul_add_div (by omega), Nat.div_eq_of_lt hd, Nat.add_zero]
theorem ixmod {c i d : Nat} (hd : d < c) : (i * c + d) % c = d := by rw [Nat.mul_comm, Nat.mul_add_mod, Nat.mod_eq_of_lt hd]
theorem Dm_k {s : Nat → Int32} {r c k : Nat} (hk : k < r * c) (hc : 0 < c) (h : (!decide (s (20 + k) < nI 0)) = true) : Dm s r c (k / c) (k % c) = true := by
  unfold Dm
  rw [divmod, h, decide_eq_true (divr hk), decide_eq_true (Nat.mod_lt k hc)]
  rfl
theorem Dm_d {s : Nat → Int32} {r c i d : Nat} (h : Dm s r c i d = true) : i < r ∧ d < c ∧ (!decide (s (20 + (i * c + d)) < nI 0)) = true := by
  unfold Dm at h
  simp only [Bool.and_eq_true, decide_eq_true_eq] at h
  exact h
