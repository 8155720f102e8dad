/-! PURE: a tick in the reference -/
theorem b2_i {b : Bool} : (if b = false then nI 0 else nI 1) = b2 b := by cases b <;> rfl
theorem onv_congr {s s2 : Nat → Int32} {p : Nat} {x : Int32} (hp : p < 2) (h : ∀ x, x < 164 → s2 x = s x) (hs : oN x (s (5 + p)) 48) : onv s2 p = onv s p := by
  unfold onv
  rw [h (5 + p) (by omega)]
  rcases hs with ⟨_, g⟩ | ⟨k, hk, _, g⟩
  · rw [g, decide_eq_true (nm_lt0 (by decide) (by decide))]
    rfl
  · rw [g, nI_clamp (by omega), h (68 + k) (by omega), h (116 + k) (by omega)]
section STEPS
variable {r c t e dt N i : Nat} {M Mr : Mem} {s : Nat → Int32} {φ : Nat → UInt32} {f S : Int32}
end STEPS

