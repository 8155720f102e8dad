/-! PURE: a tick on both sides -/
theorem put_put {M : Mem} {s s2 : Nat → Int32} {φ φ2 : Nat → UInt32} : put (put M s φ) s2 φ2 = put M s2 φ2 := by
  refine Prod.ext (funext fun b => ?_) (funext fun b => ?_)
  · by_cases h : b = 236
    · subst h
      rw [put_s, put_s]
    · rw [put_1 h, put_1 h, put_1 h]
  · by_cases h : b = 240
    · subst h
      rw [put_f, put_f]
    · rw [put_2 h, put_2 h, put_2 h]
theorem FD_put {Mr M2 : Mem} {s : Nat → Int32} {φ : Nat → UInt32} (h : FD (put Mr s φ) M2) : ∃ M6, FD Mr M6 ∧ M2 = put M6 s φ := by
  have e1 : M2.1 236 = s := by rw [h.1 236 (by decide), put_s]
  have e2 : M2.2 240 = φ := by rw [h.2.2, put_f]
  refine ⟨put M2 (Mr.1 236) (Mr.2 240), ⟨fun k hk => ?_, fun j h1 h2 => ?_, ?_⟩, ?_⟩
  · by_cases hk2 : k = 236
    · subst hk2
      rw [put_s]
    · rw [put_1 hk2, h.1 k hk, put_1 hk2]
  · rw [put_1 (by decide), h.2.1 j h1 h2, put_1 (by decide)]
  · funext b
    by_cases hb : b = 240
    · subst hb
      rw [put_f]
    · rw [put_2 hb, h.2.2, put_2 hb]
  · rw [put_put]
    exact put_eq e1 e2
theorem CV.sens {r c t e dt N f : Nat} {M : Mem} {s : Nat → Int32} {φ : Nat → UInt32} (H : CV r c t e dt N M s φ) (hf : f < r) : fX0_sensed 2 (nI f) (nm 1) M = some (sw (Dm s r c) f, M) :=
  e_sensed H.hd H.hr (fun i hi d hd => (H.bitid hi hd).1) (fun i hi d hd => (H.bit0 (by have := H.hd; omega) (by omega)).1) hf
theorem lp_1 {γ β : Type} {F : (γ → Mem → Option β) → γ → Mem → Option β} {fuel m : Nat} (h : m < fuel) : ∃ k, fuel = k + 1 ∧ m ≤ k ∧ lp F fuel = F (lp F k) := by
  obtain ⟨k, rfl⟩ : ∃ k, fuel = k + 1 := ⟨fuel - 1, by omega⟩
  exact ⟨k, rfl, by omega, rfl⟩
theorem FD_tr {M M1 M2 : Mem} (h : FD M M1) (g : FD M1 M2) : FD M M2 := FD_trans h g
