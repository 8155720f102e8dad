/-! PURE: a stroke ends, on both sides -/
theorem rwE_def {s : Nat → Int32} {e k u d w : Nat} {h q : Int32} : rwE s e k u d w h q = upd (upd (upd (upd (upd (upd (upd s (308 + 6 * (e % 16)) (nI k)) (308 + 6 * (e % 16) + 1) (nI u)) (308 + 6 * (e % 16) + 2) (nI d)) (308 + 6 * (e % 16) + 3) (nI w)) (308 + 6 * (e % 16) + 4) h) (308 + 6 * (e % 16) + 5) q) 9 (nI (e + 1)) := rfl
theorem upd_comm {f : Nat → Int32} {i j : Nat} {x y : Int32} (h : i ≠ j) : upd (upd f i x) j y = upd (upd f j y) i x := by
  funext k
  simp only [upd_at]
  by_cases h1 : k = i
  · subst h1
    rw [if_neg h, if_pos rfl, if_pos rfl]
  · rw [if_neg h1, if_neg h1]
theorem lose_upd {f : Nat → Int32} {k i : Nat} {x : Int32} (h1 : i ≠ 68 + k) (h2 : i ≠ 116 + k) : upd (lose k f) i x = lose k (upd f i x) := by
  unfold lose
  rw [upd_comm (show 116 + k ≠ i by omega), upd_comm (show 68 + k ≠ i by omega)]
theorem lose_cpo {f g : Nat → Int32} {k off n : Nat} (h : 116 + k < off) : cpo (lose k f) g off n = lose k (cpo f g off n) := by
  funext i
  by_cases h1 : off ≤ i ∧ i < off + n
  · rw [lose_o (by omega) (by omega)]
    unfold cpo
    rw [if_pos h1, if_pos h1]
  · rw [cpo_off (by omega)]
    by_cases h2 : i = 68 + k
    · subst h2
      rw [lose_k.1, lose_k.1]
    · by_cases h3 : i = 116 + k
      · subst h3
        rw [lose_k.2, lose_k.2]
      · rw [lose_o h2 h3, lose_o h2 h3, cpo_off (by omega)]
theorem lose_rwD {s : Nat → Int32} {k dt e : Nat} (hk : k < 48) : rwD (lose k s) dt e = lose k (rwD s dt e) := by
  have : (fun j => lose k s (308 + 6 * (e % 16) + j)) = fun j => s (308 + 6 * (e % 16) + j) := funext fun j => lose_o (by omega) (by omega)
  unfold rwD
  rw [this, lose_cpo (by omega), lose_upd (by omega) (by omega), lose_upd (by omega) (by omega), lose_upd (by omega) (by omega)]
theorem lose_rwC {s : Nat → Int32} {k w : Nat} {h : Int32} (hk : k < 48) (hw : w < 3) : rwC w h (lose k s) = lose k (rwC w h s) := by
  unfold rwC
  split
  · rw [lose_o (by omega) (by omega), lose_o (by omega) (by omega), lose_upd (by omega) (by omega), lose_upd (by omega) (by omega)]
  · rw [lose_o (by omega) (by omega), lose_o (by omega) (by omega), lose_upd (by omega) (by omega), lose_upd (by omega) (by omega)]
theorem lose_rwG {s : Nat → Int32} {k n p k2 q : Nat} (hk : k < 48) (hp : p < 2) : rwG n p k2 q (lose k s) = lose k (rwG n p k2 q s) := by
  have e1 : capB (lose k s) p q = capB s p q := by
    unfold capB
    rw [lose_o (by omega) (by omega)]
  unfold rwG
  rw [e1, lose_o (show 260 + k2 ≠ 68 + k by omega) (by omega), lose_o (show 17 + p ≠ 68 + k by omega) (by omega)]
  split
  · split
    · rfl
    · rw [lose_upd (by omega) (by omega), lose_upd (by omega) (by omega)]
  · rfl
theorem lose_lrF {s : Nat → Int32} {φ : Nat → UInt32} {k p u d : Nat} (hk : k < 48) (hp : p < 2) : lrF p u d (lose k s) φ = lrF p u d s φ := by
  unfold lrF
  rw [lose_o (by omega) (by omega)]
theorem lose_fin {s : Nat → Int32} {φ : Nat → UInt32} {k n w k2 u d q : Nat} {h : Int32} {tb : Bool} (hk : k < 48) (hw : w < 3) : finS n w k2 u q h tb (lose k s) = lose k (finS n w k2 u q h tb s) ∧ finF w u d h tb (lose k s) φ = finF w u d h tb s φ := by
  unfold finS finF
  by_cases h2 : w = 2
  · simp only [h2, if_true, and_true]
    exact lose_rwC hk (by omega)
  · simp only [h2, if_false]
    cases tb
    · simp only [Bool.false_eq_true, if_false, and_true]
      rw [lose_rwC hk hw, lose_rwG hk (by omega)]
    · simp only [if_true]
      rw [lose_rwC hk hw, lose_upd (by omega) (by omega), lose_rwG hk (by omega), lose_lrF hk (by omega)]
      exact ⟨rfl, rfl⟩
theorem jn_x {γ β δ : Type} {K : γ → Mem → Option β} {F : (γ → Mem → Option β) → δ} : jn K F = F K := Eq.trans jn_e rfl
theorem cal_x {γ β : Type} {v : γ} {M : Mem} {k : γ → Mem → Option β} : cal (some (v, M)) k = k v M := Eq.trans cal_e rfl
theorem bnd_x {γ δ : Type} {e : γ} {k : γ → δ} : bnd e k = k e := Eq.trans bnd_e rfl
theorem asr_x {β : Type} {k : Option β} : asr true k = k := Eq.trans asr_e rfl
theorem nm_x (n : Nat) : -(nI n) = nm n := Eq.trans (nm_def n) rfl
section END
variable {r c t e dt N : Nat} {M Mc : Mem} {s : Nat → Int32} {φ : Nat → UInt32}
theorem lM_2 {k : Nat} : (lM M c k).2 = M.2 := rfl
end END

