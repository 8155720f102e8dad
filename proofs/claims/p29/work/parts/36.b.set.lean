theorem key_nn {x : UInt32} (h : x.toNat ≤ 2139095040) : FP.Core.key FP.Core.b32 x.toNat = (x.toNat : Int) := by
  unfold FP.Core.key
  rw [FP.Core.half_b32, decide_eq_false (by omega), FP.Core.mag_toNat32, Nat.mod_eq_of_lt (by omega)]
  rfl
theorem nn_nan {x : UInt32} (h : x.toNat ≤ 2139095040) : FP.Core.val32 x ≠ .nan := by
  rw [FP.Core.ne_nan32]
  omega
theorem fcmp_nn {x y : UInt32} (hx : x.toNat ≤ 2139095040) (hy : y.toNat ≤ 2139095040) : FP.fcmp x y = some (compare (x.toNat : Int) (y.toNat : Int)) := by
  have h := FP.Core.cmp_key FP.Core.good_b32 (FP.Core.lt_full32 x) (FP.Core.lt_full32 y) (nn_nan hx) (nn_nan hy)
  rw [key_nn hx, key_nn hy] at h
  exact h
theorem fcl_nn {x y : UInt32} (hx : x.toNat ≤ 2139095040) (hy : y.toNat ≤ 2139095040) : (fcl x y = nI 0 ↔ x.toNat = y.toNat) ∧ (fcl x y < nI 0 ↔ x.toNat < y.toNat) ∧ (fcg x y ≤ nI 0 ↔ x.toNat ≤ y.toNat) := by
  unfold fcl fcg
  rw [fcmp_nn hx hy]
  have hc : compare (x.toNat : Int) (y.toNat : Int) = if (x.toNat : Int) < y.toNat then .lt else if (x.toNat : Int) = y.toNat then .eq else .gt := rfl
  rw [hc]
  by_cases h1 : (x.toNat : Int) < y.toNat
  · rw [if_pos h1]
    refine ⟨⟨fun q => absurd q (by decide), fun q => by omega⟩, ⟨fun _ => by omega, fun _ => by decide⟩, ⟨fun _ => by omega, fun _ => by decide⟩⟩
  · rw [if_neg h1]
    by_cases h2 : (x.toNat : Int) = y.toNat
    · rw [if_pos h2]
      refine ⟨⟨fun _ => by omega, fun _ => by decide⟩, ⟨fun q => absurd q (by decide), fun q => by omega⟩, ⟨fun _ => by omega, fun _ => by decide⟩⟩
    · rw [if_neg h2]
      refine ⟨⟨fun q => absurd q (by decide), fun q => by omega⟩, ⟨fun q => absurd q (by decide), fun q => by omega⟩, ⟨fun q => absurd q (by decide), fun q => by omega⟩⟩
theorem lm_nI {w : Nat} (hw : w < 3) : lm w = nI (lims w) := by
  rcases (show w = 0 ∨ w = 1 ∨ w = 2 by omega) with rfl | rfl | rfl <;> rfl
theorem RS_set {A A2 : Nat → Nat → Int32} {B B2 : Nat → Nat → UInt32} {s : Nat → Int32} {φ φ2 : Nat → UInt32} {r c t e dt N w b : Nat} (H : RSp r c t e dt N A B s φ) (hw : w < 3) (hb : b < lims w)
    (eA : ∀ k, k < 33 → (k == 32) = false → A2 k = A k) (a32 : A2 32 = upd (A 32) w (nI b)) (eB : ∀ k, k < 33 → (k == 31) = false → B2 k = B k) (b31 : B2 31 = vf_upd (B 31) (1 + w) (nI b).toUInt32)
    (eS : ∀ i, s i = s i) (eF' : φ2 = vf_upd φ (4 + w) (nI b).toUInt32) : RSp r c t e dt N A2 B2 s φ2 := by
  have hd := H.1.1
  obtain ⟨m48, m0⟩ := mul48 hd
  have eF : ∀ i, decide (4 ≤ i) = false → φ2 i = φ i := fun i hi => by
    have := of_decide_eq_false hi
    rw [eF', vfu_at, if_neg (by omega)]
  refine ⟨rDim_c H.1 (congrFun (eA 1 (by decide) rfl) 0) (congrFun (eA 1 (by decide) rfl) 1) (eS 0) (eS 1), rShift_c H.2.1 (fun p hp => congrFun (eA 10 (by decide) rfl) p) (fun p hp => eS _), rHold_c H.2.2.1 (fun k hk => congrFun (eA 2 (by decide) rfl) k) (fun k hk => eS _) m48, rBits_c H.2.2.2.1 (fun i hi => ⟨congrFun (eA 7 (by decide) rfl) i, congrFun (eA 8 (by decide) rfl) i, congrFun (eA 9 (by decide) rfl) i⟩) (fun k hk => ⟨eS _, eS _, eS _⟩), rKey_c H.2.2.2.2.1 (fun k hk => ⟨congrFun (eA 4 (by decide) rfl) k, congrFun (eA 5 (by decide) rfl) k, congrFun (eA 6 (by decide) rfl) k⟩) (fun k hk => ⟨eS _, eS _, eS _, eS _⟩), rSign_c H.2.2.2.2.2.1 (fun k hk => congrFun (eA 3 (by decide) rfl) k) (fun k hk => eS _), rTyp_c H.2.2.2.2.2.2.1 (fun j _ _ => congrFun (eA 11 (by decide) rfl) j) (fun j _ => congrFun (eA 12 (by decide) rfl) j) (fun j _ => congrFun (eB 11 (by decide) rfl) j) ⟨eS _, eS _, eS _, eS _, eS _⟩ (fun j hj => eS _) ⟨eF 0 rfl, eF 2 rfl⟩, rTyp_c H.2.2.2.2.2.2.2.1 (fun j _ _ => congrFun (eA 13 (by decide) rfl) j) (fun j _ => congrFun (eA 14 (by decide) rfl) j) (fun j _ => congrFun (eB 13 (by decide) rfl) j) ⟨eS _, eS _, eS _, eS _, eS _⟩ (fun j hj => eS _) ⟨eF 1 rfl, eF 3 rfl⟩, rEnd_c H.2.2.2.2.2.2.2.2.1 (congrFun (eA 15 (by decide) rfl) 0) (fun j hj => ⟨congrFun (eA 16 (by decide) rfl) j, congrFun (eA 17 (by decide) rfl) j, congrFun (eA 18 (by decide) rfl) j, congrFun (eA 19 (by decide) rfl) j, congrFun (eA 20 (by decide) rfl) j, congrFun (eA 21 (by decide) rfl) j⟩) (eS 9) (fun j _ _ => eS _), rDis_c H.2.2.2.2.2.2.2.2.2.1 (congrFun (eA 23 (by decide) rfl) 0) (congrFun (eA 0 (by decide) rfl) 9) (fun j hj => ⟨congrFun (eA 24 (by decide) rfl) j, congrFun (eA 25 (by decide) rfl) j, congrFun (eA 26 (by decide) rfl) j, congrFun (eA 27 (by decide) rfl) j, congrFun (eA 28 (by decide) rfl) j, congrFun (eA 29 (by decide) rfl) j, congrFun (eA 30 (by decide) rfl) j⟩) (eS 16) (fun j _ _ => eS _), fun j hj => ?_, rCnt_c H.2.2.2.2.2.2.2.2.2.2.2 ⟨congrFun (eA 0 (by decide) rfl) 6, congrFun (eA 0 (by decide) rfl) 7, congrFun (eA 0 (by decide) rfl) 8⟩ ⟨eS 2, eS 14, eS 15⟩⟩
  by_cases e : j = w
  · subst e
    refine ⟨⟨b, hb, by rw [a32, upd_self], by rw [eF', vfu_at, if_pos rfl]⟩, by rw [b31, eF', vfu_at, vfu_at, if_pos rfl, if_pos rfl]⟩
  · obtain ⟨⟨b', h1, h2, h3⟩, h4⟩ := H.2.2.2.2.2.2.2.2.2.2.1 j hj
    refine ⟨⟨b', h1, by rw [a32, upd_o e]; exact h2, by rw [eF', vfu_at, if_neg (by omega)]; exact h3⟩, by rw [b31, eF', vfu_at, vfu_at, if_neg (by omega), if_neg (by omega)]; exact h4⟩

