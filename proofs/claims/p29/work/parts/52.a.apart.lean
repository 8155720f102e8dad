/-! PURE: two distances apart -/
theorem fin_K {x : UInt32} {K : Nat} (h : x.toNat % 2 ^ 31 < K * 2 ^ 23) (hK : K ≤ 255) : FP.Core.FFin x := FP.Core.fin_of_lt32 h hK
theorem zadd_ge {a b : UInt32} {V : FP.Core.Datum} (ha : FP.Core.FFin a) (hb : FP.Core.FFin b) (hV : FP.Core.fits FP.Core.b32 V) (hn : V ≠ .nan) (h : FP.Core.zval FP.Core.b32 V ≤ zv a + zv b) : FP.Core.zval FP.Core.b32 V ≤ zv (FP.fadd a b) := by
  obtain ⟨s, c, q, h1⟩ := ha
  obtain ⟨t, d, r, h2⟩ := hb
  have fa := FP.Core.val32_fits a
  have fb := FP.Core.val32_fits b
  unfold zv at *
  rw [h1] at fa h
  rw [h2] at fb h
  obtain ⟨sg, n, e, e1, e2, e3⟩ := FP.Core.sum_units fa fb
  have ev : FP.Core.val32 (FP.fadd a b) = FP.Core.round FP.Core.b32 (FP.Core.exactSum (FP.Core.val32 a) (FP.Core.val32 b)) := FP.Core.val32_fadd a b
  rw [ev, h1, h2, e1]
  refine FP.Core.zval_round_ge FP.Core.good_b32 hV hn (Int.le_refl _) e2 ?_
  rw [e3, Int.sub_self]
  simpa using h
theorem z0v : zv 0 = 0 := by
  have z0 := zv_bits (x := (0 : UInt32)) (by decide)
  rw [z0.1, z0_units]
  rfl
theorem zsub_sg {a b : UInt32} (ha : FP.Core.FFin a) (hb : FP.Core.FFin b) : (zv a ≤ zv b → zv (FP.fsub a b) ≤ 0) ∧ (zv b ≤ zv a → 0 ≤ zv (FP.fsub a b)) := by
  have z0 := zv_bits (x := (0 : UInt32)) (by decide)
  have e0 : FP.Core.zval FP.Core.b32 (FP.Core.val32 0) = 0 := z0v
  constructor
  · intro h
    have := zsub_le ha hb (FP.Core.val32_fits 0) z0.2.2 (by rw [e0]; omega)
    rw [e0] at this
    exact this
  · intro h
    rw [show FP.fsub a b = FP.fadd a (FP.Core.fneg b) from FP.Core.fsub_eq a b]
    have := zadd_ge ha (fin_neg hb) (FP.Core.val32_fits 0) z0.2.2 (by rw [e0, zneg]; omega)
    rw [e0] at this
    exact this
theorem signed_opp {s t : Bool} {a b : Nat} (h : FP.Core.signed t b = -FP.Core.signed s a) : a = b ∧ (a ≠ 0 → t = !s) := by
  cases s <;> cases t <;> simp only [FP.Core.signed, Bool.false_eq_true, if_true, if_false] at h
  · exact ⟨by omega, fun h0 => absurd h0 (by omega)⟩
  · exact ⟨by omega, fun _ => rfl⟩
  · exact ⟨by omega, fun _ => rfl⟩
  · exact ⟨by omega, fun h0 => absurd h0 (by omega)⟩
theorem zsub_neg {a b : UInt32} (ha : FP.Core.FFin a) (hb : FP.Core.FFin b) : zv (FP.fsub b a) = -zv (FP.fsub a b) := by
  have hz := zsub_sg ha hb
  have hz2 := zsub_sg hb ha
  have ha0 := ha
  have hb0 := hb
  obtain ⟨s, c, q, h1⟩ := ha
  obtain ⟨t, d, r, h2⟩ := hb
  have fa := FP.Core.val32_fits a
  have fb := FP.Core.val32_fits b
  have fa2 := FP.Core.negate_fits fa
  have fb2 := FP.Core.negate_fits fb
  have n1 : FP.Core.negate (FP.Core.val32 a) = .fin (!s) c q := by rw [h1]; rfl
  have n2 : FP.Core.negate (FP.Core.val32 b) = .fin (!t) d r := by rw [h2]; rfl
  rw [n1] at fa2
  rw [n2] at fb2
  have fa3 := fa
  have fb3 := fb
  rw [h1] at fa3
  rw [h2] at fb3
  obtain ⟨sg, n, e, e1, e2, e3⟩ := FP.Core.sum_units fa3 fb2
  obtain ⟨sg', n', e', e1', e2', e3'⟩ := FP.Core.sum_units fb3 fa2
  have ev : FP.Core.val32 (FP.fsub a b) = FP.Core.round FP.Core.b32 (.fin sg (FP.Core.inUnits n e FP.Core.b32.qmin) FP.Core.b32.qmin) := by
    rw [FP.Core.round_inUnits sg n e2, ← e1, ← h1, ← n2]
    exact FP.Core.val32_fsub a b
  have ev' : FP.Core.val32 (FP.fsub b a) = FP.Core.round FP.Core.b32 (.fin sg' (FP.Core.inUnits n' e' FP.Core.b32.qmin) FP.Core.b32.qmin) := by
    rw [FP.Core.round_inUnits sg' n' e2', ← e1', ← h2, ← n1]
    exact FP.Core.val32_fsub b a
  have q1 : FP.Core.zval FP.Core.b32 (.fin (!t) d r) = -zv b := by
    rw [← n2, FP.Core.zval_negate]
    rfl
  have q2 : FP.Core.zval FP.Core.b32 (.fin (!s) c q) = -zv a := by
    rw [← n1, FP.Core.zval_negate]
    rfl
  have q3 : FP.Core.zval FP.Core.b32 (.fin s c q) = zv a := by rw [← h1]; rfl
  have q4 : FP.Core.zval FP.Core.b32 (.fin t d r) = zv b := by rw [← h2]; rfl
  rw [q1, q3] at e3
  rw [q2, q4] at e3'
  obtain ⟨o1, o2⟩ := signed_opp (s := sg) (t := sg') (a := FP.Core.inUnits n e FP.Core.b32.qmin) (b := FP.Core.inUnits n' e' FP.Core.b32.qmin) (by rw [e3, e3']; omega)
  by_cases h0 : FP.Core.inUnits n e FP.Core.b32.qmin = 0
  · rw [h0, FP.Core.signed_zero] at e3
    have a1 := hz.1 (by omega)
    have a2 := hz.2 (by omega)
    have a3 := hz2.1 (by omega)
    have a4 := hz2.2 (by omega)
    omega
  · unfold zv
    rw [ev, ev', o2 h0, ← o1]
    rw [show FP.Core.Datum.fin (!sg) (FP.Core.inUnits n e FP.Core.b32.qmin) FP.Core.b32.qmin = FP.Core.negate (.fin sg (FP.Core.inUnits n e FP.Core.b32.qmin) FP.Core.b32.qmin) from rfl, ← FP.Core.negate_round, FP.Core.zval_negate]
theorem fcmp_zv {a b : UInt32} (ha : FP.Core.FFin a) (hb : FP.Core.FFin b) : FP.fcmp a b = some (compare (zv a) (zv b)) :=
  FP.Core.order_zval FP.Core.good_b32 (FP.Core.val32_fits a) (FP.Core.val32_fits b) ha.ne_nan hb.ne_nan
theorem fcg_zv {a b : UInt32} (ha : FP.Core.FFin a) (hb : FP.Core.FFin b) : (nI 0 ≤ fcg a b) ↔ zv b ≤ zv a := by
  unfold fcg
  rw [fcmp_zv ha hb]
  rcases Int.lt_trichotomy (zv a) (zv b) with h | h | h
  · rw [Int.compare_eq_lt.mpr h]
    exact ⟨fun q => absurd q (by decide), fun q => absurd q (by omega)⟩
  · rw [Int.compare_eq_eq.mpr h]
    exact ⟨fun _ => by omega, fun _ => by decide⟩
  · rw [Int.compare_eq_gt.mpr h]
    exact ⟨fun _ => by omega, fun _ => by decide⟩
theorem apart_eq {z o mar : UInt32} (hz : z.toNat % 2 ^ 31 < 167 * 2 ^ 23) (ho : o.toNat % 2 ^ 31 < 167 * 2 ^ 23) (hm : FP.Core.FFin mar) :
    nnb (FP.fsub z o) = true ∧ nnb (FP.fsub o z) = true ∧ ((nI 0 ≤ fcg (if nI 0 ≤ fcg z o then FP.fsub z o else FP.fsub o z) mar) ↔ (nI 0 ≤ fcg (szf (FP.fsub z o)) mar)) := by
  have k1 := FP.Core.fsub_mag hz ho (by decide)
  have k2 := FP.Core.fsub_mag ho hz (by decide)
  have fz := fin_K hz (by decide)
  have fo := fin_K ho (by decide)
  have f1 := fin_K k1 (by decide)
  have f2 := fin_K k2 (by decide)
  have f3 : FP.Core.FFin (szf (FP.fsub z o)) := fin_K (sz_K k1 (by decide)) (by decide)
  have f0 : FP.Core.FFin FP.fconst0 := (zv_bits (x := FP.fconst0) (by decide)).2.1
  have e0 : zv FP.fconst0 = 0 := z0v
  have hn := zsub_neg fz fo
  have hs := zsub_sg fz fo
  refine ⟨nnb_K k1 (by decide), nnb_K k2 (by decide), ?_⟩
  have ez : zv (szf (FP.fsub z o)) = if 0 ≤ zv (FP.fsub z o) then zv (FP.fsub z o) else -zv (FP.fsub z o) := by
    unfold szf
    have hc := fcg_zv f1 f0
    rw [e0] at hc
    by_cases h : 0 ≤ zv (FP.fsub z o)
    · rw [if_pos h, if_pos (show (0 : Int32) ≤ fcg (FP.fsub z o) FP.fconst0 from hc.mpr h)]
    · rw [if_neg h, if_neg (show ¬ (0 : Int32) ≤ fcg (FP.fsub z o) FP.fconst0 from fun q => h (hc.mp q))]
      unfold zv
      rw [FP.val32_fneg, FP.Core.zval_negate]
  rw [fcg_zv f3 hm, ez]
  by_cases h : zv o ≤ zv z
  · rw [if_pos ((fcg_zv fz fo).mpr h), fcg_zv f1 hm, if_pos (hs.2 h)]
  · rw [if_neg (fun q => h ((fcg_zv fz fo).mp q)), fcg_zv f2 hm, hn]
    have := hs.1 (by omega)
    by_cases h2 : 0 ≤ zv (FP.fsub z o)
    · rw [if_pos h2, show zv (FP.fsub z o) = 0 by omega]
      simp
    · rw [if_neg h2]
