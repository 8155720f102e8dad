/-! PURE: perform -/
theorem fv_no {i : Nat} (h : i < 2 ^ 31) : ¬ fv (some i) = -1 := by
  show ¬ nI i = nm 1
  rw [nI_nm h (by decide) (by decide)]
  exact not_false
theorem SC_text {M : Mem} (h : SC M) : ∃ (L : Nat) (ch : Nat → Nat), L ≤ 60 ∧ (∀ j, j < L → ch j < 65536) ∧ TC L ch M ∧ TR L ch M := by
  obtain ⟨L, hL, l1, l2, l3⟩ := h
  refine ⟨L, fun j => (M.1 234 j).toNatClampNeg, hL, fun j hj => ?_, ⟨l1, fun j hj => ?_⟩, ⟨l2, fun j hj => ?_⟩⟩
  · obtain ⟨u, hu, a, _⟩ := l3 j hj
    show (M.1 234 j).toNatClampNeg < _
    rw [a, nI_clamp (by omega)]
    exact hu
  · obtain ⟨u, hu, a, _⟩ := l3 j hj
    show M.1 234 j = nI (M.1 234 j).toNatClampNeg
    rw [a, nI_clamp (by omega)]
  · obtain ⟨u, hu, a, b⟩ := l3 j hj
    show M.1 244 j = nI (M.1 234 j).toNatClampNeg
    rw [a, b, nI_clamp (by omega)]
theorem perf_eq {M : Mem} : fX8_perform 0 M = cal (fX3_fault 233 M) (fun v1 M2 => if v1 = -1 then cal (fX5_copyFrom 34 1 M2) (fun _ M4 => lp (FX8_perform_36 0 (fun b8 M9 => cal (fX2_remember 100 34 M9) (fun _ M11 => some (b8, M11))) (fun b12 M13 => cal (fX5_copyFrom 1 34 M13) (fun _ M15 => some (b12, M15)))) 1000000 (nI 0, nI 0, nI 0) M4) else some ((-100) - v1, M2)) := by
  unfold fX8_perform
  simp only [Nat.reduceAdd, nlit']
theorem perr_eq {M : Mem} : fX9_perform 235 M = cal (fX9_moves 235 (nI 0) M) (fun v1 M2 => if 0 ≤ v1 then cal (fX9_remember 235 M2) (fun _ M4 => cal (fX9_moves 235 (nI 1) M4) (fun v5 M6 => if 0 ≤ v5 then cal (fX9_record 235 M6) (fun _ M8 => some (v5, M8)) else cal (fX9_goBack 235 M6) (fun _ M10 => some (v5, M10)))) else some ((-100) - (M2.1 235 12), M2)) := by
  unfold fX9_perform
  simp only [nlit']
theorem r_back {M : Mem} {s : Nat → Int32} {φ : Nat → UInt32} (hs : ∀ j, j < 592 → M.1 239 j = s j) (hφ : ∀ j, j < 7 → M.2 243 j = φ j) :
    wp (fX9_goBack 235 M) (fun _ M2 => (∀ j, j < 592 → M2.1 236 j = s j) ∧ (∀ j, j < 7 → M2.2 240 j = φ j) ∧ (∀ k, k ≠ 236 → M2.1 k = M.1 k) ∧ (∀ k, k ≠ 240 → M2.2 k = M.2 k)) := by
  unfold fX9_goBack
  refine l_back1 (l_back2 ?_)
  refine ⟨fun j hj => ?_, fun j hj => ?_, fun k hk => ?_, fun k hk => ?_⟩
  · rw [wf_1, wa_self, cpv_lt hj, hs j hj]
  · rw [wf_self, wa_2, cpv_lt hj, hφ j hj]
  · rw [wf_1, wa_o hk]
  · rw [wf_o hk, wa_2]
set_option maxRecDepth 20000 in
theorem st_perform {N : Nat} {M : Mem} (h : IV N M) (hN : N + 40000 < 2 ^ 24) : W2 (N + 30000) (fX8_perform 0) (fX9_perform 235) M := by
  have h0 := h
  obtain ⟨r, c, t, e, dt, H⟩ := h.nf
  obtain ⟨g1, ⟨q, st, g2⟩, g3, g4⟩ := h
  obtain ⟨L, ch, hL, hch, T, TRm⟩ := SC_text g4
  have ec := c_fault hL hch T
  by_cases hsc : scan ch L 0 0 = none
  · rw [hsc] at ec
    obtain ⟨M1, e1, p1, p2⟩ := e_copySt (a := 34) (b := 1) M (by decide) (by decide) (by decide) (RS_bz g1)
    have H1 : CV r c t e dt N M1 (M.1 236) (M.2 240) := CV.v (M := M) H (fun k _ _ => p2 k (by omega))
    have T1 : TC L ch M1 := ⟨by rw [(p2 233 (by omega)).1]; exact T.1, fun j hj => by rw [(p2 234 (by omega)).1]; exact T.2 j hj⟩
    have hN2 : N + 430 * (L + 1 - 0) + 5000 < 2 ^ 24 := by omega
    obtain ⟨x, ok, M2, s2, φ2, F2, C2, R2, G1, G2⟩ := j_moves hL hch L 0 0 t e dt N M1 (M.1 236) (M.2 240) (by omega) (by omega) (by rw [Nat.sub_zero]; exact hsc) H1 T1 hN2 (Nat.zero_le _)
    -- cells of the class and of the reference that stay
    have far2 : ∀ k, 67 ≤ k → M2.1 k = M.1 k ∧ M2.2 k = M.2 k := fun k hk => ⟨by rw [(F2 k (by omega)).1, (p2 k (by omega)).1], by rw [(F2 k (by omega)).2, (p2 k (by omega)).2]⟩
    have far0 : M2.1 0 = M.1 0 ∧ M2.2 0 = M.2 0 := ⟨by rw [(F2 0 (by omega)).1, (p2 0 (by omega)).1], by rw [(F2 0 (by omega)).2, (p2 0 (by omega)).2]⟩
    have r34 : RS N (vA M2 34) (vB M2 34) (M.1 236) (M.2 240) := RS_v (RS_c g1 p1 (fun _ _ => rfl) (fun _ _ => rfl)) (fun k hk => F2 (34 + k) (by omega))
    -- what the reference does, from any memory that the class leaves
    have ref : ∀ (M3 : Mem), (∀ k, 233 ≤ k → M3.1 k = M.1 k ∧ M3.2 k = M.2 k) → ∀ (Q : Int32 → Mem → Prop),
        (ok = true → ∀ M6, M6.1 239 = M6.1 239 → (∀ j, j < 592 → M6.1 239 j = M.1 236 j) → (∀ j, j < 7 → M6.2 243 j = M.2 240 j) → (∀ k, k ≠ 235 → k ≠ 236 → k ≠ 239 → M6.1 k = M3.1 k) → (∀ j, j < 12 → M6.1 235 j = M3.1 235 j) → (∀ k, k ≠ 240 → k ≠ 243 → M6.2 k = M3.2 k) → M6.1 236 = s2 → M6.2 240 = φ2 → wp (cal (fX9_record 235 M6) (fun _ M8 => some (x, M8))) Q) →
        (ok = false → ∀ M6, M6.1 239 = M6.1 239 → (∀ j, j < 592 → M6.1 239 j = M.1 236 j) → (∀ j, j < 7 → M6.2 243 j = M.2 240 j) → (∀ k, k ≠ 235 → k ≠ 236 → k ≠ 239 → M6.1 k = M3.1 k) → (∀ j, j < 12 → M6.1 235 j = M3.1 235 j) → (∀ k, k ≠ 240 → k ≠ 243 → M6.2 k = M3.2 k) → wp (cal (fX9_goBack 235 M6) (fun _ M8 => some (x, M8))) Q) →
        wp (fX9_perform 235 M3) Q := fun M3 far Q q1 q2 => by
      have T3 : TR L ch M3 := ⟨by rw [(far 235 (by omega)).1]; exact TRm.1, fun j hj => by rw [(far 244 (by omega)).1]; exact TRm.2 j hj⟩
      have em : fX9_moves 235 (nI 0) M3 = some (nI 0, w1 M3 235 12 (nI L)) := (r_moves0 hL hch T3).trans (by rw [hsc]; rfl)
      rw [perr_eq, em, cal_x, if_pos (nI0_le (n := 0) (by decide)), wp_cal]
      refine wp_mono r_remb (fun _ M4 ⟨a1, a2, a3, a4⟩ => ?_)
      have z236 : M4.1 236 = M.1 236 := by rw [a3 236 (by decide), w1_o (by decide), (far 236 (by omega)).1]
      have z240 : M4.2 240 = M.2 240 := by rw [a4 240 (by decide), w1_2, (far 240 (by omega)).2]
      have T4 : TR L ch M4 := by
        have := TR_w (x := nI L) T3
        exact ⟨by rw [a3 235 (by decide)]; exact this.1, fun j hj => by rw [a3 244 (by decide)]; exact this.2 j hj⟩
      rw [wp_cal, moves_eq]
      have e4 : w1 M4 235 12 (nI 0) = put (w1 M4 235 12 (nI 0)) (M.1 236) (M.2 240) := put_eq (by rw [w1_o (by decide), z236]) (by rw [w1_2, z240])
      rw [e4]
      refine wp_mono (R2 (w1 M4 235 12 (nI 0)) 1000000 (by omega) (TR_w T4) (w1_eq ⟨rfl, rfl⟩)) (fun v M5 ⟨ev, M6, fp, e5⟩ => ?_)
      subst ev e5
      have b1 : ∀ k, k ≠ 235 → k ≠ 236 → (put M6 s2 φ2).1 k = M4.1 k := fun k k1 k2 => by rw [put_1 k2, fp.1 k k1, w1_o k1]
      have b2 : ∀ k, k ≠ 240 → (put M6 s2 φ2).2 k = M4.2 k := fun k k1 => by rw [put_2 k1, fp.2.2, w1_2]
      have b3 : ∀ j, j < 12 → (put M6 s2 φ2).1 235 j = M4.1 235 j := fun j hj => by rw [put_1 (by decide), fp.2.1 j hj, w1_ne (by omega)]
      have c1 : ∀ j, j < 592 → (put M6 s2 φ2).1 239 j = M.1 236 j := fun j hj => by rw [b1 239 (by decide) (by decide), a1 j hj, w1_o (by decide), (far 236 (by omega)).1]
      have c2 : ∀ j, j < 7 → (put M6 s2 φ2).2 243 j = M.2 240 j := fun j hj => by rw [b2 243 (by decide), a2 j hj, w1_2, (far 240 (by omega)).2]
      have c3 : ∀ k, k ≠ 235 → k ≠ 236 → k ≠ 239 → (put M6 s2 φ2).1 k = M3.1 k := fun k k1 k2 k3 => by rw [b1 k k1 k2, a3 k k3, w1_o k1]
      have c4 : ∀ j, j < 12 → (put M6 s2 φ2).1 235 j = M3.1 235 j := fun j hj => by rw [b3 j hj, a3 235 (by decide), w1_ne (by omega)]
      have c5 : ∀ k, k ≠ 240 → k ≠ 243 → (put M6 s2 φ2).2 k = M3.2 k := fun k k1 k2 => by rw [b2 k k1, a4 k k2, w1_2]
      cases ok
      · rw [if_neg (G2 rfl)]
        exact q2 rfl _ rfl c1 c2 c3 c4 c5
      · rw [if_pos (G1 rfl).1]
        exact q1 rfl _ rfl c1 c2 c3 c4 c5 put_s put_f
    unfold W2
    rw [perf_eq, ec, cal_x, if_pos (show fv none = -1 from rfl), e1, cal_x]
    refine C2 _ _ _ 1000000 (by omega) (fun hok => ?_) (fun hok => ?_)
    · -- all moves were done
      obtain ⟨_, t1, ee1, dt1, H2⟩ := G1 hok
      have hi2 : HI q st N M2 := HI_f g2 ⟨fun k _ _ => far2 k (by omega), by rw [(far2 235 (by omega)).1], (far2 237 (by omega)).1, (far2 241 (by omega)).2⟩
      obtain ⟨M3, e3, hc3, f3⟩ := c_rec hi2 (a := 34) (by decide) (by decide) r34
      rw [e3, cal_x, wp_some]
      refine ref M3 (fun k hk => ⟨by rw [(f3 k (by omega)).1, (far2 k (by omega)).1], by rw [(f3 k (by omega)).2, (far2 k (by omega)).2]⟩) _ (fun _ M6 _ c1 c2 c3 c4 c5 c6 c7 => ?_) (fun hf => by rw [hok] at hf; cases hf)
      have hc6 : HC (q + 3) st N M6 (M.1 236) (M.2 240) := HC_f hc3 ⟨fun k _ _ => ⟨c3 k (by omega) (by omega) (by omega), c5 k (by omega) (by omega)⟩, c4 8 (by omega), c3 237 (by omega) (by omega) (by omega), c5 241 (by omega) (by omega)⟩
      rw [wp_cal]
      refine wp_mono (r_rec hc6 c1 c2) (fun _ M7 ⟨d1, d2, d3, d4⟩ => ?_)
      rw [wp_some]
      have n7 : ∀ k, k ≠ 235 → k ≠ 236 → k ≠ 237 → k ≠ 239 → M7.1 k = M3.1 k := fun k k1 k2 k3 k4 => by rw [d2 k k1 k3, c3 k k1 k2 k4]
      have n7f : ∀ k, k ≠ 240 → k ≠ 241 → k ≠ 243 → M7.2 k = M3.2 k := fun k k1 k2 k3 => by rw [d4 k k2, c5 k k1 k3]
      have n7m : ∀ k, k < 100 → M7.1 k = M2.1 k ∧ M7.2 k = M2.2 k := fun k hk => ⟨by rw [n7 k (by omega) (by omega) (by omega) (by omega), (f3 k (by omega)).1], by rw [n7f k (by omega) (by omega) (by omega), (f3 k (by omega)).2]⟩
      have n7h : ∀ k, 233 ≤ k → k ≠ 235 → k ≠ 236 → k ≠ 237 → k ≠ 239 → M7.1 k = M.1 k := fun k hk k1 k2 k3 k4 => by rw [n7 k k1 k2 k3 k4, (f3 k (by omega)).1, (far2 k (by omega)).1]
      have n7j : ∀ j, j < 12 → j ≠ 8 → M7.1 235 j = M.1 235 j := fun j hj h8 => by rw [d3 j h8, c4 j hj, (f3 235 (by omega)).1, (far2 235 (by omega)).1]
      refine ⟨rfl, ?_, ⟨q + 3, _, HI_mono d1 (by omega)⟩, SN_mono (SN_f g3 ⟨fun k k1 k2 => ⟨?_, ?_⟩, ?_, n7j 9 (by omega) (by omega), n7h 238 (by omega) (by omega) (by omega) (by omega) (by omega), ?_⟩) (by omega), SC_f g4 ⟨?_, n7j 11 (by omega) (by omega), n7h 234 (by omega) (by omega) (by omega) (by omega) (by omega), n7h 244 (by omega) (by omega) (by omega) (by omega) (by omega)⟩⟩
      · refine RS_mono (N := N + 430 * (L + 1 - 0)) ⟨r, c, t1, ee1, dt1, ?_⟩ (by omega)
        rw [d2 236 (by decide) (by decide), c6, d4 240 (by decide), c7]
        exact H2.v (fun k k1 k2 => n7m k (by omega))
      · rw [(n7m k (by omega)).1, (far2 k (by omega)).1]
      · rw [(n7m k (by omega)).2, (far2 k (by omega)).2]
      · rw [(n7m 0 (by omega)).1, far0.1]
      · rw [n7f 242 (by decide) (by decide) (by decide), (f3 242 (by omega)).2, (far2 242 (by omega)).2]
      · rw [n7h 233 (by omega) (by omega) (by omega) (by omega) (by omega)]
    · -- a move failed: both go back
      obtain ⟨M3, e3, p3, f3⟩ := e_copySt (a := 1) (b := 34) M2 (by decide) (by decide) (by decide) (RS_bz r34)
      rw [e3, cal_x, wp_some]
      refine ref M3 (fun k hk => ⟨by rw [(f3 k (by omega)).1, (far2 k (by omega)).1], by rw [(f3 k (by omega)).2, (far2 k (by omega)).2]⟩) _ (fun hf => by rw [hok] at hf; cases hf) (fun _ M6 _ c1 c2 c3 c4 c5 => ?_)
      rw [wp_cal]
      refine wp_mono (r_back c1 c2) (fun _ M7 ⟨d1, d2, d3, d4⟩ => ?_)
      rw [wp_some]
      have n7 : ∀ k, k ≠ 235 → k ≠ 236 → k ≠ 239 → M7.1 k = M3.1 k := fun k k1 k2 k3 => by rw [d3 k k2, c3 k k1 k2 k3]
      have n7f : ∀ k, k ≠ 240 → k ≠ 243 → M7.2 k = M3.2 k := fun k k1 k2 => by rw [d4 k k1, c5 k k1 k2]
      have n7h : ∀ k, 67 ≤ k → k ≠ 235 → k ≠ 236 → k ≠ 239 → M7.1 k = M.1 k := fun k hk k1 k2 k3 => by rw [n7 k k1 k2 k3, (f3 k (by omega)).1, (far2 k hk).1]
      have n7g : ∀ k, 67 ≤ k → k ≠ 240 → k ≠ 243 → M7.2 k = M.2 k := fun k hk k1 k2 => by rw [n7f k k1 k2, (f3 k (by omega)).2, (far2 k hk).2]
      have n7j : ∀ j, j < 12 → M7.1 235 j = M.1 235 j := fun j hj => by rw [d3 235 (by decide), c4 j hj, (f3 235 (by omega)).1, (far2 235 (by omega)).1]
      refine ⟨rfl, ?_, ⟨q, st, HI_mono (HI_f g2 ⟨fun k k1 k2 => ⟨n7h k (by omega) (by omega) (by omega) (by omega), n7g k (by omega) (by omega) (by omega)⟩, n7j 8 (by omega), n7h 237 (by omega) (by omega) (by omega) (by omega), n7g 241 (by omega) (by omega) (by omega)⟩) (by omega)⟩, SN_mono (SN_f g3 ⟨fun k k1 k2 => ⟨n7h k (by omega) (by omega) (by omega) (by omega), n7g k (by omega) (by omega) (by omega)⟩, ?_, n7j 9 (by omega), n7h 238 (by omega) (by omega) (by omega) (by omega), n7g 242 (by omega) (by omega) (by omega)⟩) (by omega), SC_f g4 ⟨?_, n7j 11 (by omega), n7h 234 (by omega) (by omega) (by omega) (by omega), n7h 244 (by omega) (by omega) (by omega) (by omega)⟩⟩
      · refine RS_mono (N := N) ?_ (by omega)
        refine RS_v (RS_c r34 p3 d1 d2) (fun k hk => ⟨?_, ?_⟩)
        · exact n7 (1 + k) (by omega) (by omega) (by omega)
        · exact n7f (1 + k) (by omega) (by omega)
      · rw [n7 0 (by omega) (by omega) (by omega), (f3 0 (by omega)).1, far0.1]
      · rw [n7h 233 (by omega) (by omega) (by omega) (by omega)]
  · obtain ⟨i, hi⟩ : ∃ i, scan ch L 0 0 = some i := by
      cases hh : scan ch L 0 0 with
      | none => exact absurd hh hsc
      | some i => exact ⟨i, rfl⟩
    have hiL := scan_le _ _ _ _ hi
    rw [hi] at ec
    refine W2_mono (W2_same (r := (-100) - nI i) h0 ?_ ?_) (Nat.le_add_right N 30000)
    · rw [perf_eq, ec, cal_x, if_neg (fv_no (by omega))]
      rfl
    · have em : fX9_moves 235 (nI 0) M = some (nm 100, w1 M 235 12 (nI i)) := (r_moves0 hL hch TRm).trans (by rw [hi]; rfl)
      rw [perr_eq, em, cal_x, if_neg (nm_nle (n := 100) (by decide) (by decide)), wp_some]
      exact ⟨by rw [w1_eq ⟨rfl, rfl⟩], fun k hk => w1_o hk, fun j hj => w1_ne (by omega), rfl⟩
