/-! PURE: what is recorded -/
theorem AG_refl (A : Nat → Nat → Int32) (B : Nat → Nat → UInt32) : AG A B A B :=
  ⟨fun _ _ _ => rfl, fun _ _ => rfl, fun _ _ => ⟨rfl, rfl, rfl, rfl, rfl⟩, fun _ _ => ⟨rfl, rfl, rfl⟩, fun _ _ => rfl, fun _ _ => ⟨fun _ _ _ => rfl, fun _ _ => rfl, fun _ _ => rfl⟩, rfl, fun _ _ => ⟨rfl, rfl, rfl, rfl, rfl, rfl, rfl⟩, rfl, fun _ _ => ⟨rfl, rfl, rfl, rfl, rfl, rfl, rfl⟩, fun _ _ => ⟨rfl, rfl⟩⟩
theorem RS_s {N : Nat} {A : Nat → Nat → Int32} {B : Nat → Nat → UInt32} {s s2 : Nat → Int32} {φ φ2 : Nat → UInt32} (h : RS N A B s φ) (hs : ∀ i, i < 592 → s2 i = s i) (hφ : ∀ i, i < 7 → φ2 i = φ i) : RS N A B s2 φ2 := RS_c h (AG_refl A B) hs hφ
theorem AG_eq {A A2 : Nat → Nat → Int32} {B B2 : Nat → Nat → UInt32} (h : ∀ k, k < 33 → A2 k = A k ∧ B2 k = B k) : AG A B A2 B2 := by
  have hA : ∀ k, k < 33 → A2 k = A k := fun k hk => (h k hk).1
  have hB : ∀ k, k < 33 → B2 k = B k := fun k hk => (h k hk).2
  unfold AG
  simp (disch := omega) only [hA, hB, implies_true, and_self, true_and, and_true]
  intro p hp
  rw [hA _ (by omega), hA _ (by omega), hB _ (by omega)]
  exact ⟨fun _ _ _ => rfl, fun _ _ => rfl, fun _ _ => rfl⟩
theorem RS_v {N : Nat} {A A2 : Nat → Nat → Int32} {B B2 : Nat → Nat → UInt32} {s : Nat → Int32} {φ : Nat → UInt32} (h : RS N A B s φ) (g : ∀ k, k < 33 → A2 k = A k ∧ B2 k = B k) : RS N A2 B2 s φ := RS_c h (AG_eq g) (fun _ _ => rfl) (fun _ _ => rfl)
theorem RS_bz {N a : Nat} {M : Mem} {s : Nat → Int32} {φ : Nat → UInt32} (h : RS N (vA M a) (vB M a) s φ) : bzb (M.1 (a + 11) 3) = true ∧ bzb (M.1 (a + 13) 3) = true := by
  obtain ⟨r, c, t, e, dt, h1, h2, h3, h4, h5, h6, h7, h8, h9⟩ := h
  have key : ∀ b, b < 2 → bzb (nI b) = true := by decide +kernel
  obtain ⟨b, hb, e1, _⟩ := h7.2.2.1
  obtain ⟨b', hb', e2, _⟩ := h8.2.2.1
  have e1' : M.1 (a + 11) 3 = nI b := e1
  have e2' : M.1 (a + 13) 3 = nI b' := e2
  rw [e1', e2']
  exact ⟨key b hb, key b' hb'⟩
def HI (q st N : Nat) (M : Mem) : Prop := st ≤ 4 ∧ M.1 100 0 = nI st ∧ M.1 235 8 = nI st ∧ HIid q M ∧
  ∀ i, i < st → RS N (vA M (hb (q + i))) (vB M (hb (q + i))) (fun j => M.1 237 (592 * (st - 1 - i) + j)) (fun j => M.2 241 (7 * (st - 1 - i) + j))
def HC (q st N : Nat) (M : Mem) (s : Nat → Int32) (φ : Nat → UInt32) : Prop := st ≤ 4 ∧ M.1 100 0 = nI (min (st + 1) 4) ∧ M.1 235 8 = nI st ∧ HIid q M ∧ RS N (vA M (hb q)) (vB M (hb q)) s φ ∧
  ∀ i, i < st → i < 3 → RS N (vA M (hb (q + 1 + i))) (vB M (hb (q + 1 + i))) (fun j => M.1 237 (592 * (st - 1 - i) + j)) (fun j => M.2 241 (7 * (st - 1 - i) + j))
/-- what the history speaks of is as it was -/
def FH (M M1 : Mem) : Prop := (∀ k, 100 ≤ k → k < 233 → M1.1 k = M.1 k ∧ M1.2 k = M.2 k) ∧ M1.1 235 8 = M.1 235 8 ∧ M1.1 237 = M.1 237 ∧ M1.2 241 = M.2 241
theorem HI_f {q st N : Nat} {M M1 : Mem} (h : HI q st N M) (g : FH M M1) : HI q st N M1 := by
  obtain ⟨h1, h2, h3, h4, h5⟩ := h
  obtain ⟨g1, g2, g3, g4⟩ := g
  refine ⟨h1, by rw [(g1 100 (by omega) (by omega)).1]; exact h2, by rw [g2]; exact h3, fun i hi => by rw [(g1 100 (by omega) (by omega)).1]; exact h4 i hi, fun i hi => ?_⟩
  rw [g3, g4]
  exact RS_v (h5 i hi) (fun k hk => by have := hb_rng (q + i); exact g1 _ (by omega) (by omega))
theorem HC_f {q st N : Nat} {M M1 : Mem} {s : Nat → Int32} {φ : Nat → UInt32} (h : HC q st N M s φ) (g : FH M M1) : HC q st N M1 s φ := by
  obtain ⟨h1, h2, h3, h4, h5, h6⟩ := h
  obtain ⟨g1, g2, g3, g4⟩ := g
  refine ⟨h1, by rw [(g1 100 (by omega) (by omega)).1]; exact h2, by rw [g2]; exact h3, fun i hi => by rw [(g1 100 (by omega) (by omega)).1]; exact h4 i hi, RS_v h5 (fun k hk => by have := hb_rng q; exact g1 _ (by omega) (by omega)), fun i hi hi3 => ?_⟩
  rw [g3, g4]
  exact RS_v (h6 i hi hi3) (fun k hk => by have := hb_rng (q + 1 + i); exact g1 _ (by omega) (by omega))
theorem HI_mono {q st N N2 : Nat} {M : Mem} (h : HI q st N M) (hN : N ≤ N2) : HI q st N2 M := ⟨h.1, h.2.1, h.2.2.1, h.2.2.2.1, fun i hi => RS_mono (h.2.2.2.2 i hi) hN⟩
theorem HC_mono {q st N N2 : Nat} {M : Mem} {s : Nat → Int32} {φ : Nat → UInt32} (h : HC q st N M s φ) (hN : N ≤ N2) : HC q st N2 M s φ := ⟨h.1, h.2.1, h.2.2.1, h.2.2.2.1, RS_mono h.2.2.2.2.1 hN, fun i hi h3 => RS_mono (h.2.2.2.2.2 i hi h3) hN⟩
theorem hb_4 (x : Nat) : hb (x + 4) = hb x := by
  unfold hb
  rw [Nat.add_mod_right]
theorem c_rec {a q st N : Nat} {M : Mem} {s : Nat → Int32} {φ : Nat → UInt32} (h : HI q st N M) (ha : a ∈ bLs) (ha2 : a < 100) (hr : RS N (vA M a) (vB M a) s φ) :
    ∃ M1, fX2_remember 100 a M = some ((), M1) ∧ HC (q + 3) st N M1 s φ ∧ ∀ k, (k < 100 ∨ 233 ≤ k) → M1.1 k = M.1 k ∧ M1.2 k = M.2 k := by
  obtain ⟨h1, h2, h3, h4, h5⟩ := h
  obtain ⟨M1, e, p1, p2, p3, p4⟩ := e_remember M ha ha2 (RS_bz hr) h4 h2 h1
  have rg := hb_rng (q + 3)
  refine ⟨M1, e, ⟨h1, p1, by rw [(p4 235 (by omega) (by omega)).1]; exact h3, p2, RS_c hr p3 (fun _ _ => rfl) (fun _ _ => rfl), fun i hi hi3 => ?_⟩, fun k hk => p4 k (by omega) (by omega)⟩
  rw [(p4 237 (by omega) (by omega)).1, (p4 241 (by omega) (by omega)).2]
  have e1 : q + 3 + 1 + i = q + i + 4 := by omega
  rw [e1, hb_4]
  refine RS_v (h5 i hi) (fun k hk => p4 _ ?_ ?_)
  · have := hb_rng (q + i)
    omega
  · unfold hb
    omega
theorem HI_mk {q st st2 N : Nat} {M M2 : Mem} {s : Nat → Int32} {φ : Nat → UInt32} (h : HC q st N M s φ) (a : ∀ k, 100 ≤ k → k < 233 → M2.1 k = M.1 k ∧ M2.2 k = M.2 k) (b : M2.1 235 8 = nI st2) (c : st2 = min (st + 1) 4)
    (d : ∀ j, j < 592 → M2.1 237 (592 * (st2 - 1) + j) = s j) (d2 : ∀ j, j < 7 → M2.2 241 (7 * (st2 - 1) + j) = φ j)
    (e : ∀ i, i < st → i < 3 → ∀ j, j < 592 → M2.1 237 (592 * (st2 - 1 - (i + 1)) + j) = M.1 237 (592 * (st - 1 - i) + j)) (e2 : ∀ i, i < st → i < 3 → ∀ j, j < 7 → M2.2 241 (7 * (st2 - 1 - (i + 1)) + j) = M.2 241 (7 * (st - 1 - i) + j)) : HI q st2 N M2 := by
  obtain ⟨h1, h2, h3, h4, h5, h6⟩ := h
  refine ⟨by omega, by rw [(a 100 (by omega) (by omega)).1, c]; exact h2, b, fun i hi => by rw [(a 100 (by omega) (by omega)).1]; exact h4 i hi, fun i hi => ?_⟩
  rcases i with _ | i
  · exact RS_s (RS_v h5 (fun k hk => a _ (by have := hb_rng q; show 100 ≤ hb q + k; omega) (by have := hb_rng q; show hb q + k < 233; omega))) d d2
  · have e1 : q + (i + 1) = q + 1 + i := by omega
    rw [e1]
    exact RS_s (RS_v (h6 i (by omega) (by omega)) (fun k hk => by have := hb_rng (q + 1 + i); exact a _ (by omega) (by omega))) (e i (by omega) (by omega)) (e2 i (by omega) (by omega))
theorem cpo_in {α : Type} {g f : Nat → α} {off n j : Nat} (h : j < n) : cpo g f off n (off + j) = f j := by
  unfold cpo
  rw [if_pos (by omega)]
  exact congrArg f (by omega)
theorem cpo_out {α : Type} {g f : Nat → α} {off n j : Nat} (h : j < off) : cpo g f off n j = g j := by
  unfold cpo
  rw [if_neg (by omega)]
