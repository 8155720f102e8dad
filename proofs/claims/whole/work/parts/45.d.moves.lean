/-! PURE: the moves of a script, on both sides -/
def FP (M M1 : Mem) : Prop := (∀ k, k ≠ 235 → M1.1 k = M.1 k) ∧ (∀ j, j < 12 → M1.1 235 j = M.1 235 j) ∧ M1.2 = M.2
theorem FP_refl (M : Mem) : FP M M := ⟨fun _ _ => rfl, fun _ _ => rfl, rfl⟩
theorem FP_trans {M M1 M2 : Mem} (h : FP M M1) (g : FP M1 M2) : FP M M2 := ⟨fun k hk => by rw [g.1 k hk, h.1 k hk], fun j hj => by rw [g.2.1 j hj, h.2.1 j hj], by rw [g.2.2, h.2.2]⟩
theorem FP_w {M : Mem} {x : Int32} : FP M (w1 M 235 12 x) := ⟨fun k hk => w1_o hk, fun j hj => w1_ne (by omega), rfl⟩
theorem FP_D {M M1 : Mem} (h : FD M M1) : FP M M1 := ⟨h.1, fun j hj => h.2.1 j (by omega) (by omega), h.2.2⟩
theorem TR_f {L : Nat} {ch : Nat → Nat} {M M1 : Mem} (T : TR L ch M) (h : FP M M1) : TR L ch M1 := ⟨by rw [h.2.1 11 (by omega)]; exact T.1, fun j hj => by rw [h.1 244 (by decide)]; exact T.2 j hj⟩
theorem TC_f {L : Nat} {ch : Nat → Nat} {M M1 : Mem} (T : TC L ch M) (h : FC M M1) : TC L ch M1 := ⟨by rw [(h 233 (by omega)).1]; exact T.1, fun j hj => by rw [(h 234 (by omega)).1]; exact T.2 j hj⟩
section MOVES
variable {r c L p : Nat} {ch : Nat → Nat} {M : Mem}
theorem perf36 {k1 k2 : Int32 → Mem → Option (Int32 × Mem)} {rec : Int32 × Int32 × Int32 → Mem → Option (Int32 × Mem)} {z f a : Int32} : FX8_perform_36 0 k1 k2 rec (z, f, a) M = if M.1 233 0 < a then k1 z M else cal (fX3_isMoveEnd 233 a M) (fun v1 M2 => if v1 = 0 then rec (z, f, a + 1) M2 else cal (fX8_move 0 f a M2) (fun v6 M7 => if 0 ≤ v6 then rec (z + v6, a + 1, a + 1) M7 else k2 v6 M7)) := by
  unfold FX8_perform_36
  simp only [jn_x, Nat.reduceAdd]
theorem e_end1 (hL : L ≤ 60) (hch : ∀ j, j < L → ch j < 65536) (T : TC L ch M) {a : Nat} (ha : a = L ∨ (a < L ∧ ch a = 59)) : fX3_isMoveEnd 233 (nI a) M = some (nI 1, M) := by
  unfold fX3_isMoveEnd
  rw [jn_x, T.1]
  rcases ha with rfl | ⟨h1, h2⟩
  · rw [if_pos rfl]
    rfl
  · rw [if_neg (by rw [nI_eq (by omega) (by omega)]; omega), c_char hL hch T h1, cal_x, h2, if_pos (show nI 59 = 59 from rfl)]
    rfl
theorem e_end0 (hL : L ≤ 60) (hch : ∀ j, j < L → ch j < 65536) (T : TC L ch M) {a : Nat} (h1 : a < L) (h2 : ¬ ch a = 59) : fX3_isMoveEnd 233 (nI a) M = some (nI 0, M) := by
  have := hch a h1
  unfold fX3_isMoveEnd
  rw [jn_x, T.1, if_neg (by rw [nI_eq (by omega) (by omega)]; omega), c_char hL hch T h1, cal_x, if_neg (show ¬ nI (ch a) = 59 by rw [show (59 : Int32) = nI 59 from rfl, nI_eq (by omega) (by decide)]; exact h2)]
  rfl
theorem c_skip (hL : L ≤ 60) (hch : ∀ j, j < L → ch j < 65536) (T : TC L ch M) {k1 k2 : Int32 → Mem → Option (Int32 × Mem)} {z f : Int32} {e : Nat} (he : e ≤ L) : ∀ (m a fuel : Nat), a + m = e → (∀ j, a ≤ j → j < e → ¬ ch j = 59) → m < fuel →
    ∃ k, k + m = fuel ∧ lp (FX8_perform_36 0 k1 k2) fuel (z, f, nI a) M = lp (FX8_perform_36 0 k1 k2) k (z, f, nI e) M := by
  intro m
  induction m with
  | zero =>
    intro a fuel ha _ _
    have : a = e := by omega
    subst this
    exact ⟨fuel, rfl, rfl⟩
  | succ m ih =>
    intro a fuel ha h59 hfu
    obtain ⟨k, hk1, hk, el⟩ := lp_1 (F := FX8_perform_36 0 k1 k2) hfu
    obtain ⟨k', h1, h2⟩ := ih (a + 1) k (by omega) (fun j h1 h2 => h59 j (by omega) h2) (by omega)
    refine ⟨k', by omega, ?_⟩
    rw [el, perf36, T.1, if_neg (by rw [nI_ltI (by omega) (by omega)]; omega), e_end0 hL hch T (by omega) (h59 a (by omega) (by omega)), cal_x, if_pos (show nI 0 = 0 from rfl), show nI a + 1 = nI (a + 1) from nI_add a 1, h2]
theorem no59 (hp : p < L) (hm : mvT L ch p ∨ mvK L ch p) : ∀ j, p ≤ j → j < mvE L ch p → ¬ ch j = 59 := by
  have num : ∀ q, q < L → isD (ch q) = true → ∀ j, q ≤ j → j < numE L ch q → ¬ ch j = 59 := fun q hq hd j h1 h2 => by
    have d := isD_iff.mp hd
    by_cases hj : j = q
    · subst hj
      omega
    · unfold numE at h2
      split at h2
      · omega
      · split at h2
        · rename_i g
          have d2 := isD_iff.mp g.2
          have : j = q + 1 := by omega
          subst this
          omega
        · omega
  intro j h1 h2
  unfold mvE at h2
  rcases hm with g | g
  · have g1 := g.1
    rw [if_pos g1] at h2
    by_cases hj : j = p
    · subst hj
      omega
    · exact num (p + 1) g.2.1 g.2.2.1 j (by omega) h2
  · have h16 : ¬ ch p = 116 := by rcases g.1 with g | g <;> omega
    rw [if_neg h16] at h2
    by_cases hj : j = p
    · subst hj
      rcases g.1 with g | g <;> omega
    · by_cases hj1 : j = p + 1
      · subst hj1
        rcases g.2.2.1 with g | g <;> omega
      · exact num (p + 2) g.2.1 g.2.2.2 j (by omega) h2
theorem j_moves (hL : L ≤ 60) (hch : ∀ j, j < L → ch j < 65536) : ∀ (n p z t e dt N : Nat) (M : Mem) (s : Nat → Int32) (φ : Nat → UInt32), L - p ≤ n → p ≤ L → scan ch (L - p) 0 p = none → CV r c t e dt N M s φ → TC L ch M → N + 430 * (L + 1 - p) + 5000 < 2 ^ 24 → z ≤ 16777216 * p →
    ∃ (x : Int32) (ok : Bool) (M1 : Mem) (s1 : Nat → Int32) (φ1 : Nat → UInt32), FC M M1 ∧
      (∀ (k1 k2 : Int32 → Mem → Option (Int32 × Mem)) (Q : Int32 → Mem → Prop) (fuel : Nat), L + 2 ≤ fuel + p → (ok = true → wp (k1 x M1) Q) → (ok = false → wp (k2 x M1) Q) → wp (lp (FX8_perform_36 0 k1 k2) fuel (nI z, nI p, nI p) M) Q) ∧
      (∀ (Mr : Mem) (fuel : Nat), n + 2 ≤ fuel → TR L ch Mr → Mr.1 235 12 = nI p → wp (lp (FX9_moves_9 235 (nI 1) K9) fuel (nI z, nI 1) (put Mr s φ)) (fun v M5 => v = x ∧ ∃ M6, FP Mr M6 ∧ M5 = put M6 s1 φ1)) ∧
      (ok = true → (0 : Int32) ≤ x ∧ ∃ t1 e1 dt1, CV r c t1 e1 dt1 (N + 430 * (L + 1 - p)) M1 s1 φ1) ∧ (ok = false → ¬ (0 : Int32) ≤ x) := by
  intro n
  induction n with
  | zero =>
    intro p z t e dt N M s φ h1 h2 hsc _ _ _ _
    have : p = L := by omega
    subst this
    rw [Nat.sub_self, scan_0, if_neg (by omega)] at hsc
    cases hsc
  | succ n ih =>
    intro p z t e dt N M s φ h1 h2 hsc H T hN hz
    obtain ⟨hm, hlt, g⟩ : (mvT L ch p ∨ mvK L ch p) ∧ p < L ∧ scan ch (L - p) 0 p = fin1 L ch (mvE L ch p) := by
      rcases scan_mv (ch := ch) h2 with h | ⟨_, g⟩
      · exact h
      · rw [g] at hsc
        cases hsc
    rw [g] at hsc
    obtain ⟨b1, b2⟩ := mvE_b hlt hm
    obtain ⟨x, M2, s2, φ2, F2, C2, R2, hx⟩ := j_move hL hch H T (by omega) hlt hm
    have h59 := no59 hlt hm
    have T2 := TC_f T F2
    -- what the class does up to the end of this move
    have cls : ∀ (k1 k2 : Int32 → Mem → Option (Int32 × Mem)) (fuel : Nat), L + 2 ≤ fuel + p → ∃ k, L + 1 ≤ k + mvE L ch p ∧ lp (FX8_perform_36 0 k1 k2) fuel (nI z, nI p, nI p) M = if 0 ≤ x then lp (FX8_perform_36 0 k1 k2) k (nI z + x, nI (mvE L ch p + 1), nI (mvE L ch p + 1)) M2 else k2 x M2 := fun k1 k2 fuel hfu => by
      obtain ⟨k, hk, el⟩ := c_skip (k1 := k1) (k2 := k2) (z := nI z) (f := nI p) hL hch T b2 (mvE L ch p - p) p fuel (by omega) h59 (by omega)
      obtain ⟨k', hk', hk2, el2⟩ := lp_1 (F := FX8_perform_36 0 k1 k2) (show 0 < k by omega)
      refine ⟨k', by omega, ?_⟩
      have hend : mvE L ch p = L ∨ (mvE L ch p < L ∧ ch (mvE L ch p) = 59) := by
        unfold fin1 at hsc
        by_cases hE : mvE L ch p = L
        · exact .inl hE
        · right
          rw [if_neg hE] at hsc
          refine ⟨by omega, ?_⟩
          by_cases h : ch (mvE L ch p) = 59
          · exact h
          · rw [if_neg h] at hsc
            cases hsc
      rw [el, el2, perf36, T.1, if_neg (by rw [nI_ltI (by omega) (by omega)]; omega), e_end1 hL hch T hend, cal_x, if_neg (show ¬ nI 1 = 0 from n10), C2, cal_x, show nI (mvE L ch p) + 1 = nI (mvE L ch p + 1) from nI_add _ 1]
    rcases hx with ⟨zz, t2, e2, dt2, rfl, hzz, H2⟩ | hx
    · have x0 : (0 : Int32) ≤ nI zz := nI0_le (by omega)
      have zs : nI z + nI zz = nI (z + zz) := nI_add z zz
      by_cases hE : mvE L ch p = L
      · refine ⟨nI (z + zz), true, M2, s2, φ2, F2, fun k1 k2 Q fuel hfu q1 _ => ?_, fun Mr fuel hfu TRr hpr => ?_, fun _ => ⟨nI0_le (by omega), t2, e2, dt2, ?_⟩, fun h => Bool.noConfusion h⟩
        · obtain ⟨k, hk, el⟩ := cls k1 k2 fuel hfu
          obtain ⟨k', _, _, el2⟩ := lp_1 (F := FX8_perform_36 0 k1 k2) (show 0 < k by omega)
          rw [el, if_pos x0, zs, el2, perf36, T2.1, if_pos (by rw [nI_ltI (by omega) (by omega)]; omega)]
          exact q1 rfl
        · obtain ⟨k, _, hk, el⟩ := lp_1 (F := FX9_moves_9 235 (nI 1) K9) (show 2 < fuel by omega)
          obtain ⟨k', _, hk', el'⟩ := lp_1 (F := FX9_moves_9 235 (nI 1) K9) (show 1 < k by omega)
          rw [el, moves9, if_neg (show ¬ nI 1 = 0 from n10), wp_cal]
          refine wp_mono (R2 Mr TRr hpr) (fun v M5 ⟨ev, M6, fd, e5⟩ => ?_)
          subst ev e5
          have p6 : M6.1 235 12 = nI (mvE L ch p) := by rw [fd.2.1 12 (by omega) (by omega), w1_eq ⟨rfl, rfl⟩]
          have T6 := TR_f TRr (FP_trans FP_w (FP_D fd))
          have p6' : (put M6 s2 φ2).1 235 12 = nI (mvE L ch p) := by rw [put_1 (by decide)]; exact p6
          rw [if_pos x0, show fX9_sees 235 59 59 (put M6 s2 φ2) = _ from r_sees0 (a := 59) (b := 59) hL hch (TR_put T6) p6' (by omega) (by omega) (by omega) (fun q => by omega), cal_x, if_pos (show nI 0 = 0 from rfl), p6', show nI (mvE L ch p) + 0 = nI (mvE L ch p) from nI_add _ 0, zs, put_w1o (by decide), el', moves9, if_pos (show nI 0 = 0 from rfl), K9_eq hL (TR_put (TR_w T6)) (by rw [put_1 (by decide)]; exact w1_eq ⟨rfl, rfl⟩) b2, if_pos hE, wp_some]
          exact ⟨rfl, _, FP_trans (FP_trans FP_w (FP_D fd)) FP_w, rfl⟩
        · rw [hE] at H2
          exact H2
      · have hsc2 : ch (mvE L ch p) = 59 ∧ scan ch (L - (mvE L ch p + 1)) 0 (mvE L ch p + 1) = none := by
          unfold fin1 at hsc
          rw [if_neg hE] at hsc
          by_cases h : ch (mvE L ch p) = 59
          · rw [if_pos h] at hsc
            exact ⟨h, hsc⟩
          · rw [if_neg h] at hsc
            cases hsc
        obtain ⟨x1, ok, M1, s1, φ1, F1, C1, R1, G1, G2⟩ := ih (mvE L ch p + 1) (z + zz) t2 e2 dt2 (N + 430 * (mvE L ch p + 1 - p)) M2 s2 φ2 (by omega) (by omega) hsc2.2 H2 T2 (by omega) (by omega)
        refine ⟨x1, ok, M1, s1, φ1, FC_trans F2 F1, fun k1 k2 Q fuel hfu q1 q2 => ?_, fun Mr fuel hfu TRr hpr => ?_, fun h => ⟨(G1 h).1, ?_⟩, G2⟩
        · obtain ⟨k, hk, el⟩ := cls k1 k2 fuel hfu
          rw [el, if_pos x0, zs]
          exact C1 k1 k2 Q k (by omega) q1 q2
        · obtain ⟨k, _, hk, el⟩ := lp_1 (F := FX9_moves_9 235 (nI 1) K9) (show n + 2 < fuel by omega)
          rw [el, moves9, if_neg (show ¬ nI 1 = 0 from n10), wp_cal]
          refine wp_mono (R2 Mr TRr hpr) (fun v M5 ⟨ev, M6, fd, e5⟩ => ?_)
          subst ev e5
          have p6 : M6.1 235 12 = nI (mvE L ch p) := by rw [fd.2.1 12 (by omega) (by omega), w1_eq ⟨rfl, rfl⟩]
          have T6 := TR_f TRr (FP_trans FP_w (FP_D fd))
          have p6' : (put M6 s2 φ2).1 235 12 = nI (mvE L ch p) := by rw [put_1 (by decide)]; exact p6
          rw [if_pos x0, show fX9_sees 235 59 59 (put M6 s2 φ2) = _ from r_sees1 (a := 59) (b := 59) hL hch (TR_put T6) p6' (by omega) ⟨by omega, by omega, by omega⟩, cal_x, if_neg (show ¬ nI 1 = 0 from n10), p6', show nI (mvE L ch p) + 1 = nI (mvE L ch p + 1) from nI_add _ 1, zs, put_w1o (by decide)]
          refine wp_mono (R1 _ k (by omega) (TR_w T6) (w1_eq ⟨rfl, rfl⟩)) (fun v M7 ⟨ev, M8, fp, e7⟩ => ?_)
          exact ⟨ev, M8, FP_trans (FP_trans (FP_trans FP_w (FP_D fd)) FP_w) fp, e7⟩
        · obtain ⟨t1, e1, dt1, H1⟩ := (G1 h).2
          exact ⟨t1, e1, dt1, H1.mono (by omega)⟩
    · have hx0 : ¬ (0 : Int32) ≤ x := by rcases hx with rfl | rfl | rfl <;> decide
      refine ⟨x, false, M2, s2, φ2, F2, fun k1 k2 Q fuel hfu _ q2 => ?_, fun Mr fuel hfu TRr hpr => ?_, fun h => Bool.noConfusion h, fun _ => hx0⟩
      · obtain ⟨k, hk, el⟩ := cls k1 k2 fuel hfu
        rw [el, if_neg hx0]
        exact q2 rfl
      · obtain ⟨k, _, hk, el⟩ := lp_1 (F := FX9_moves_9 235 (nI 1) K9) (show 2 < fuel by omega)
        rw [el, moves9, if_neg (show ¬ nI 1 = 0 from n10), wp_cal]
        refine wp_mono (R2 Mr TRr hpr) (fun v M5 ⟨ev, M6, fd, e5⟩ => ?_)
        subst ev e5
        rw [if_neg hx0, wp_some]
        exact ⟨rfl, M6, FP_trans FP_w (FP_D fd), rfl⟩
end MOVES
theorem scan_le {ch : Nat → Nat} : ∀ (n pl p i : Nat), scan ch n pl p = some i → i ≤ p + n := by
  intro n
  induction n with
  | zero =>
    intro pl p i h
    rw [scan_0] at h
    split at h
    · cases h
    · injection h with h
      omega
  | succ n ih =>
    intro pl p i h
    rcases g : pa pl (ch p) with _ | q
    · rw [scan_n g] at h
      injection h with h
      omega
    · rw [scan_s g] at h
      have := ih q (p + 1) i h
      omega
