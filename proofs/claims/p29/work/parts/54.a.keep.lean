/-! PURE: what more is known is kept -/
section KEEP
variable {n e dt T t m w k u d q p cr ri sg : Nat} {s s2 : Nat → Int32} {φ φ2 : Nat → UInt32} {h : Int32} {tb : Bool}
theorem rwC_o {i : Nat} (hw : w < 2) (h1 : i ≠ 10 + w) (h2 : i ≠ 12 + w) : rwC w h s i = s i := by
  unfold rwC
  rw [if_neg (by omega), upd_ne h2, upd_ne h1]
theorem rwG_o {i : Nat} (h1 : i ≠ 17 + w) (h2 : ¬ (544 + 24 * w ≤ i ∧ i < 568 + 24 * w)) : rwG n w k q s i = s i := by
  have hl := Nat.mod_lt (s (17 + w)).toNatClampNeg (show 0 < 24 by decide)
  unfold rwG
  split
  · split
    · rfl
    · rw [upd_ne h1, upd_ne (by omega)]
  · rfl
theorem fin_o {i : Nat} (hw : w < 2) (h0 : i ≠ 3 + w) (h1 : i ≠ 10 + w) (h2 : i ≠ 12 + w) (h3 : i ≠ 17 + w) (h4 : ¬ (544 + 24 * w ≤ i ∧ i < 568 + 24 * w)) : finS n w k u q h tb s i = s i := by
  unfold finS
  rw [if_neg (by omega), rwG_o h3 h4]
  split
  · rw [upd_ne h0, rwC_o hw h1 h2]
  · rw [rwC_o hw h1 h2]
theorem fin_2 {i : Nat} (h1 : i ≠ 14) (h2 : i ≠ 15) : finS n 2 k u q h tb s i = s i := by
  unfold finS
  rw [if_pos rfl]
  unfold rwC
  rw [if_pos rfl, upd_ne h2, upd_ne h1]
theorem fin_lo {i : Nat} (hw : w < 3) (h1 : i = 5 ∨ i = 6 ∨ i = 2) : finS n w k u q h tb s i = s i := by
  by_cases h2 : w = 2
  · subst h2
    exact fin_2 (by omega) (by omega)
  · exact fin_o (by omega) (by omega) (by omega) (by omega) (by omega) (by omega)
theorem XT_g (X : XT p cr ri sg s) (a : s2 (10 + p) = s (10 + p)) (b : s2 (12 + p) = s (12 + p)) (c : s2 (17 + p) = s (17 + p)) (d : ∀ j, j < 24 → s2 (544 + 24 * p + j) = s (544 + 24 * p + j)) : XT p cr ri sg s2 := by
  obtain ⟨h1, h2, h3, h4, h5, h6⟩ := X
  refine ⟨a.trans h1, b.trans h2, c.trans h3, h4, h5, fun j hj hj2 => ?_⟩
  rw [d j hj]
  exact h6 j hj hj2
theorem lett_of {x : Int32} (h1 : sgn x) (h2 : ¬ x = nI 46) (b : Bool) : lett (x - (if b = true then nI 32 else nI 0)) := by
  obtain ⟨v, rfl, hv⟩ := h1
  have hv : 97 ≤ v ∧ v ≤ 122 := by
    rcases hv with rfl | hv
    · exact absurd rfl h2
    · exact hv
  cases b
  · rw [if_neg (by decide), nI_sub (by omega)]
    exact ⟨v - 0, rfl, .inl (by omega)⟩
  · rw [if_pos rfl, nI_sub (by omega)]
    exact ⟨v - 32, rfl, .inr (by omega)⟩
theorem XT_fin (X : XT w cr ri sg s) (hw : w < 2) (hcr : cr < 2 ^ 30) (hK : XK n s) (hn : n ≤ 48) : ∃ ri2 sg2, XT w (cr + 1) ri2 sg2 (finS n w k u q h tb s) := by
  obtain ⟨h1, h2, h3, h4, h5, h6⟩ := X
  have e10 : finS n w k u q h tb s (10 + w) = nI (cr + 1) := by
    unfold finS
    rw [if_neg (by omega), rwG_o (by omega) (by omega)]
    have : rwC w h s (10 + w) = nI (cr + 1) := by
      unfold rwC
      rw [if_neg (by omega), upd_ne (by omega), upd_eq rfl, h1, nI_add]
    split
    · rw [upd_ne (by omega), this]
    · exact this
  have e12 : ∃ ri2, ri2 ≤ cr + 1 ∧ finS n w k u q h tb s (12 + w) = nI ri2 := by
    unfold finS
    rw [if_neg (by omega), rwG_o (by omega) (by omega)]
    have : ∃ ri2, ri2 ≤ cr + 1 ∧ rwC w h s (12 + w) = nI ri2 := by
      unfold rwC
      rw [if_neg (by omega), upd_eq rfl, h2]
      split
      · exact ⟨ri + 1, by omega, nI_add _ _⟩
      · exact ⟨ri + 0, by omega, nI_add _ _⟩
    split
    · rw [upd_ne (by omega)]
      exact this
    · exact this
  obtain ⟨ri2, hri, er⟩ := e12
  have es : ∀ i, i ≠ 3 + w → i ≠ 10 + w → i ≠ 12 + w → (if tb = true then upd (rwC w h s) (3 + w) (nI u) else rwC w h s) i = s i := fun i a b c => by
    split
    · rw [upd_ne a, rwC_o hw b c]
    · rw [rwC_o hw b c]
  have ef : finS n w k u q h tb s = rwG n w k q (if tb = true then upd (rwC w h s) (3 + w) (nI u) else rwC w h s) := by
    unfold finS
    rw [if_neg (by omega)]
  generalize (if tb = true then upd (rwC w h s) (3 + w) (nI u) else rwC w h s) = s1 at *
  have hl := Nat.mod_lt sg (show 0 < 24 by decide)
  have y17 : s1 (17 + w) = nI sg := by rw [es _ (by omega) (by omega) (by omega), h3]
  have same : rwG n w k q s1 = s1 → ∃ ri2 sg2, XT w (cr + 1) ri2 sg2 (finS n w k u q h tb s) := fun hs1 => by
    refine ⟨ri2, sg, e10, er, ?_, hri, by omega, fun j hj hj2 => ?_⟩
    · rw [ef, hs1, y17]
    · rw [ef, hs1, es _ (by omega) (by omega) (by omega)]
      exact h6 j hj hj2
  by_cases hk : k < n
  · by_cases h46 : s1 (260 + k) = nI 46
    · exact same (by unfold rwG; rw [if_pos hk, if_pos h46])
    · have eg : finS n w k u q h tb s = upd (upd s1 (544 + 24 * w + sg % 24) (s1 (260 + k) - (if capB s1 w q = true then nI 32 else nI 0))) (17 + w) (nI (sg + 1)) := by
        rw [ef]
        unfold rwG
        rw [if_pos hk, if_neg h46, y17, nI_clamp (by omega)]
      have e26 : s1 (260 + k) = s (260 + k) := es _ (by omega) (by omega) (by omega)
      refine ⟨ri2, sg + 1, e10, er, ?_, hri, by omega, fun j hj hj2 => ?_⟩
      · rw [eg, upd_eq rfl]
      · rw [eg, upd_ne (by omega)]
        by_cases hj3 : j = sg % 24
        · subst hj3
          rw [upd_eq rfl]
          rw [e26] at h46 ⊢
          exact lett_of (hK.1 k hk) h46 _
        · rw [upd_ne (by omega), es _ (by omega) (by omega) (by omega)]
          refine h6 j hj ?_
          by_cases h24 : sg < 24
          · rw [Nat.mod_eq_of_lt h24] at hj3
            omega
          · omega
  · exact same (by unfold rwG; rw [if_neg hk])
theorem XN_fin (X : XN m s) (hw : w < 3) (hm : m < 2 ^ 30) (hK : XK n s) (hn : n ≤ 48) : XN (m + 1) (finS n w k u q h tb s) := by
  obtain ⟨c0, r0, g0, c1, r1, g1, g, gb, t0, t1, g14, g15, hgb, hme⟩ := X
  rcases (show w = 0 ∨ w = 1 ∨ w = 2 by omega) with rfl | rfl | rfl
  · obtain ⟨ri2, sg2, hT⟩ := XT_fin (k := k) (u := u) (q := q) (h := h) (tb := tb) t0 (by omega) (by omega) hK hn
    refine ⟨c0 + 1, ri2, sg2, c1, r1, g1, g, gb, hT, XT_g t1 ?_ ?_ ?_ (fun j hj => ?_), ?_, ?_, hgb, by omega⟩
    · exact fin_o (by omega) (by omega) (by omega) (by omega) (by omega) (by omega)
    · exact fin_o (by omega) (by omega) (by omega) (by omega) (by omega) (by omega)
    · exact fin_o (by omega) (by omega) (by omega) (by omega) (by omega) (by omega)
    · exact fin_o (by omega) (by omega) (by omega) (by omega) (by omega) (by omega)
    · rw [fin_o (by omega) (by omega) (by omega) (by omega) (by omega) (by omega), g14]
    · rw [fin_o (by omega) (by omega) (by omega) (by omega) (by omega) (by omega), g15]
  · obtain ⟨ri2, sg2, hT⟩ := XT_fin (k := k) (u := u) (q := q) (h := h) (tb := tb) t1 (by omega) (by omega) hK hn
    refine ⟨c0, r0, g0, c1 + 1, ri2, sg2, g, gb, XT_g t0 ?_ ?_ ?_ (fun j hj => ?_), hT, ?_, ?_, hgb, by omega⟩
    · exact fin_o (by omega) (by omega) (by omega) (by omega) (by omega) (by omega)
    · exact fin_o (by omega) (by omega) (by omega) (by omega) (by omega) (by omega)
    · exact fin_o (by omega) (by omega) (by omega) (by omega) (by omega) (by omega)
    · exact fin_o (by omega) (by omega) (by omega) (by omega) (by omega) (by omega)
    · rw [fin_o (by omega) (by omega) (by omega) (by omega) (by omega) (by omega), g14]
    · rw [fin_o (by omega) (by omega) (by omega) (by omega) (by omega) (by omega), g15]
  · have e14 : finS n 2 k u q h tb s 14 = nI (g + 1) := by
      unfold finS rwC
      rw [if_pos rfl, if_pos rfl, upd_ne (by omega), upd_eq rfl, g14, nI_add]
    have e15 : ∃ gb2, gb2 ≤ g + 1 ∧ finS n 2 k u q h tb s 15 = nI gb2 := by
      unfold finS rwC
      rw [if_pos rfl, if_pos rfl, upd_eq rfl, g15]
      split
      · exact ⟨gb + 1, by omega, nI_add _ _⟩
      · exact ⟨gb + 0, by omega, nI_add _ _⟩
    obtain ⟨gb2, hg2, e15⟩ := e15
    refine ⟨c0, r0, g0, c1, r1, g1, g + 1, gb2, XT_g t0 ?_ ?_ ?_ (fun j hj => ?_), XT_g t1 ?_ ?_ ?_ (fun j hj => ?_), e14, e15, hg2, by omega⟩ <;> exact fin_2 (by omega) (by omega)
theorem XS_fin (X : XS φ) (hw : w < 3) : XS (finF w u d h tb s φ) := by
  have key : ∀ i, 4 ≤ i → finF w u d h tb s φ i = φ i := fun i hi => by
    unfold finF
    by_cases h2 : w = 2
    · rw [if_pos h2]
    · rw [if_neg h2]
      cases tb
      · rfl
      · rw [if_pos rfl]
        unfold lrF
        split
        · rw [vfu_ne (by omega)]
        · rw [vfu_ne (by omega), vfu_ne (by omega)]
  exact ⟨(key 4 (by omega)).trans X.1, (key 5 (by omega)).trans X.2.1, (key 6 (by omega)).trans X.2.2⟩
theorem XK_fin (X : XK n s) (hw : w < 3) (hn : n ≤ 48) : XK n (finS n w k u q h tb s) := XK_f X (fun i hi => by
  by_cases h5 : i = 5 ∨ i = 6
  · exact fin_lo hw (by omega)
  · exact fin_hi hw (by omega) (by omega))
theorem XE_end (X : XE e (t + 1) s) (hw : w < 4) (hq : q < 4) (hut : u + d = t) : XE (e + 1) (t + 1) (rwE s e k u d w h (nI q)) := by
  obtain ⟨E, h1, h2, h3⟩ := X
  refine ⟨fun i => if i < e then E i else t, fun i hi => ?_, fun i hi => ?_, fun i hi hi2 => ?_⟩
  · dsimp only
    by_cases hie : i < e
    · rw [if_pos hie]
      exact h1 i hie
    · rw [if_neg hie]
      omega
  · dsimp only
    rw [if_pos (show i < e by omega)]
    by_cases hie : i + 1 < e
    · rw [if_pos hie]
      exact h2 i hie
    · rw [if_neg hie]
      have := h1 i (by omega)
      omega
  · by_cases hie : i = e
    · subst hie
      obtain ⟨b0, b1, b2, b3, b4, b5⟩ := rwE_in (s := s) (e := i) (k := k) (u := u) (d := d) (w := w) (h := h) (q := nI q)
      exact ⟨u, d, w, q, b1, b2, b3, b5, hw, hq, by dsimp only; rw [if_neg (by omega)]; exact hut⟩
    · have h16 : i % 16 ≠ e % 16 := by omega
      have := rwE_e (s := s) (k := k) (u := u) (d := d) (w := w) (h := h) (q := nI q) h16
      dsimp only
      rw [this 1 (by omega), this 2 (by omega), this 3 (by omega), this 5 (by omega), if_pos (show i < e by omega)]
      exact h3 i (by omega) (by omega)
/-- a stroke ends: it is accounted for -/
theorem EX_end (X : EX n e dt (t + 1) s φ) (hn : n ≤ 48) (hdt : dt ≤ 20) (he : e < 2 ^ 24) (hk : k < 48) (hw : w < 3) (hq : q < 4) (hut : u + d = t) :
    EX n (e + 1) dt (t + 1) (lose k (finS n w k u q h tb (rwE s e k u d w h (nI q)))) (finF w u d h tb (rwE s e k u d w h (nI q)) φ) := by
  obtain ⟨h1, ⟨m, h2, h3⟩, h4, h5⟩ := X
  have K1 : XK n (rwE s e k u d w h (nI q)) := XK_f h1 (fun i hi => rwE_o (by omega) (by omega))
  have N1 : XN m (rwE s e k u d w h (nI q)) := XN_f h2 (fun i hi => rwE_o (by omega) (by omega))
  have N2 := XN_fin (k := k) (u := u) (q := q) (h := h) (tb := tb) N1 hw (by omega) K1 hn
  have K2 := XK_fin (k := k) (u := u) (q := q) (h := h) (tb := tb) K1 hw hn
  have E1 := XE_end (k := k) (h := h) h4 (show w < 4 by omega) hq hut
  have E2 : XE (e + 1) (t + 1) (finS n w k u q h tb (rwE s e k u d w h (nI q))) := XE_f E1 (fun i hi => fin_hi hw (by omega) (by omega))
  have O2 : opn dt (finS n w k u q h tb (rwE s e k u d w h (nI q))) = opn dt s := opn_f hdt (fun i hi => by rw [fin_hi hw (by omega) (by omega), rwE_o (by omega) (by omega)])
  generalize finS n w k u q h tb (rwE s e k u d w h (nI q)) = s3 at *
  refine ⟨XK_f K2 (fun i hi => lose_o (by omega) (by omega)), ⟨m + 1, XN_f N2 (fun i hi => lose_o (by omega) (by omega)), ?_⟩, XE_f E2 (fun i hi => lose_o (by omega) (by omega)), XS_fin h5 hw⟩
  rw [opn_f hdt (fun i hi => lose_o (by omega) (by omega)), O2]
  omega
theorem EX_endD (X : EX n e dt (t + 1) s φ) (hn : n ≤ 48) (hdt : dt < 20) (hk : k < 48) (hq : q < 4) (hut : u + d = t) :
    EX n (e + 1) (dt + 1) (t + 1) (lose k (rwD (rwE s e k u d 3 h (nI q)) dt e)) φ := by
  obtain ⟨h1, ⟨m, h2, h3⟩, h4, h5⟩ := X
  have K1 : XK n (rwE s e k u d 3 h (nI q)) := XK_f h1 (fun i hi => rwE_o (by omega) (by omega))
  have N1 : XN m (rwE s e k u d 3 h (nI q)) := XN_f h2 (fun i hi => rwE_o (by omega) (by omega))
  have E1 := XE_end (k := k) (h := h) h4 (show 3 < 4 by omega) hq hut
  have O1 : opn dt (rwE s e k u d 3 h (nI q)) = opn dt s := opn_f (by omega) (fun i hi => rwE_o (by omega) (by omega))
  generalize rwE s e k u d 3 h (nI q) = s1 at *
  have N2 : XN m (rwD s1 dt e) := by
    obtain ⟨c0, r0, g0, c1, r1, g1, g, gb, t0, t1, g14, g15, hgb, hme⟩ := N1
    have z : ∀ i, (i < 16 ∨ i = 17 ∨ i = 18 ∨ 544 ≤ i) → rwD s1 dt e i = s1 i := fun i hi => rwD_o (by omega) (by omega)
    exact ⟨c0, r0, g0, c1, r1, g1, g, gb, XT_g t0 (z _ (by omega)) (z _ (by omega)) (z _ (by omega)) (fun j hj => z _ (by omega)), XT_g t1 (z _ (by omega)) (z _ (by omega)) (z _ (by omega)) (fun j hj => z _ (by omega)), (z _ (by omega)).trans g14, (z _ (by omega)).trans g15, hgb, hme⟩
  have O2 : opn (dt + 1) (rwD s1 dt e) = opn dt s + 1 := by
    obtain ⟨_, _, _, b3, _⟩ := rwD_in (s := s1) (dt := dt) (e := e)
    unfold opn at O1 ⊢
    rw [cnt_succ, b3, decide_eq_true (nm_lt0 (by decide) (by decide)), if_pos rfl, ← O1]
    exact congrArg (· + 1) (cnt_congr fun i hi => by rw [rwD_o (by omega) (by omega)])
  refine ⟨XK_f K1 (fun i hi => by rw [lose_o (by omega) (by omega), rwD_o (by omega) (by omega)]), ⟨m, XN_f N2 (fun i hi => lose_o (by omega) (by omega)), ?_⟩, XE_f E1 (fun i hi => by rw [lose_o (by omega) (by omega), rwD_o (by omega) (by omega)]), h5⟩
  rw [opn_f (by omega) (fun i hi => lose_o (by omega) (by omega)), O2]
  omega
/-- a dispute is settled -/
theorem EX_fate {o : Nat} (X : EX n e dt T s φ) (hn : n ≤ 48) (hdt : dt ≤ 20) (he : e < 2 ^ 24) (hd : p < dt) (ho : o < e) (hw : w < 3) (hop : s (404 + 7 * p + 3) = nm 5) :
    EX n e dt T (finS n w k u q h true (rwF s p o e w)) (finF w u d h true (rwF s p o e w) φ) := by
  obtain ⟨h1, ⟨m, h2, h3⟩, h4, h5⟩ := X
  have z : ∀ i, i < 308 ∨ 544 ≤ i → rwF s p o e w i = s i := fun i hi => rwF_o (by omega) (by omega)
  have K1 : XK n (rwF s p o e w) := XK_f h1 (fun i hi => z i (by omega))
  have N1 : XN m (rwF s p o e w) := XN_f h2 (fun i hi => z i (by omega))
  have hpos : 0 < opn dt s := cnt_pos hd (by rw [hop]; exact decide_eq_true (nm_lt0 (by decide) (by decide)))
  have N2 := XN_fin (k := k) (u := u) (q := q) (h := h) (tb := true) N1 hw (by omega) K1 hn
  have K2 := XK_fin (k := k) (u := u) (q := q) (h := h) (tb := true) K1 hw hn
  have E1 : XE e T (rwF s p o e w) := by
    obtain ⟨E, g1, g2, g3⟩ := h4
    refine ⟨E, g1, g2, fun i hi hi2 => ?_⟩
    obtain ⟨u1, d1, w1, q1, a1, a2, a3, a5, hw1, hq1, hE⟩ := g3 i hi hi2
    rw [rwF_o (by omega) (by omega), rwF_o (by omega) (by omega), rwF_o (i := 308 + 6 * (i % 16) + 5) (by omega) (by omega)]
    by_cases hio : rwF s p o e w (308 + 6 * (i % 16) + 3) = s (308 + 6 * (i % 16) + 3)
    · rw [hio]
      exact ⟨u1, d1, w1, q1, a1, a2, a3, a5, hw1, hq1, hE⟩
    · have : rwF s p o e w (308 + 6 * (i % 16) + 3) = nI w := by
        unfold rwF at hio ⊢
        split at hio
        · rw [upd_ne (by omega)] at hio
          exact absurd rfl hio
        · rename_i hh
          rw [if_neg hh]
          by_cases hx : 308 + 6 * (i % 16) + 3 = 308 + 6 * (o % 16) + 3
          · rw [upd_eq hx]
          · rw [upd_ne hx, upd_ne (by omega)] at hio
            exact absurd rfl hio
      exact ⟨u1, d1, w, q1, a1, a2, this, a5, by omega, hq1, hE⟩
  have O1 : opn dt s = opn dt (rwF s p o e w) + 1 := by
    unfold opn
    refine cnt_dec hd (by rw [hop]; exact decide_eq_true (nm_lt0 (by decide) (by decide))) (by rw [rwF_d]; exact decide_eq_false (nI_nlt0 (by omega))) (fun i hi hid => by rw [rwF_o (by omega) (by omega)])
  have O2 : opn dt (finS n w k u q h true (rwF s p o e w)) = opn dt (rwF s p o e w) := opn_f hdt (fun i hi => fin_hi hw (by omega) (by omega))
  exact ⟨K2, ⟨m + 1, N2, by omega⟩, XE_f E1 (fun i hi => fin_hi hw (by omega) (by omega)), XS_fin h5 hw⟩
end KEEP
