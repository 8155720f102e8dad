/-! PURE: the reference reads the script -/
theorem w1_w1 {M : Mem} {a i : Nat} {x y : Int32} : w1 (w1 M a i x) a i y = w1 M a i y := by
  refine Prod.ext (funext fun b => ?_) rfl
  by_cases h : b = a
  · subst h
    rw [w1_self, w1_self, w1_self]
    funext j
    rw [upd_at, upd_at, upd_at]
    split <;> rfl
  · rw [w1_o h, w1_o h, w1_o h]
theorem w1_id {M : Mem} {a i : Nat} {x : Int32} (h : M.1 a i = x) : w1 M a i x = M := by
  refine Prod.ext (funext fun b => ?_) rfl
  by_cases hb : b = a
  · subst hb
    rw [w1_self]
    funext j
    rw [upd_at]
    split
    · rename_i hj
      rw [hj, h]
    · rfl
  · rw [w1_o hb]
theorem TR_w {L : Nat} {ch : Nat → Nat} {M : Mem} {x : Int32} (T : TR L ch M) : TR L ch (w1 M 235 12 x) := ⟨by rw [w1_ne (by omega)]; exact T.1, fun j hj => by rw [w1_o (by decide)]; exact T.2 j hj⟩
section PARSE
variable {L : Nat} {ch : Nat → Nat} {M : Mem} {p : Nat}
theorem r_sees1 {a b : Nat} (hL : L ≤ 60) (hch : ∀ j, j < L → ch j < 65536) (T : TR L ch M) (hp : M.1 235 12 = nI p) (hb : b < 1000) (h : p < L ∧ a ≤ ch p ∧ ch p ≤ b) : fX9_sees 235 (nI a) (nI b) M = some (nI 1, M) := by
  unfold fX9_sees
  rw [T.1, hp, if_neg (by rw [nI_leI (by omega) (by omega)]; omega), show ln (235 + 9) = 60 from ln_244, inb_nI (by omega) (by decide), asr_x, nI_clamp (by omega), show (235 : Nat) + 9 = 244 from rfl, T.2 p h.1, e_in1 M h.2.1 h.2.2 (by omega), cal_x]
  rfl
theorem r_sees0 {a b : Nat} (hL : L ≤ 60) (hch : ∀ j, j < L → ch j < 65536) (T : TR L ch M) (hp : M.1 235 12 = nI p) (hp2 : p ≤ 100) (ha : a < 1000) (hb : b < 1000) (h : ¬ (p < L ∧ a ≤ ch p ∧ ch p ≤ b)) : fX9_sees 235 (nI a) (nI b) M = some (nI 0, M) := by
  unfold fX9_sees
  rw [T.1, hp]
  by_cases h1 : L ≤ p
  · rw [if_pos (by rw [nI_leI (by omega) (by omega)]; omega)]
    rfl
  · have h2 : nI (ch p) < nI a ∨ nI b < nI (ch p) := by
      have := hch p (by omega)
      rw [nI_ltI (by omega) (by omega), nI_ltI (by omega) (by omega)]
      omega
    rw [if_neg (by rw [nI_leI (by omega) (by omega)]; omega), show ln (235 + 9) = 60 from ln_244, inb_nI (by omega) (by decide), asr_x, nI_clamp (by omega), show (235 : Nat) + 9 = 244 from rfl, T.2 p (by omega), e_in0 M h2, cal_x]
    rfl
theorem r_num1 {a : Nat} (hL : L ≤ 60) (hch : ∀ j, j < L → ch j < 65536) (T : TR L ch M) (hp : M.1 235 12 = nI p) (ha : a ≤ 1) (h : p < L ∧ 48 + a ≤ ch p ∧ ch p ≤ 57) : fX9_readsNumber 235 (nI a) M = some (nI (numV L ch p), w1 M 235 12 (nI (numE L ch p))) := by
  unfold fX9_readsNumber
  have h60 : ln (235 + 9) = 60 := ln_244
  rw [show (48 : Int32) = nI 48 from rfl, show (57 : Int32) = nI 57 from rfl, nI_add, r_sees1 hL hch T hp (by omega) h, cal_x, if_neg (show ¬ nI 1 = 0 from n10)]
  rw [hp, h60, inb_nI (by omega) (by decide), asr_x, nI_clamp (by omega), show (235 : Nat) + 9 = 244 from rfl, T.2 p h.1, nI_sub (by omega), bnd_x, bnd_x, show (1 : Int32) = nI 1 from rfl, nI_add]
  unfold numV numE
  by_cases h48 : ch p = 48
  · rw [if_pos (show nI (ch p - 48) ≤ 0 by rw [h48]; decide), if_pos h48, if_pos h48, h48]
  · rw [if_neg (show ¬ nI (ch p - 48) ≤ 0 by rw [show (0 : Int32) = nI 0 from rfl, nI_leI (by omega) (by omega)]; omega), if_neg h48, if_neg h48]
    have T4 := TR_w (x := nI (p + 1)) T
    have hp4 : (w1 M 235 12 (nI (p + 1))).1 235 12 = nI (p + 1) := w1_eq ⟨rfl, rfl⟩
    by_cases g : p + 1 < L ∧ isD (ch (p + 1)) = true
    · have g2 : p + 1 < L ∧ 48 ≤ ch (p + 1) ∧ ch (p + 1) ≤ 57 := by
        refine ⟨g.1, ?_⟩
        have := g.2
        unfold isD at this
        simp only [Bool.and_eq_true, decide_eq_true_eq] at this
        exact this
      rw [r_sees1 hL hch T4 hp4 (by omega) g2, cal_x, if_neg (show ¬ nI 1 = 0 from n10), hp4, inb_nI (by omega) (by decide), asr_x, nI_clamp (by omega), T4.2 _ g.1, show (10 : Int32) = nI 10 from rfl, nI_mul, nI_add, nI_sub (by omega), bnd_x, bnd_x, nI_add, w1_w1, if_pos g, if_pos g]
      rw [show 10 * (ch p - 48) + ch (p + 1) - 48 = 10 * (ch p - 48) + (ch (p + 1) - 48) by omega]
    · have g2 : ¬ (p + 1 < L ∧ 48 ≤ ch (p + 1) ∧ ch (p + 1) ≤ 57) := fun q => g ⟨q.1, by unfold isD; rw [decide_eq_true q.2.1, decide_eq_true q.2.2]; rfl⟩
      rw [r_sees0 hL hch T4 hp4 (by omega) (by omega) (by omega) g2, cal_x, if_pos (show nI 0 = 0 from rfl), if_neg g, if_neg g]
theorem r_num0 {a : Nat} (hL : L ≤ 60) (hch : ∀ j, j < L → ch j < 65536) (T : TR L ch M) (hp : M.1 235 12 = nI p) (hp2 : p ≤ 100) (ha : a ≤ 1) (h : ¬ (p < L ∧ 48 + a ≤ ch p ∧ ch p ≤ 57)) : fX9_readsNumber 235 (nI a) M = some (nm 1, M) := by
  unfold fX9_readsNumber
  rw [show (48 : Int32) = nI 48 from rfl, show (57 : Int32) = nI 57 from rfl, nI_add, r_sees0 hL hch T hp hp2 (by omega) (by omega) h, cal_x, if_pos (show nI 0 = 0 from rfl)]
  rfl
theorem isD_iff {x : Nat} : isD x = true ↔ 48 ≤ x ∧ x ≤ 57 := by
  unfold isD
  simp only [Bool.and_eq_true, decide_eq_true_eq]
theorem numV_lt {q : Nat} (h1 : ch q ≤ 57) : numV L ch q ≤ 99 := by
  unfold numV
  split
  · omega
  · split
    · rename_i g
      have := isD_iff.mp g.2
      omega
    · omega
theorem nI0_le {n : Nat} (h : n < 2 ^ 31) : (0 : Int32) ≤ nI n := by
  rw [show (0 : Int32) = nI 0 from rfl, nI_leI (by omega) h]
  exact Nat.zero_le n
theorem nm_nle {n : Nat} (h0 : 0 < n) (h : n < 2 ^ 31) : ¬ (0 : Int32) ≤ nm n := by
  rw [show (0 : Int32) = nI 0 from rfl, nI_le_nm (by decide) h0 h]
  exact not_false
theorem r_keypart {X : Int32 → Mem → Option (Int32 × Mem)} (hL : L ≤ 60) (hch : ∀ j, j < L → ch j < 65536) (T : TR L ch M) (hp : M.1 235 12 = nI p) (hp2 : p ≤ 80) :
    (bnd (w1 M 235 12 (M.1 235 12 + 1)) (fun M12 => cal (fX9_readsNumber 235 0 M12) (fun v13 M14 => if 0 ≤ v13 then (if nI 0 = 0 then some (0, M14) else X v13 M14) else some ((-100), M14)))) = if p + 1 < L ∧ isD (ch (p + 1)) = true then some (nI 0, w1 M 235 12 (nI (numE L ch (p + 1)))) else some (nm 100, w1 M 235 12 (nI (p + 1))) := by
  have pl1 : nI p + 1 = nI (p + 1) := nI_add p 1
  have T1 := TR_w (x := nI (p + 1)) T
  have hp1 : (w1 M 235 12 (nI (p + 1))).1 235 12 = nI (p + 1) := w1_eq ⟨rfl, rfl⟩
  rw [hp, pl1, bnd_x]
  by_cases d : p + 1 < L ∧ isD (ch (p + 1)) = true
  · have d2 := isD_iff.mp d.2
    have h0 := nI0_le (n := numV L ch (p + 1)) (by have := numV_lt (L := L) d2.2; omega)
    rw [show fX9_readsNumber 235 0 (w1 M 235 12 (nI (p + 1))) = _ from r_num1 (a := 0) hL hch T1 hp1 (by omega) ⟨d.1, by omega, d2.2⟩, cal_x, if_pos h0, if_pos (show nI 0 = 0 from rfl), if_pos d, w1_w1]
    rfl
  · rw [show fX9_readsNumber 235 0 (w1 M 235 12 (nI (p + 1))) = _ from r_num0 (a := 0) hL hch T1 hp1 (by omega) (by omega) (fun g => d ⟨g.1, isD_iff.mpr ⟨by omega, g.2.2⟩⟩), cal_x, if_neg (nm_nle (n := 1) (by decide) (by decide)), if_neg d]
    rfl
/-- a move is read only -/
theorem r_move0 (hL : L ≤ 60) (hch : ∀ j, j < L → ch j < 65536) (T : TR L ch M) (hp : M.1 235 12 = nI p) (hpL : p ≤ L) :
    ((p < L ∧ (mvT L ch p ∨ mvK L ch p)) → fX9_move 235 (nI 0) M = some (nI 0, w1 M 235 12 (nI (mvE L ch p)))) ∧ (¬ (p < L ∧ (mvT L ch p ∨ mvK L ch p)) → fX9_move 235 (nI 0) M = some (nm 100, w1 M 235 12 (nI (mvF L ch p)))) := by
  have pl1 : nI p + 1 = nI (p + 1) := nI_add p 1
  have h60 : ln (235 + 9) = 60 := ln_244
  have T1 := TR_w (x := nI (p + 1)) T
  have hp1 : (w1 M 235 12 (nI (p + 1))).1 235 12 = nI (p + 1) := w1_eq ⟨rfl, rfl⟩
  unfold fX9_move
  by_cases a : p < L ∧ ch p = 116
  · rw [show fX9_sees 235 116 116 M = _ from r_sees1 (a := 116) (b := 116) hL hch T hp (by omega) ⟨a.1, by omega, by omega⟩, cal_x, if_neg (show ¬ nI 1 = 0 from n10), hp, pl1, bnd_x]
    by_cases b : p + 1 < L ∧ 48 + 1 ≤ ch (p + 1) ∧ ch (p + 1) ≤ 57
    · have hT : mvT L ch p := ⟨a.2, b.1, isD_iff.mpr ⟨by omega, b.2.2⟩, by omega⟩
      have h0 := nI0_le (n := numV L ch (p + 1)) (by have := numV_lt (L := L) b.2.2; omega)
      refine ⟨fun _ => ?_, fun g => absurd ⟨a.1, .inl hT⟩ g⟩
      rw [show fX9_readsNumber 235 1 (w1 M 235 12 (nI (p + 1))) = _ from r_num1 (a := 1) hL hch T1 hp1 (by omega) b, cal_x, if_pos h0, if_pos (show nI 0 = 0 from rfl), w1_w1]
      unfold mvE
      rw [if_pos a.2]
      rfl
    · refine ⟨fun g => ?_, fun _ => ?_⟩
      · rcases g.2 with g | g
        · have := isD_iff.mp g.2.2.1
          have := g.2.2.2
          have := g.2.1
          exact absurd ⟨by omega, by omega, by omega⟩ b
        · rcases g.1 with g | g <;> omega
      · rw [show fX9_readsNumber 235 1 (w1 M 235 12 (nI (p + 1))) = _ from r_num0 (a := 1) hL hch T1 hp1 (by omega) (by omega) b, cal_x, if_neg (nm_nle (n := 1) (by decide) (by decide))]
        unfold mvF
        rw [if_neg (by omega), if_pos a.2]
        rfl
  · rw [show fX9_sees 235 116 116 M = _ from r_sees0 (a := 116) (b := 116) hL hch T hp (by omega) (by omega) (by omega) (fun g => a ⟨g.1, by omega⟩), cal_x, if_pos (show nI 0 = 0 from rfl)]
    by_cases a2 : p < L ∧ (ch p = 48 ∨ ch p = 49)
    · rw [show fX9_sees 235 48 49 M = _ from r_sees1 (a := 48) (b := 49) hL hch T hp (by omega) ⟨a2.1, by omega, by omega⟩, cal_x, if_neg (show ¬ nI 1 = 0 from n10), hp, pl1, h60, inb_nI (by omega) (by decide), asr_x, bnd_x, bnd_x]
      have a16 : ¬ ch p = 116 := by omega
      by_cases b : p + 1 < L ∧ (ch (p + 1) = 100 ∨ ch (p + 1) = 117)
      · have R1 : (p < L ∧ (mvT L ch p ∨ mvK L ch p)) → (if p + 1 + 1 < L ∧ isD (ch (p + 1 + 1)) = true then some (nI 0, w1 (w1 M 235 12 (nI (p + 1))) 235 12 (nI (numE L ch (p + 1 + 1)))) else some (nm 100, w1 (w1 M 235 12 (nI (p + 1))) 235 12 (nI (p + 1 + 1)))) = some (nI 0, w1 M 235 12 (nI (mvE L ch p))) := fun g => by
          have d : p + 2 < L ∧ isD (ch (p + 2)) = true := by
            rcases g.2 with g | g
            · exact absurd g.1 a16
            · exact ⟨g.2.1, g.2.2.2⟩
          rw [w1_w1, if_pos d]
          unfold mvE
          rw [if_neg a16]
        have R2 : ¬ (p < L ∧ (mvT L ch p ∨ mvK L ch p)) → (if p + 1 + 1 < L ∧ isD (ch (p + 1 + 1)) = true then some (nI 0, w1 (w1 M 235 12 (nI (p + 1))) 235 12 (nI (numE L ch (p + 1 + 1)))) else some (nm 100, w1 (w1 M 235 12 (nI (p + 1))) 235 12 (nI (p + 1 + 1)))) = some (nm 100, w1 M 235 12 (nI (mvF L ch p))) := fun g => by
          rw [w1_w1, w1_w1, if_neg (fun d => g ⟨a2.1, .inr ⟨a2.2, d.1, b.2, d.2⟩⟩)]
          unfold mvF
          rw [if_neg (by omega), if_neg a16, if_pos a2.2, if_pos b]
        by_cases b1 : ch (p + 1) = 100
        · rw [show fX9_sees 235 100 100 (w1 M 235 12 (nI (p + 1))) = _ from r_sees1 (a := 100) (b := 100) hL hch T1 hp1 (by omega) ⟨b.1, by omega, by omega⟩, cal_x, jn_x, if_neg (show ¬ nI 1 = 0 from n10)]
          exact ⟨fun g => (r_keypart hL hch T1 hp1 (by omega)).trans (R1 g), fun g => (r_keypart hL hch T1 hp1 (by omega)).trans (R2 g)⟩
        · rw [show fX9_sees 235 100 100 (w1 M 235 12 (nI (p + 1))) = _ from r_sees0 (a := 100) (b := 100) hL hch T1 hp1 (by omega) (by omega) (by omega) (fun g => b1 (by omega)), cal_x, jn_x, if_pos (show nI 0 = 0 from rfl)]
          rw [show fX9_sees 235 117 117 (w1 M 235 12 (nI (p + 1))) = _ from r_sees1 (a := 117) (b := 117) hL hch T1 hp1 (by omega) ⟨b.1, by omega, by omega⟩, cal_x, if_neg (show ¬ nI 1 = 0 from n10)]
          exact ⟨fun g => (r_keypart hL hch T1 hp1 (by omega)).trans (R1 g), fun g => (r_keypart hL hch T1 hp1 (by omega)).trans (R2 g)⟩
      · rw [show fX9_sees 235 100 100 (w1 M 235 12 (nI (p + 1))) = _ from r_sees0 (a := 100) (b := 100) hL hch T1 hp1 (by omega) (by omega) (by omega) (fun g => b ⟨g.1, .inl (by omega)⟩), cal_x, jn_x, if_pos (show nI 0 = 0 from rfl)]
        rw [show fX9_sees 235 117 117 (w1 M 235 12 (nI (p + 1))) = _ from r_sees0 (a := 117) (b := 117) hL hch T1 hp1 (by omega) (by omega) (by omega) (fun g => b ⟨g.1, .inr (by omega)⟩), cal_x, if_pos (show nI 0 = 0 from rfl)]
        refine ⟨fun g => ?_, fun _ => ?_⟩
        · rcases g.2 with g | g
          · exact absurd g.1 a16
          · exact absurd ⟨by have := g.2.1; omega, g.2.2.1⟩ b
        · unfold mvF
          rw [if_neg (by omega), if_neg a16, if_pos a2.2, if_neg b]
          rfl
    · rw [show fX9_sees 235 48 49 M = _ from r_sees0 (a := 48) (b := 49) hL hch T hp (by omega) (by omega) (by omega) (fun g => a2 ⟨g.1, by omega⟩), cal_x, if_pos (show nI 0 = 0 from rfl)]
      refine ⟨fun g => ?_, fun _ => ?_⟩
      · rcases g.2 with h | h
        · exact absurd ⟨g.1, h.1⟩ a
        · exact absurd ⟨g.1, h.1⟩ a2
      · have : mvF L ch p = p := by
          unfold mvF
          by_cases h : L ≤ p
          · rw [if_pos h]
          · rw [if_neg h, if_neg (fun g => a ⟨by omega, g⟩), if_neg (fun g => a2 ⟨by omega, g⟩)]
        rw [this, w1_id hp]
        rfl
theorem mvE_b (h : p < L) (hm : mvT L ch p ∨ mvK L ch p) : p + 2 ≤ mvE L ch p ∧ mvE L ch p ≤ L := by
  unfold mvE
  rcases hm with g | g
  · rw [if_pos g.1]
    have := numE_b (ch := ch) g.2.1
    omega
  · rw [if_neg (by rcases g.1 with g | g <;> omega)]
    have := numE_b (ch := ch) g.2.1
    omega
def msv (L : Nat) (o : Option Nat) (M : Mem) : Option (Int32 × Mem) := match o with
  | none => some (nI 0, w1 M 235 12 (nI L))
  | some i => some (nm 100, w1 M 235 12 (nI i))
def K9 : Int32 → Mem → Option (Int32 × Mem) := fun b5 M6 => if (M6.1 235 11) ≤ (M6.1 235 12) then some (b5, M6) else some ((-100), M6)
theorem moves9 {q1 z y : Int32} {rec : Int32 × Int32 → Mem → Option (Int32 × Mem)} {M : Mem} : FX9_moves_9 235 q1 K9 rec (z, y) M = if y = 0 then K9 z M else cal (fX9_move 235 q1 M) (fun v1 M2 => if 0 ≤ v1 then cal (fX9_sees 235 59 59 M2) (fun v3 M4 => rec (z + v1, v3) (w1 M4 235 12 ((M4.1 235 12) + (if v3 = 0 then 0 else 1)))) else some (v1, M2)) := by
  unfold FX9_moves_9
  simp only [jn_ite, bnd_x]
theorem moves_eq {q1 : Int32} {M : Mem} : fX9_moves 235 q1 M = lp (FX9_moves_9 235 q1 K9) 1000000 (nI 0, nI 1) (w1 M 235 12 (nI 0)) := by
  unfold fX9_moves K9
  simp only [bnd_x, nlit']
theorem K9_eq {z : Int32} {e : Nat} (hL : L ≤ 60) (T : TR L ch M) (he : M.1 235 12 = nI e) (heL : e ≤ L) : K9 z M = if e = L then some (z, M) else some (nm 100, M) := by
  unfold K9
  rw [T.1, he]
  by_cases h : e = L
  · rw [if_pos h, if_pos (by rw [nI_leI (by omega) (by omega)]; omega)]
  · rw [if_neg h, if_neg (by rw [nI_leI (by omega) (by omega)]; omega)]
    rfl
theorem r_movesL (hL : L ≤ 60) (hch : ∀ j, j < L → ch j < 65536) : ∀ (n p fuel : Nat) (M : Mem), L - p ≤ n → p ≤ L → n + 2 ≤ fuel → TR L ch M → M.1 235 12 = nI p →
    lp (FX9_moves_9 235 (nI 0) K9) fuel (nI 0, nI 1) M = msv L (scan ch (L - p) 0 p) M := by
  intro n
  induction n with
  | zero =>
    intro p fuel M h1 h2 hfu T hp
    obtain ⟨k, _, _, el⟩ := lp_1 (F := FX9_moves_9 235 (nI 0) K9) (show 1 < fuel by omega)
    have hpL : p = L := by omega
    have hr := (r_move0 hL hch T hp h2).2 (fun g => by omega)
    rw [el, moves9, if_neg (show ¬ nI 1 = 0 from n10), hr, cal_x, if_neg (nm_nle (n := 100) (by decide) (by decide))]
    rcases scan_mv (ch := ch) h2 with ⟨_, g, _⟩ | ⟨_, g⟩
    · omega
    · rw [g]
      rfl
  | succ n ih =>
    intro p fuel M h1 h2 hfu T hp
    obtain ⟨k, _, hk, el⟩ := lp_1 (F := FX9_moves_9 235 (nI 0) K9) (show n + 2 < fuel by omega)
    rw [el, moves9, if_neg (show ¬ nI 1 = 0 from n10)]
    rcases scan_mv (ch := ch) h2 with ⟨hm, hlt, g⟩ | ⟨hm, g⟩
    · obtain ⟨e1, e2⟩ := mvE_b hlt hm
      rw [(r_move0 hL hch T hp h2).1 ⟨hlt, hm⟩, cal_x, if_pos (nI0_le (n := 0) (by decide)), g]
      have Te := TR_w (x := nI (mvE L ch p)) T
      have hpe : (w1 M 235 12 (nI (mvE L ch p))).1 235 12 = nI (mvE L ch p) := w1_eq ⟨rfl, rfl⟩
      have pl1 : nI (mvE L ch p) + 1 = nI (mvE L ch p + 1) := nI_add _ 1
      have pl0 : nI (mvE L ch p) + 0 = nI (mvE L ch p) := nI_add _ 0
      have z0 : nI 0 + nI 0 = nI 0 := rfl
      unfold fin1
      by_cases h59 : mvE L ch p < L ∧ ch (mvE L ch p) = 59
      · rw [show fX9_sees 235 59 59 (w1 M 235 12 (nI (mvE L ch p))) = _ from r_sees1 (a := 59) (b := 59) hL hch Te hpe (by omega) ⟨h59.1, by omega, by omega⟩, cal_x, if_neg (show ¬ nI 1 = 0 from n10), hpe, pl1, z0, w1_w1, if_neg (show ¬ mvE L ch p = L by omega), if_pos h59.2]
        rw [ih (mvE L ch p + 1) k _ (by omega) (by omega) (by omega) (TR_w T) (w1_eq ⟨rfl, rfl⟩)]
        rcases scan ch (L - (mvE L ch p + 1)) 0 (mvE L ch p + 1) with _ | i
        · unfold msv
          simp only [w1_w1]
        · unfold msv
          simp only [w1_w1]
      · rw [show fX9_sees 235 59 59 (w1 M 235 12 (nI (mvE L ch p))) = _ from r_sees0 (a := 59) (b := 59) hL hch Te hpe (by omega) (by omega) (by omega) (fun q => h59 ⟨q.1, by omega⟩), cal_x, if_pos (show nI 0 = 0 from rfl), hpe, pl0, z0, w1_w1]
        obtain ⟨k2, _, _, el2⟩ := lp_1 (F := FX9_moves_9 235 (nI 0) K9) (show 0 < k by omega)
        rw [el2, moves9, if_pos (show nI 0 = 0 from rfl), K9_eq hL Te hpe e2]
        by_cases hEL : mvE L ch p = L
        · rw [if_pos hEL, if_pos hEL, hEL]
          rfl
        · rw [if_neg hEL, if_neg hEL, if_neg (fun q => h59 ⟨by omega, q⟩)]
          rfl
    · rw [(r_move0 hL hch T hp h2).2 hm, cal_x, if_neg (nm_nle (n := 100) (by decide) (by decide)), g]
      rfl
theorem msv_w {o : Option Nat} {x : Int32} : msv L o (w1 M 235 12 x) = msv L o M := by
  unfold msv
  rcases o with _ | i
  · simp only [w1_w1]
  · simp only [w1_w1]
theorem r_moves0 (hL : L ≤ 60) (hch : ∀ j, j < L → ch j < 65536) (T : TR L ch M) : fX9_moves 235 0 M = msv L (scan ch L 0 0) M := by
  have := r_movesL hL hch L 0 1000000 (w1 M 235 12 (nI 0)) (by omega) (by omega) (by omega) (TR_w T) (w1_eq ⟨rfl, rfl⟩)
  rw [msv_w, Nat.sub_zero] at this
  rw [show (0 : Int32) = nI 0 from rfl, moves_eq]
  exact this
end PARSE
