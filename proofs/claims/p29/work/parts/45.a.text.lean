/-! PURE: the text, read as a script -/
def isD (x : Nat) : Bool := decide (48 ≤ x) && decide (x ≤ 57)
def pa (pl x : Nat) : Option Nat :=
  if pl = 0 then (if x = 116 then some 3 else if x = 48 ∨ x = 49 then some 1 else none)
  else if pl = 1 then (if x = 100 ∨ x = 117 then some 2 else none)
  else if pl = 2 then (if x = 48 then some 5 else if isD x = true then some 4 else none)
  else if pl = 3 then (if isD x = true ∧ ¬ x = 48 then some 4 else none)
  else if pl = 4 then (if isD x = true then some 5 else if x = 59 then some 0 else none)
  else (if x = 59 then some 0 else none)
def scan (ch : Nat → Nat) : Nat → Nat → Nat → Option Nat
  | 0, pl, p => if pl = 4 ∨ pl = 5 then none else some p
  | n + 1, pl, p => match pa pl (ch p) with
    | none => some p
    | some q => scan ch n q (p + 1)
theorem scan_0 {ch : Nat → Nat} {pl p : Nat} : scan ch 0 pl p = if pl = 4 ∨ pl = 5 then none else some p := rfl
theorem scan_n {ch : Nat → Nat} {n pl p : Nat} (h : pa pl (ch p) = none) : scan ch (n + 1) pl p = some p := by
  show (match pa pl (ch p) with | none => some p | some q => scan ch n q (p + 1)) = _
  rw [h]
theorem scan_s {ch : Nat → Nat} {n pl p q : Nat} (h : pa pl (ch p) = some q) : scan ch (n + 1) pl p = scan ch n q (p + 1) := by
  show (match pa pl (ch p) with | none => some p | some q => scan ch n q (p + 1)) = _
  rw [h]
def fv (o : Option Nat) : Int32 := match o with
  | none => nm 1
  | some i => nI i
theorem pa_lt {pl x q : Nat} (h : pa pl x = some q) : q ≤ 5 := by
  unfold pa at h
  repeat' split at h
  all_goals first | (injection h with h; omega) | cases h
theorem nI_ne {a b : Nat} (ha : a < 2 ^ 31) (hb : b < 2 ^ 31) (h : a ≠ b) : ¬ nI a = nI b := by
  rw [nI_eq ha hb]
  exact h
theorem e_isD {x : Nat} (M : Mem) (hx : x < 65536) : fX3_isDigit (nI x) M = some (b2 (isD x), M) := by
  unfold fX3_isDigit isD
  simp (disch := omega) only [nlit', nI_ltI]
  by_cases h1 : x < 48
  · rw [if_pos h1, decide_eq_false (show ¬ 48 ≤ x by omega)]
    rfl
  · by_cases h2 : 57 < x
    · rw [if_neg h1, if_pos h2, decide_eq_false (show ¬ x ≤ 57 by omega), Bool.and_false]
      rfl
    · rw [if_neg h1, if_neg h2, decide_eq_true (show 48 ≤ x by omega), decide_eq_true (show x ≤ 57 by omega)]
      rfl
theorem e_pa {pl x : Nat} (M : Mem) (hp : pl ≤ 5) (hx : x < 65536) : fX3_placeAfter (nI pl) (nI x) M = some (fv (pa pl x), M) := by
  unfold fX3_placeAfter
  simp (disch := omega) only [nlit', nI_eq, e_isD M hx, cal_x, b2_if, jn_x, nm_x]
  unfold pa
  rcases (show pl = 0 ∨ pl = 1 ∨ pl = 2 ∨ pl = 3 ∨ pl = 4 ∨ pl = 5 by omega) with rfl | rfl | rfl | rfl | rfl | rfl
  · by_cases a : x = 116
    · simp [a, fv]
    · by_cases b : x = 48
      · simp [b, fv]
      · by_cases d : x = 49 <;> simp [a, b, d, fv]
  · by_cases a : x = 100
    · simp [a, fv]
    · by_cases b : x = 117 <;> simp [a, b, fv]
  · by_cases a : x = 48
    · simp [a, fv]
    · cases b : isD x <;> simp [a, fv]
  · by_cases a : x = 48
    · simp [a, fv, isD]
    · cases b : isD x <;> simp [a, fv]
  · cases b : isD x
    · by_cases a : x = 59 <;> simp [a, fv]
    · simp [fv]
  · by_cases a : x = 59 <;> simp [a, fv]
/-- the text, in the class and in the reference -/
def TC (L : Nat) (ch : Nat → Nat) (M : Mem) : Prop := M.1 233 0 = nI L ∧ ∀ j, j < L → M.1 234 j = nI (ch j)
def TR (L : Nat) (ch : Nat → Nat) (M : Mem) : Prop := M.1 235 11 = nI L ∧ ∀ j, j < L → M.1 244 j = nI (ch j)
section TXT
variable {L : Nat} {ch : Nat → Nat} {M : Mem} (hL : L ≤ 60) (hch : ∀ j, j < L → ch j < 65536)
theorem chb_n {u : Nat} (h : u < 65536) : chb (nI u) = true := decide_eq_true (nar_nI h)
theorem c_char (hL : L ≤ 60) (hch : ∀ j, j < L → ch j < 65536) (T : TC L ch M) {j : Nat} (hj : j < L) : fX3_characterAt 233 (nI j) M = some (nI (ch j), M) := by
  unfold fX3_characterAt
  simp (disch := omega) only [nlit', nI_ltI, nI_leI, T.1, Nat.not_lt_zero, if_false, show ¬ L ≤ j by omega, Nat.reduceAdd, ln_234, show ¬ 60 ≤ j by omega, inb_nI, nI_clamp, asr_x, T.2 j hj, chb_n (hch j hj)]
theorem c_charn (hL : L ≤ 60) (T : TC L ch M) {j : Nat} (hj : L ≤ j) (hj2 : j < 2 ^ 30) : fX3_characterAt 233 (nI j) M = some (nI 0, M) := by
  unfold fX3_characterAt
  simp (disch := omega) only [nlit', nI_ltI, nI_leI, T.1, Nat.not_lt_zero, if_false, hj, if_true, asr_x, chb_n (show 0 < 65536 by decide)]
theorem c_faultL (hL : L ≤ 60) (hch : ∀ j, j < L → ch j < 65536) (T : TC L ch M) {K : Int32 → Mem → Option (Int32 × Mem)} (hK : ∀ pl, pl ≤ 5 → K (nI pl) M = some (if pl = 4 ∨ pl = 5 then nm 1 else nI L, M)) : ∀ (n pl p fuel : Nat), n + p = L → n < fuel → pl ≤ 5 →
    lp (FX3_fault_4 233 K) fuel (nI pl, nI p) M = some (fv (scan ch n pl p), M) := by
  intro n
  induction n with
  | zero =>
    intro pl p fuel hnp hfu hpl
    obtain ⟨k, _, _, el⟩ := lp_1 (F := FX3_fault_4 233 K) hfu
    rw [el]
    unfold FX3_fault_4
    rw [T.1, if_pos (by rw [nI_leI (by omega) (by omega)]; omega), hK pl hpl, scan_0]
    have : p = L := by omega
    subst this
    split <;> rfl
  | succ n ih =>
    intro pl p fuel hnp hfu hpl
    obtain ⟨k, _, hk, el⟩ := lp_1 (F := FX3_fault_4 233 K) hfu
    rw [el]
    unfold FX3_fault_4
    rw [T.1, if_neg (by rw [nI_leI (by omega) (by omega)]; omega), c_char hL hch T (show p < L by omega), cal_x, e_pa M hpl (hch p (by omega)), cal_x]
    rcases h : pa pl (ch p) with _ | q
    · rw [scan_n h, if_pos (show fv none = -1 from rfl)]
      rfl
    · have hq := pa_lt h
      rw [scan_s h, if_neg (show ¬ fv (some q) = -1 by show ¬ nI q = nm 1; rw [nI_nm (by omega) (by decide) (by decide)]; exact not_false)]
      show lp (FX3_fault_4 233 K) k (nI q, nI p + nI 1) M = _
      rw [nI_add]
      exact ih q (p + 1) k (by omega) (by omega) hq
theorem c_fault (hL : L ≤ 60) (hch : ∀ j, j < L → ch j < 65536) (T : TC L ch M) : fX3_fault 233 M = some (fv (scan ch L 0 0), M) := by
  unfold fX3_fault
  refine c_faultL hL hch T (fun pl hpl => ?_) L 0 0 1000000 (by omega) (by omega) (by omega)
  simp (disch := omega) only [jn_x, nlit', nI_eq, T.1, nm_x]
  by_cases a : pl = 4
  · simp [a]
  · by_cases b : pl = 5 <;> simp [a, b]
/-! the moves of a script -/
def numE (L : Nat) (ch : Nat → Nat) (q : Nat) : Nat := if ch q = 48 then q + 1 else if q + 1 < L ∧ isD (ch (q + 1)) = true then q + 2 else q + 1
def numV (L : Nat) (ch : Nat → Nat) (q : Nat) : Nat := if ch q = 48 then 0 else if q + 1 < L ∧ isD (ch (q + 1)) = true then 10 * (ch q - 48) + (ch (q + 1) - 48) else ch q - 48
def mvT (L : Nat) (ch : Nat → Nat) (p : Nat) : Prop := ch p = 116 ∧ p + 1 < L ∧ isD (ch (p + 1)) = true ∧ ¬ ch (p + 1) = 48
def mvK (L : Nat) (ch : Nat → Nat) (p : Nat) : Prop := (ch p = 48 ∨ ch p = 49) ∧ p + 2 < L ∧ (ch (p + 1) = 100 ∨ ch (p + 1) = 117) ∧ isD (ch (p + 2)) = true
def mvF (L : Nat) (ch : Nat → Nat) (p : Nat) : Nat := if L ≤ p then p else if ch p = 116 then p + 1 else if ch p = 48 ∨ ch p = 49 then (if p + 1 < L ∧ (ch (p + 1) = 100 ∨ ch (p + 1) = 117) then p + 2 else p + 1) else p
def mvE (L : Nat) (ch : Nat → Nat) (p : Nat) : Nat := if ch p = 116 then numE L ch (p + 1) else numE L ch (p + 2)
def fin1 (L : Nat) (ch : Nat → Nat) (e : Nat) : Option Nat := if e = L then none else if ch e = 59 then scan ch (L - (e + 1)) 0 (e + 1) else some e
theorem numE_b {q : Nat} (h : q < L) : q + 1 ≤ numE L ch q ∧ numE L ch q ≤ L ∧ numE L ch q ≤ q + 2 := by
  unfold numE
  split
  · omega
  · split
    · rename_i g
      omega
    · omega
theorem scan_5 {q : Nat} (h : q ≤ L) : scan ch (L - q) 5 q = fin1 L ch q := by
  unfold fin1
  by_cases e : q = L
  · subst e
    rw [Nat.sub_self, scan_0, if_pos (.inr rfl), if_pos rfl]
  · rw [if_neg e, show L - q = (L - (q + 1)) + 1 by omega]
    by_cases a : ch q = 59
    · rw [if_pos a, scan_s (q := 0) (by unfold pa; simp [a])]
    · rw [if_neg a, scan_n (by unfold pa; simp [a])]
theorem scan_4 {q : Nat} (h : q ≤ L) : scan ch (L - q) 4 q = if q < L ∧ isD (ch q) = true then fin1 L ch (q + 1) else fin1 L ch q := by
  by_cases e : q = L
  · subst e
    rw [Nat.sub_self, scan_0, if_pos (.inl rfl), if_neg (by omega)]
    unfold fin1
    rw [if_pos rfl]
  · rw [show L - q = (L - (q + 1)) + 1 by omega]
    cases a : isD (ch q)
    · rw [if_neg (by simp)]
      unfold fin1
      rw [if_neg e]
      have e4 : pa 4 (ch q) = if ch q = 59 then some 0 else none := by unfold pa; simp [a]
      by_cases b : ch q = 59
      · rw [if_pos b, scan_s (q := 0) (by rw [e4, if_pos b])]
      · rw [if_neg b, scan_n (by rw [e4, if_neg b])]
    · rw [if_pos ⟨by omega, rfl⟩, scan_s (q := 5) (by unfold pa; simp [a]), scan_5 (by omega)]
theorem scan_num {q pl : Nat} (h : q < L) (hd : isD (ch q) = true) (hpl : pl = 2 ∨ (pl = 3 ∧ ¬ ch q = 48)) : scan ch (L - q) pl q = fin1 L ch (numE L ch q) := by
  rw [show L - q = (L - (q + 1)) + 1 by omega]
  unfold numE
  by_cases a : ch q = 48
  · rcases hpl with rfl | ⟨_, g⟩
    · rw [if_pos a, scan_s (q := 5) (by unfold pa; simp [a]), scan_5 (by omega)]
    · exact absurd a g
  · rw [if_neg a]
    rw [scan_s (q := 4) (by
      rcases hpl with rfl | ⟨rfl, _⟩
      · unfold pa; simp [a, hd]
      · unfold pa; simp [a, hd]), scan_4 (by omega)]
    split <;> rfl
theorem scan_mv {p : Nat} (h : p ≤ L) : (mvT L ch p ∨ mvK L ch p) ∧ p < L ∧ scan ch (L - p) 0 p = fin1 L ch (mvE L ch p) ∨ ¬ (p < L ∧ (mvT L ch p ∨ mvK L ch p)) ∧ scan ch (L - p) 0 p = some (mvF L ch p) := by
  by_cases e : p = L
  · subst e
    right
    refine ⟨fun g => absurd g.1 (Nat.lt_irrefl p), ?_⟩
    unfold mvF
    rw [Nat.sub_self, scan_0, if_neg (by omega), if_pos (Nat.le_refl p)]
  have e1 : L - p = (L - (p + 1)) + 1 := by omega
  by_cases a : ch p = 116
  · have h1 : scan ch (L - p) 0 p = scan ch (L - (p + 1)) 3 (p + 1) := by rw [e1, scan_s (q := 3) (by unfold pa; simp [a])]
    by_cases b : mvT L ch p
    · left
      refine ⟨.inl b, by omega, ?_⟩
      rw [h1, scan_num b.2.1 b.2.2.1 (.inr ⟨rfl, b.2.2.2⟩)]
      unfold mvE
      rw [if_pos a]
    · right
      refine ⟨fun g => ?_, ?_⟩
      · rcases g.2 with g | g
        · exact b g
        · rcases g.1 with g | g <;> omega
      · rw [h1]
        unfold mvF
        rw [if_neg (by omega), if_pos a]
        by_cases e2 : p + 1 = L
        · rw [show L - (p + 1) = 0 by omega, scan_0, if_neg (by omega)]
        · rw [show L - (p + 1) = (L - (p + 2)) + 1 by omega, scan_n]
          unfold pa
          have : ¬ (isD (ch (p + 1)) = true ∧ ¬ ch (p + 1) = 48) := fun g => b ⟨a, by omega, g.1, g.2⟩
          simp [this]
  by_cases a2 : ch p = 48 ∨ ch p = 49
  · have h1 : scan ch (L - p) 0 p = scan ch (L - (p + 1)) 1 (p + 1) := by rw [e1, scan_s (q := 1) (by unfold pa; simp [a, a2])]
    by_cases b : p + 1 < L ∧ (ch (p + 1) = 100 ∨ ch (p + 1) = 117)
    · have h2 : scan ch (L - (p + 1)) 1 (p + 1) = scan ch (L - (p + 2)) 2 (p + 2) := by rw [show L - (p + 1) = (L - (p + 2)) + 1 by omega, scan_s (q := 2) (by unfold pa; simp [b.2])]
      by_cases d : p + 2 < L ∧ isD (ch (p + 2)) = true
      · left
        refine ⟨.inr ⟨a2, d.1, b.2, d.2⟩, by omega, ?_⟩
        rw [h1, h2, scan_num d.1 d.2 (.inl rfl)]
        unfold mvE
        rw [if_neg a]
      · right
        refine ⟨fun g => ?_, ?_⟩
        · rcases g.2 with g | g
          · exact a g.1
          · exact d ⟨g.2.1, g.2.2.2⟩
        · rw [h1, h2]
          unfold mvF
          rw [if_neg (by omega), if_neg a, if_pos a2, if_pos b]
          by_cases e2 : p + 2 = L
          · rw [show L - (p + 2) = 0 by omega, scan_0, if_neg (by omega)]
          · rw [show L - (p + 2) = (L - (p + 3)) + 1 by omega, scan_n]
            have hn : isD (ch (p + 2)) = false := by
              cases hh : isD (ch (p + 2))
              · rfl
              · exact absurd ⟨by omega, hh⟩ d
            have h48 : ¬ ch (p + 2) = 48 := fun g => by
              rw [g] at hn
              exact absurd hn (by decide)
            unfold pa
            simp [hn, h48]
    · right
      refine ⟨fun g => ?_, ?_⟩
      · rcases g.2 with g | g
        · exact a g.1
        · exact b ⟨by have := g.2.1; omega, g.2.2.1⟩
      · rw [h1]
        unfold mvF
        rw [if_neg (by omega), if_neg a, if_pos a2, if_neg b]
        by_cases e2 : p + 1 = L
        · rw [show L - (p + 1) = 0 by omega, scan_0, if_neg (by omega)]
        · rw [show L - (p + 1) = (L - (p + 2)) + 1 by omega, scan_n]
          have : ¬ (ch (p + 1) = 100 ∨ ch (p + 1) = 117) := fun g => b ⟨by omega, g⟩
          unfold pa
          simp [this]
  · right
    refine ⟨fun g => ?_, ?_⟩
    · rcases g.2 with g | g
      · exact a g.1
      · exact a2 g.1
    · rw [e1, scan_n (by unfold pa; simp [a, a2])]
      unfold mvF
      rw [if_neg (by omega), if_neg a, if_neg a2]
end TXT
