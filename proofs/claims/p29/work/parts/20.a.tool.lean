/-! PURE, the toolkit: what a function ends with -/
def wp {γ : Type} (x : Option (γ × Mem)) (Q : γ → Mem → Prop) : Prop := ∃ v M1, x = some (v, M1) ∧ Q v M1
theorem wp_some {γ : Type} {v : γ} {M : Mem} {Q : γ → Mem → Prop} : wp (some (v, M)) Q ↔ Q v M := by
  constructor
  · rintro ⟨v1, M1, h, q⟩
    cases h
    exact q
  · exact fun q => ⟨v, M, rfl, q⟩
theorem wp_asr {γ : Type} {b : Bool} {x : Option (γ × Mem)} {Q : γ → Mem → Prop} : wp (asr b x) Q ↔ b = true ∧ wp x Q := by
  unfold asr
  cases b
  · simp [wp]
  · simp
theorem wp_bnd {α γ : Type} {e : α} {k : α → Option (γ × Mem)} {Q : γ → Mem → Prop} : wp (bnd e k) Q ↔ wp (k e) Q := Iff.rfl
theorem wp_jn {α γ : Type} {K : α → Mem → Option (γ × Mem)} {F : (α → Mem → Option (γ × Mem)) → Option (γ × Mem)} {Q : γ → Mem → Prop} : wp (jn K F) Q ↔ wp (F K) Q := Iff.rfl
theorem wp_cal {α γ : Type} {x : Option (α × Mem)} {k : α → Mem → Option (γ × Mem)} {Q : γ → Mem → Prop} : wp (cal x k) Q ↔ wp x (fun v M => wp (k v M) Q) := by
  unfold cal wp
  rcases x with _ | ⟨v, M⟩
  · simp
  · constructor
    · rintro ⟨v1, M1, h, q⟩
      exact ⟨v, M, rfl, v1, M1, h, q⟩
    · rintro ⟨v1, M1, h, v2, M2, h2, q⟩
      cases h
      exact ⟨v2, M2, h2, q⟩
theorem wp_ite {γ : Type} {c : Prop} [Decidable c] {x y : Option (γ × Mem)} {Q : γ → Mem → Prop} : wp (if c then x else y) Q ↔ (c → wp x Q) ∧ (¬ c → wp y Q) := by
  by_cases h : c <;> simp [h]
theorem wp_mono {γ : Type} {x : Option (γ × Mem)} {Q Q2 : γ → Mem → Prop} (h : wp x Q) (k : ∀ v M, Q v M → Q2 v M) : wp x Q2 := by
  obtain ⟨v, M, e, q⟩ := h
  exact ⟨v, M, e, k v M q⟩
theorem wp_eq {γ : Type} {x : Option (γ × Mem)} {v : γ} {M : Mem} (h : wp x (fun v1 M1 => v1 = v ∧ M1 = M)) : x = some (v, M) := by
  obtain ⟨v1, M1, e, rfl, rfl⟩ := h
  exact e
theorem wp_of {γ : Type} {x : Option (γ × Mem)} {v : γ} {M : Mem} {Q : γ → Mem → Prop} (h : x = some (v, M)) (q : Q v M) : wp x Q := ⟨v, M, h, q⟩
/-- a loop that goes N times at most -/
theorem lp_down {γ β : Type} {F : (γ → Mem → Option (β × Mem)) → γ → Mem → Option (β × Mem)} {Q : β → Mem → Prop} (J : Nat → γ → Mem → Prop)
    (step : ∀ j b M rec, J j b M → (∀ i b1 M1, i < j → J i b1 M1 → wp (rec b1 M1) Q) → wp (F rec b M) Q) :
    ∀ (n j : Nat) (b : γ) (M : Mem), j < n → J j b M → wp (lp F n b M) Q
  | 0, j, b, M, h, _ => absurd h (Nat.not_lt_zero j)
  | n + 1, j, b, M, h, hJ => step j b M (lp F n) hJ (fun i b1 M1 hi h1 => lp_down J step n i b1 M1 (by omega) h1)
/-- for i from 0 to N -/
theorem lp_for {γ β : Type} {F : (γ → Mem → Option (β × Mem)) → γ → Mem → Option (β × Mem)} {Q : β → Mem → Prop} {b : γ} {M : Mem} (N : Nat) (J : Nat → γ → Mem → Prop) (hN : N < 1000000) (h0 : J 0 b M)
    (step : ∀ i b M rec, i < N → J i b M → (∀ b1 M1, J (i + 1) b1 M1 → wp (rec b1 M1) Q) → wp (F rec b M) Q)
    (done : ∀ b M rec, J N b M → wp (F rec b M) Q) : wp (lp F 1000000 b M) Q := by
  refine lp_down (fun j b M => ∃ i, i + j = N ∧ J i b M) ?_ 1000000 N b M hN ⟨0, by omega, h0⟩
  rintro j b M rec ⟨i, hi, h⟩ kk
  by_cases hj : i = N
  · subst hj
    exact done b M rec h
  · exact step i b M rec (by omega) h (fun b1 M1 h1 => kk (j - 1) b1 M1 (by omega) ⟨i + 1, by omega, h1⟩)
/-! numbers -/
theorem nlit (n : Nat) : (OfNat.ofNat n : Int32) = nI (OfNat.ofNat n) := rfl
def nm (n : Nat) : Int32 := -(nI n)
theorem nm_def (n : Nat) : -(nI n) = nm n := rfl
theorem nI_mul (a b : Nat) : nI a * nI b = nI (a * b) := pk_mul a b
theorem nI_sub {a b : Nat} (h : b ≤ a) : nI a - nI b = nI (a - b) := pk_sub h
theorem nI_div {a d : Nat} (ha : a < 2 ^ 31) (h0 : 0 < d) (hd : d < 2 ^ 31) : nI a / nI d = nI (a / d) := pk_div ha h0 hd
theorem nI_rem {a d : Nat} (ha : a < 2 ^ 31) (h0 : 0 < d) (hd : d < 2 ^ 31) : remv (nI a) (nI d) = nI (a % d) := pk_rem ha h0 hd
theorem inb_nI {a n : Nat} (h : a < n) (hn : n < 2 ^ 31) : inb (nI a) n = true := by
  unfold inb
  rw [nI_toInt (by omega)]
  exact decide_eq_true (by omega)
theorem nzb_nI {a : Nat} (h : 0 < a) (hn : a < 2 ^ 31) : nzb (nI a) = true := decide_eq_true (nI_ne0 h hn)
theorem nm_toInt {n : Nat} (h : n < 2 ^ 31) : (nm n).toInt = -(n : Int) := by
  unfold nm
  rw [Int32.toInt_neg, nI_toInt h]
  rw [Int.bmod_def]
  omega
theorem nI_nm {a b : Nat} (ha : a < 2 ^ 31) (h0 : 0 < b) (hb : b < 2 ^ 31) : (nI a = nm b) = False := by
  refine eq_false fun h => ?_
  have := congrArg Int32.toInt h
  rw [nI_toInt ha, nm_toInt hb] at this
  omega
theorem nm_nI {a b : Nat} (ha : a < 2 ^ 31) (h0 : 0 < b) (hb : b < 2 ^ 31) : (nm b = nI a) = False := by
  refine eq_false fun h => ?_
  have := congrArg Int32.toInt h
  rw [nI_toInt ha, nm_toInt hb] at this
  omega
theorem nm_eq {a b : Nat} (ha : a < 2 ^ 31) (hb : b < 2 ^ 31) : nm a = nm b ↔ a = b := by
  rw [← Int32.toInt_inj, nm_toInt ha, nm_toInt hb]
  omega
theorem nI_le_nm {a b : Nat} (ha : a < 2 ^ 31) (h0 : 0 < b) (hb : b < 2 ^ 31) : (nI a ≤ nm b) = False := by
  refine eq_false ?_
  rw [Int32.le_iff_toInt_le, nI_toInt ha, nm_toInt hb]
  omega
theorem nI_lt_nm {a b : Nat} (ha : a < 2 ^ 31) (hb : b < 2 ^ 31) : (nI a < nm b) = False := by
  refine eq_false ?_
  rw [Int32.lt_iff_toInt_lt, nI_toInt ha, nm_toInt hb]
  omega
theorem nm_le_nI {a b : Nat} (ha : a < 2 ^ 31) (hb : b < 2 ^ 31) : (nm b ≤ nI a) = True := by
  refine eq_true ?_
  rw [Int32.le_iff_toInt_le, nI_toInt ha, nm_toInt hb]
  omega
theorem nm_lt_nI {a b : Nat} (ha : a < 2 ^ 31) (h0 : 0 < b) (hb : b < 2 ^ 31) : (nm b < nI a) = True := by
  refine eq_true ?_
  rw [Int32.lt_iff_toInt_lt, nI_toInt ha, nm_toInt hb]
  omega
/-! memory -/
theorem w1_1 {M : Mem} {a i b j : Nat} {x : Int32} : (w1 M a i x).1 b j = if b = a ∧ j = i then x else M.1 b j := by
  unfold w1
  by_cases h : b = a
  · subst h
    simp [upd]
  · simp [h]
theorem w1_2 {M : Mem} {a i : Nat} {x : Int32} : (w1 M a i x).2 = M.2 := rfl
theorem w2_1 {M : Mem} {a i : Nat} {x : UInt32} : (w2 M a i x).1 = M.1 := rfl
theorem w2_2 {M : Mem} {a i b j : Nat} {x : UInt32} : (w2 M a i x).2 b j = if b = a ∧ j = i then x else M.2 b j := by
  unfold w2
  by_cases h : b = a
  · subst h
    simp [vf_upd]
  · simp [h]
theorem wa_1 {M : Mem} {a b j : Nat} {f : Nat → Int32} : (wa M a f).1 b j = if b = a then f j else M.1 b j := by
  unfold wa
  by_cases h : b = a
  · subst h
    simp
  · simp [h]
theorem wa_2 {M : Mem} {a : Nat} {f : Nat → Int32} : (wa M a f).2 = M.2 := rfl
theorem w1_o {M : Mem} {a i b : Nat} {x : Int32} (h : b ≠ a) : (w1 M a i x).1 b = M.1 b := by simp [w1, h]
theorem w2_o {M : Mem} {a i b : Nat} {x : UInt32} (h : b ≠ a) : (w2 M a i x).2 b = M.2 b := by simp [w2, h]
theorem wa_o {M : Mem} {a b : Nat} {f : Nat → Int32} (h : b ≠ a) : (wa M a f).1 b = M.1 b := by simp [wa, h]
theorem upd_at {f : Nat → Int32} {i j : Nat} {x : Int32} : upd f i x j = if j = i then x else f j := rfl
theorem vfu_at {f : Nat → UInt32} {i j : Nat} {x : UInt32} : vf_upd f i x j = if j = i then x else f j := rfl

