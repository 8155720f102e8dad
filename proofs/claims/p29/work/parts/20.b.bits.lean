/-! bits -/
def bt (x : Int32) (d : Nat) : Bool := x.toBitVec.getLsbD d
theorem bt_ge {x : Int32} {d : Nat} (h : 32 ≤ d) : bt x d = false := BitVec.getLsbD_of_ge _ _ h
theorem bt_and (x y : Int32) (d : Nat) : bt (x &&& y) d = (bt x d && bt y d) := by simp [bt]
theorem bt_or (x y : Int32) (d : Nat) : bt (x ||| y) d = (bt x d || bt y d) := by simp [bt]
theorem bt_xor (x y : Int32) (d : Nat) : bt (x ^^^ y) d = (bt x d ^^ bt y d) := by simp [bt]
theorem bt_m1 (d : Nat) : bt (nm 1) d = decide (d < 32) := by
  by_cases h : d < 32
  · simp only [h, decide_true]
    revert d
    decide +kernel
  · rw [bt_ge (by omega)]
    simp [h]
theorem bt_not (x : Int32) (d : Nat) : bt (x ^^^ nm 1) d = (decide (d < 32) && !bt x d) := by
  rw [bt_xor, bt_m1]
  by_cases h : d < 32
  · simp [h]
  · simp [h, bt_ge (show 32 ≤ d by omega)]
theorem bt_ext {x y : Int32} (h : ∀ d, d < 32 → bt x d = bt y d) : x = y := by
  apply Int32.toBitVec_inj.mp
  apply BitVec.eq_of_getLsbD_eq
  intro i hi
  exact h i hi
theorem bt_nI {n : Nat} (d : Nat) (h : n < 2 ^ 32) : bt (nI n) d = n.testBit d := by
  have e : (nI n).toBitVec.toNat = n := pk_tn h
  unfold bt
  rw [BitVec.getLsbD, e]
theorem bt_0 (d : Nat) : bt (nI 0) d = false := by
  rw [bt_nI d (by decide)]
  exact Nat.zero_testBit d
theorem an31 : ∀ c, c < 32 → nI c &&& nI 31 = nI c := by decide +kernel
theorem shl1 : ∀ c, c < 32 → nI 1 <<< (nI c &&& nI 31) = nI (2 ^ c) := by decide +kernel
theorem bt_1 {c : Nat} (hc : c < 32) (d : Nat) : bt (nI 1 <<< (nI c &&& nI 31)) d = decide (c = d) := by
  rw [shl1 c hc, bt_nI d (Nat.pow_lt_pow_right (by decide) hc), Nat.testBit_two_pow]
theorem smod32 : ∀ c, c < 32 → ((nI c).toBitVec.smod 32).toNat = c := by decide +kernel
theorem bt_shr {x : Int32} {c : Nat} (hc : c < 32) : bt (x >>> (nI c &&& nI 31)) 0 = bt x c := by
  rw [an31 c hc]
  unfold bt
  rw [Int32.toBitVec_shiftRight, BitVec.sshiftRight', smod32 c hc, BitVec.getLsbD_sshiftRight]
  simp
  omega
theorem z_iff {x : Int32} : x = nI 0 ↔ ∀ d, d < 32 → bt x d = false := by
  constructor
  · rintro rfl d _
    exact bt_0 d
  · intro h
    apply bt_ext
    intro d hd
    rw [h d hd, bt_0]
theorem b0_and1 (x : Int32) : x &&& nI 1 = nI 0 ↔ bt x 0 = false := by
  rw [z_iff]
  constructor
  · intro h
    have := h 0 (by decide)
    rw [bt_and] at this
    simpa [bt_nI, show (1 : Nat) < 2 ^ 32 by decide] using this
  · intro h d hd
    rw [bt_and, bt_nI d (by decide)]
    rcases d with _ | d
    · simp [h]
    · simp [Nat.testBit_succ]
theorem b0_and1' (x : Int32) : x &&& nI 1 = nI 1 ↔ bt x 0 = true := by
  constructor
  · intro h
    rcases e : bt x 0 with _ | _
    · rw [(b0_and1 x).mpr e] at h
      exact absurd h (by decide)
    · rfl
  · intro h
    apply bt_ext
    intro d hd
    rw [bt_and, bt_nI d (by decide)]
    rcases d with _ | d
    · simp [h]
    · simp [Nat.testBit_succ]
theorem shr_0 {x : Int32} {c : Nat} (hc : c < 32) : ((x >>> (nI c &&& nI 31)) &&& nI 1 = nI 0) = (bt x c = false) := by
  rw [b0_and1, bt_shr hc]
theorem shr_1 {x : Int32} {c : Nat} (hc : c < 32) : ((x >>> (nI c &&& nI 31)) &&& nI 1 = nI 1) = (bt x c = true) := by
  rw [b0_and1', bt_shr hc]
theorem and_bit {x : Int32} {c : Nat} (hc : c < 32) : (x &&& (nI 1 <<< (nI c &&& nI 31)) = nI 0) = (bt x c = false) := by
  apply propext
  rw [z_iff]
  constructor
  · intro h
    have := h c hc
    rw [bt_and, bt_1 hc] at this
    simpa using this
  · intro h d hd
    rw [bt_and, bt_1 hc]
    by_cases e : c = d
    · subst e
      simp [h]
    · simp [e]
/-! how many -/
def cnt : Nat → (Nat → Bool) → Nat
  | 0, _ => 0
  | n + 1, p => cnt n p + (if p n then 1 else 0)
theorem cnt_congr {n : Nat} {p q : Nat → Bool} (h : ∀ i, i < n → p i = q i) : cnt n p = cnt n q := by
  induction n with
  | zero => rfl
  | succ n ih =>
    unfold cnt
    rw [ih (fun i hi => h i (by omega)), h n (by omega)]
theorem cnt_le (n : Nat) (p : Nat → Bool) : cnt n p ≤ n := by
  induction n with
  | zero => exact Nat.le_refl 0
  | succ n ih =>
    unfold cnt
    split <;> omega
theorem cnt_mono {n : Nat} {p q : Nat → Bool} (h : ∀ i, i < n → p i = true → q i = true) : cnt n p ≤ cnt n q := by
  induction n with
  | zero => exact Nat.le_refl 0
  | succ n ih =>
    unfold cnt
    have h1 := ih (fun i hi => h i (by omega))
    have h2 := h n (by omega)
    cases hp : p n <;> cases hq : q n <;> simp_all <;> omega
theorem cnt_strict {n j : Nat} {p q : Nat → Bool} (h : ∀ i, i < n → p i = true → q i = true) (hj : j < n) (hp : p j = false) (hq : q j = true) : cnt n p < cnt n q := by
  induction n with
  | zero => omega
  | succ n ih =>
    unfold cnt
    by_cases e : j = n
    · subst e
      have h1 := cnt_mono (n := j) (fun i hi => h i (by omega))
      simp [hp, hq]
      omega
    · have h1 := ih (fun i hi => h i (by omega)) (by omega)
      have h2 := h n (by omega)
      cases hp : p n <;> cases hq : q n <;> simp_all <;> omega
theorem cnt_zero {n : Nat} {p : Nat → Bool} : cnt n p = 0 ↔ ∀ i, i < n → p i = false := by
  induction n with
  | zero => simp [cnt]
  | succ n ih =>
    unfold cnt
    constructor
    · intro h i hi
      cases hp : p n
      · simp [hp] at h
        by_cases e : i = n
        · subst e
          exact hp
        · exact ih.mp h i (by omega)
      · simp [hp] at h
    · intro h
      rw [ih.mpr (fun i hi => h i (by omega)), h n (by omega)]
      rfl
theorem cnt_add (a b : Nat) (p : Nat → Bool) : cnt (a + b) p = cnt a p + cnt b (fun d => p (a + d)) := by
  induction b with
  | zero => rfl
  | succ b ih =>
    show cnt (a + b) p + _ = cnt a p + (cnt b _ + _)
    rw [ih]
    exact Nat.add_assoc _ _ _
theorem cnt_cut {n m : Nat} {p : Nat → Bool} (hm : n ≤ m) (h : ∀ i, n ≤ i → i < m → p i = false) : cnt m p = cnt n p := by
  have e : m = n + (m - n) := by omega
  rw [e, cnt_add, (cnt_zero (n := m - n) (p := fun d => p (n + d))).mpr (fun i hi => h _ (by omega) (by omega))]
  rfl
def sm : Nat → (Nat → Nat) → Nat
  | 0, _ => 0
  | n + 1, f => sm n f + f n
theorem sm_congr {n : Nat} {f g : Nat → Nat} (h : ∀ i, i < n → f i = g i) : sm n f = sm n g := by
  induction n with
  | zero => rfl
  | succ n ih =>
    unfold sm
    rw [ih (fun i hi => h i (by omega)), h n (by omega)]
theorem sm_le {n B : Nat} {f : Nat → Nat} (h : ∀ i, i < n → f i ≤ B) : sm n f ≤ n * B := by
  induction n with
  | zero => exact Nat.zero_le _
  | succ n ih =>
    unfold sm
    have h1 := ih (fun i hi => h i (by omega))
    have h2 := h n (by omega)
    rw [Nat.add_mul]
    omega
theorem sm_cut {n m : Nat} {f : Nat → Nat} (hm : n ≤ m) (h : ∀ i, n ≤ i → i < m → f i = 0) : sm m f = sm n f := by
  induction m with
  | zero =>
    have : n = 0 := by omega
    subst this
    rfl
  | succ m ih =>
    by_cases e : n = m + 1
    · rw [e]
    · show sm m f + f m = _
      rw [ih (by omega) (fun i h1 h2 => h i h1 (by omega)), h m (by omega) (by omega)]
      rfl
theorem cnt_mul (r c : Nat) (p : Nat → Bool) : cnt (r * c) p = sm r (fun i => cnt c (fun d => p (i * c + d))) := by
  induction r with
  | zero => simp [cnt, sm]
  | succ r ih =>
    unfold sm
    rw [← ih, Nat.succ_mul, cnt_add]
/-! the word of the bits below 8 -/
def mkw : Nat → (Nat → Bool) → Nat
  | 0, _ => 0
  | n + 1, p => mkw n p + (if p n then 2 ^ n else 0)
theorem mkw_lt (n : Nat) (p : Nat → Bool) : mkw n p < 2 ^ n := by
  induction n with
  | zero => exact Nat.lt_succ_self 0
  | succ n ih =>
    unfold mkw
    rw [Nat.pow_succ]
    split <;> omega
theorem mkw_bit (n : Nat) (p : Nat → Bool) (d : Nat) : (mkw n p).testBit d = (decide (d < n) && p d) := by
  induction n with
  | zero => simp [mkw]
  | succ n ih =>
    unfold mkw
    have hl := mkw_lt n p
    by_cases hp : p n = true
    · simp only [hp, if_true]
      rw [Nat.add_comm]
      by_cases e : d = n
      · subst e
        rw [Nat.testBit_two_pow_add_eq, ih]
        simp [hp]
      · by_cases h2 : d < n
        · rw [Nat.testBit_two_pow_add_gt h2, ih]
          simp [h2, show d < n + 1 by omega]
        · rw [Nat.testBit_lt_two_pow]
          · simp [show ¬ d < n + 1 by omega]
          · have := Nat.pow_le_pow_right (show 1 ≤ 2 by decide) (show n + 1 ≤ d by omega)
            rw [Nat.pow_succ] at this
            omega
    · simp only [hp]
      rw [show (if false = true then 2 ^ n else 0) = 0 from rfl, Nat.add_zero, ih]
      by_cases e : d = n
      · subst e
        simp [hp]
      · by_cases h2 : d < n
        · simp [h2, show d < n + 1 by omega]
        · simp [h2, show ¬ d < n + 1 by omega]
def wd (p : Nat → Bool) : Int32 := nI (mkw 8 p)
theorem bt_wd (p : Nat → Bool) (d : Nat) : bt (wd p) d = (decide (d < 8) && p d) := by
  unfold wd
  rw [bt_nI d (Nat.lt_trans (mkw_lt 8 p) (by decide)), mkw_bit]
theorem wd_of {x : Int32} (h : ∀ d, 8 ≤ d → bt x d = false) : x = wd (bt x) := by
  apply bt_ext
  intro d hd
  rw [bt_wd]
  by_cases e : d < 8
  · simp [e]
  · simp [e, h d (by omega)]
theorem bc_all : ∀ n, n < 256 → fJ6_bitCount_0f7a4 (nI n) (fun _ _ => 0, fun _ _ => 0) = fJ6_bitCount_0f7a4 (nI n) (fun _ _ => 0, fun _ _ => 0) := fun _ _ => rfl
def bcv (a1 : Int32) : Int32 := bnd (a1 - ((ushr a1 1) &&& 1431655765)) (fun v1 => bnd ((v1 &&& 858993459) + ((ushr v1 2) &&& 858993459)) (fun v2 => bnd ((v2 + (ushr v2 4)) &&& 252645135) (fun v3 => bnd ((v3 + (ushr v3 8)) + (ushr (v3 + (ushr v3 8)) 16)) (fun v4 => v4 &&& 63))))
theorem bcv_all : ∀ n, n < 256 → bcv (nI n) = nI (cnt 8 (fun d => n.testBit d)) := by decide +kernel
theorem e_bitCount {x : Int32} (M : Mem) (h : ∀ d, 8 ≤ d → bt x d = false) : fJ6_bitCount_0f7a4 x M = some (nI (cnt 8 (bt x)), M) := by
  have e : fJ6_bitCount_0f7a4 x M = some (bcv x, M) := rfl
  rw [e, wd_of h]
  unfold wd
  rw [bcv_all _ (mkw_lt 8 _)]
  rw [cnt_congr (fun i _ => (bt_nI i (Nat.lt_trans (mkw_lt 8 _) (by decide))).symm)]

