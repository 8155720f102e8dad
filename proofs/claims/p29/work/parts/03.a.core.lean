/-! THE CORE: the heap of the claim as a flat picture: 235 cells at fixed places (0: the class's object .. 234; 235: the reference .. 244); Mem: the ints and the floats that they hold; what a method does to a Mem is a function f_..; OX o pc L st M: 'from here the machine ends as o says' -/
abbrev Mem : Type := (Nat → Nat → Int32) × (Nat → Nat → UInt32)
abbrev bkG : Type := Nat × va_G × ClassId × ClassId × ClassId × Nat
def kdS : List Nat := [4, 0, 20, 20, 20, 20, 20, 20, 20, 20, 20, 6, 20, 6, 20, 5, 20, 20, 20, 20, 20, 20, 20, 5, 20, 20, 20, 20, 20, 20, 20, 3, 20]
def lnS : List Nat := [0, 0, 48, 48, 48, 48, 48, 6, 6, 6, 2, 0, 24, 0, 24, 0, 20, 20, 20, 20, 20, 20, 20, 0, 20, 20, 20, 20, 20, 20, 20, 0, 3]
def kdL : List Nat := 7 :: (kdS ++ (kdS ++ (kdS ++ (1 :: (kdS ++ (kdS ++ (kdS ++ (kdS ++ [2, 22]))))))))
def lnL : List Nat := 0 :: (lnS ++ (lnS ++ (lnS ++ (0 :: (lnS ++ (lnS ++ (lnS ++ (lnS ++ [0, 60]))))))))
def kd (k : Nat) : Nat := kdL.getD k 99
def ln (k : Nat) : Nat := lnL.getD k 0
theorem kdL_len : kdL.length = 235 := by decide +kernel
theorem kd_lt {k : Nat} (h : kd k < 99) : k < 235 := by
  rcases Nat.lt_or_ge k 235 with q | q
  · exact q
  · have e : kd k = 99 := by
      unfold kd
      rw [List.getD_eq_getElem?_getD, List.getElem?_eq_none (by rw [kdL_len]; exact q)]
      rfl
    omega
/-- what is true of all places below 235 of a kind is true of all of that kind -/
theorem kd_all {P : Nat → Prop} [DecidablePred P] {c : Nat} (hc : c < 99) (h : (List.range 235).all (fun k => decide (kd k = c → P k)) = true) : ∀ k, kd k = c → P k := by
  intro k hk
  have hl : k < 235 := kd_lt (by omega)
  have h1 := List.all_eq_true.mp h k (List.mem_range.mpr hl)
  exact (of_decide_eq_true h1) hk
abbrev rv (G : bkG) (k : Nat) : Value := .ref (G.1 + k)
def lm : Nat → Int32 := fun j => if j = 0 then 1073741825 else if j = 1 then 1082130433 else 1065353217
def flds (G : bkG) (M : Mem) (k : Nat) : Nat → List Value := fun ci => match ci with
  | 0 => [.int (M.1 k 0), .int (M.1 k 1), rv G (k + 1), rv G (k + 2), rv G (k + 3), rv G (k + 4), rv G (k + 5), rv G (k + 6), rv G (k + 7), rv G (k + 8), rv G (k + 9)]
  | 1 => [.int (M.1 k 0), rv G (M.1 k 1).toNatClampNeg, rv G (M.1 k 2).toNatClampNeg, rv G (M.1 k 3).toNatClampNeg, rv G (M.1 k 4).toNatClampNeg]
  | 2 => [.int (M.1 k 0), rv G (k + 1)]
  | 3 => [rv G (k + 1), .float (M.2 k 1), .float (M.2 k 2), .float (M.2 k 3)]
  | 4 => [rv G (k + 1), rv G (k + 11), rv G (k + 13), rv G (k + 15), rv G (k + 23), rv G (k + 31), .int (M.1 k 6), .int (M.1 k 7), .int (M.1 k 8), .int (M.1 k 9)]
  | 5 => [.int (M.1 k 0), rv G (k + 1), rv G (k + 2), rv G (k + 3), rv G (k + 4), rv G (k + 5), rv G (k + 6), rv G (k + 7)]
  | 6 => [.float (M.2 k 0), .float (M.2 k 1), .int (M.1 k 2), .int (M.1 k 3), .int (M.1 k 4), .int (M.1 k 5), .int (M.1 k 6), rv G (k + 1)]
  | 7 => [rv G (k + 1), rv G (k + 34), rv G (k + 67), rv G (k + 100), rv G (k + 233), .int (M.1 k 5)]
  | 8 => [rv G (k + 1), rv G (k + 2), rv G (k + 3), rv G (k + 4), rv G (k + 5), rv G (k + 6), rv G (k + 7), rv G (k + 8), .int (M.1 k 8), .int (M.1 k 9), rv G (k + 9), .int (M.1 k 11), .int (M.1 k 12), .int (M.1 k 13), .int (M.1 k 14)]
  | _ => []
def cel (G : bkG) (M : Mem) (k : Nat) : va_E := if kd k = 20 then .inl (G.2.2.1, ln k, .inl (M.1 k)) else if kd k = 21 then .inl (G.2.2.2.1, ln k, .inr (.inr (.inl (M.2 k)))) else if kd k = 22 then .inl (G.2.2.2.2.1, ln k, .inl (M.1 k)) else .inr (kd k, flds G M k (kd k))
def wo (G : bkG) (M : Mem) : va_W := (List.range 235).map (fun k => (G.1 + k, cel G M k))
def tysG (G : bkG) : List (ClassId × FieldType) := [(G.2.2.1, .int), (G.2.2.1, .int), (G.2.2.2.2.1, .char)]
def An (G : bkG) : Nat → Prop := fun q => G.1 ≤ q
theorem wo_at {G : bkG} {M : Mem} {k : Nat} (h : k < 235) : (wo G M)[k]? = some (G.1 + k, cel G M k) := by
  unfold wo
  rw [List.getElem?_map, List.getElem?_range h]
  rfl
theorem wo_len {G : bkG} {M : Mem} : (wo G M).length = 235 := by simp [wo]
theorem wo_D (G : bkG) (M : Mem) : va_D (An G) (wo G M) := by
  have key : ∀ (k : Nat) (q : Nat × va_E), (wo G M)[k]? = some q → k < 235 ∧ q.1 = G.1 + k := by
    intro k q hk
    have hl : k < 235 := by
      have := (List.getElem?_eq_some_iff.mp hk).1
      rw [wo_len] at this
      exact this
    rw [wo_at hl] at hk
    cases hk
    exact ⟨hl, rfl⟩
  refine ⟨fun i j x y hi hj hxy => ?_, fun k q hk => ?_⟩
  · have h1 := (key i x hi).2
    have h2 := (key j y hj).2
    omega
  · have h1 := (key k q hk).2
    show G.1 ≤ q.1
    omega
theorem wo_set {G : bkG} {M M' : Mem} {k : Nat} {e : va_E} (h : k < 235) (he : cel G M' k = e) (ho : ∀ j, j ≠ k → cel G M' j = cel G M j) : (wo G M).set k (G.1 + k, e) = wo G M' := by
  apply List.ext_getElem?
  intro j
  by_cases hj : j = k
  · subst hj
    rw [List.getElem?_set_self (by rw [wo_len]; exact h), wo_at h, he]
  · rw [List.getElem?_set_ne (Ne.symm hj)]
    rcases Nat.lt_or_ge j 235 with q | q
    · rw [wo_at q, wo_at q, ho j hj]
    · rw [List.getElem?_eq_none (by rw [wo_len]; exact q), List.getElem?_eq_none (by rw [wo_len]; exact q)]
def w1 (M : Mem) (a i : Nat) (x : Int32) : Mem := (fun b => if b = a then upd (M.1 a) i x else M.1 b, M.2)
def w2 (M : Mem) (a i : Nat) (x : UInt32) : Mem := (M.1, fun b => if b = a then vf_upd (M.2 a) i x else M.2 b)
/-- a whole array anew -/
def wa (M : Mem) (a : Nat) (f : Nat → Int32) : Mem := (fun b => if b = a then f else M.1 b, M.2)
theorem w1_self {M : Mem} {a i : Nat} {x : Int32} : (w1 M a i x).1 a = upd (M.1 a) i x := by simp [w1]
theorem w2_self {M : Mem} {a i : Nat} {x : UInt32} : (w2 M a i x).2 a = vf_upd (M.2 a) i x := by simp [w2]
theorem wa_self {M : Mem} {a : Nat} {f : Nat → Int32} : (wa M a f).1 a = f := by simp [wa]
theorem flds_congr {G : bkG} {M M' : Mem} {k ci : Nat} (h1 : M'.1 k = M.1 k) (h2 : M'.2 k = M.2 k) : flds G M' k ci = flds G M k ci := by
  unfold flds
  rw [h1, h2]
theorem cel_congr {G : bkG} {M M' : Mem} {k : Nat} (h1 : M'.1 k = M.1 k) (h2 : M'.2 k = M.2 k) : cel G M' k = cel G M k := by
  unfold cel
  rw [h1, h2, flds_congr h1 h2]
theorem w1_other {G : bkG} {M : Mem} {a i : Nat} {x : Int32} : ∀ j, j ≠ a → cel G (w1 M a i x) j = cel G M j := fun j hj => cel_congr (by simp [w1, hj]) rfl
theorem w2_other {G : bkG} {M : Mem} {a i : Nat} {x : UInt32} : ∀ j, j ≠ a → cel G (w2 M a i x) j = cel G M j := fun j hj => cel_congr rfl (by simp [w2, hj])
theorem wa_other {G : bkG} {M : Mem} {a : Nat} {f : Nat → Int32} : ∀ j, j ≠ a → cel G (wa M a f) j = cel G M j := fun j hj => cel_congr (by simp [wa, hj]) rfl
theorem cel_i {G : bkG} {M : Mem} {a : Nat} (h : kd a = 20) : cel G M a = .inl (G.2.2.1, ln a, .inl (M.1 a)) := by unfold cel; rw [if_pos h]
theorem cel_f {G : bkG} {M : Mem} {a : Nat} (h : kd a = 21) : cel G M a = .inl (G.2.2.2.1, ln a, .inr (.inr (.inl (M.2 a)))) := by unfold cel; rw [if_neg (by omega), if_pos h]
theorem cel_c {G : bkG} {M : Mem} {a : Nat} (h : kd a = 22) : cel G M a = .inl (G.2.2.2.2.1, ln a, .inl (M.1 a)) := by unfold cel; rw [if_neg (by omega), if_neg (by omega), if_pos h]
theorem cel_o {G : bkG} {M : Mem} {a ci : Nat} (h : kd a = ci) (hc : ci < 20) : cel G M a = .inr (ci, flds G M a ci) := by
  subst h
  unfold cel
  rw [if_neg (by omega), if_neg (by omega), if_neg (by omega)]
theorem at_i {G : bkG} {M : Mem} {a : Nat} (h : kd a = 20) : (wo G M)[a]? = some (G.1 + a, .inl (G.2.2.1, ln a, .inl (M.1 a))) := by rw [wo_at (kd_lt (by omega)), cel_i h]
theorem at_f {G : bkG} {M : Mem} {a : Nat} (h : kd a = 21) : (wo G M)[a]? = some (G.1 + a, .inl (G.2.2.2.1, ln a, .inr (.inr (.inl (M.2 a))))) := by rw [wo_at (kd_lt (by omega)), cel_f h]
theorem at_c {G : bkG} {M : Mem} {a : Nat} (h : kd a = 22) : (wo G M)[a]? = some (G.1 + a, .inl (G.2.2.2.2.1, ln a, .inl (M.1 a))) := by rw [wo_at (kd_lt (by omega)), cel_c h]
theorem at_o {G : bkG} {M : Mem} {a ci : Nat} (h : kd a = ci) (hc : ci < 20) : (wo G M)[a]? = some (G.1 + a, .inr (ci, flds G M a ci)) := by rw [wo_at (kd_lt (by omega)), cel_o h hc]
/-- the locals by their places -/
def lh (ls : Array Slot) (nL : Nat) (L : List (Option Value)) : Prop := ls.size = nL ∧ lv_wf ls ∧ ∀ (i : Nat) (v : Value), L[i]? = some (some v) → ls[i]? = some (.val v)
def lh_l (L : List (Option Value)) : List (Nat × Value) := L.zipIdx.filterMap (fun q => q.1.map (fun v => (q.2, v)))
theorem lh_lv {ls : Array Slot} {nL : Nat} {L : List (Option Value)} (h : lh ls nL L) : lv_has ls nL (lh_l L) := by
  refine ⟨h.1, h.2.1, fun q hq => ?_⟩
  unfold lh_l at hq
  obtain ⟨x, hx, he⟩ := List.mem_filterMap.mp hq
  obtain ⟨o, i⟩ := x
  have hx2 := List.mem_zipIdx_iff_getElem?.mp hx
  cases o with
  | none => simp at he
  | some v =>
    simp at he
    subst he
    exact h.2.2 i v hx2
theorem lh_wk {ls : Array Slot} {nL : Nat} {L L2 : List (Option Value)} (h : lh ls nL L) (h2 : ∀ (i : Nat) (v : Value), L2[i]? = some (some v) → L[i]? = some (some v)) : lh ls nL L2 := ⟨h.1, h.2.1, fun i v hv => h.2.2 i v (h2 i v hv)⟩
/-- behind a store -/
theorem lh_st {ls' : Array Slot} {nL i : Nat} {v : Value} {L : List (Option Value)} (h : lv_has ls' nL ((i, v) :: (lh_l L).filter (fun q => !(q.1 == i) && !(q.1 + 1 == i && q.2.category == 2)))) (hc : ∀ (j : Nat) (w : Value), L[j]? = some (some w) → w.category = 1) (hi : i < L.length) : lh ls' nL (L.set i (some v)) := by
  refine ⟨h.1, h.2.1, fun j w hw => ?_⟩
  by_cases hj : j = i
  · subst hj
    rw [List.getElem?_set_self hi] at hw
    cases hw
    exact h.2.2 (j, v) List.mem_cons_self
  · rw [List.getElem?_set_ne (Ne.symm hj)] at hw
    refine h.2.2 (j, w) (List.mem_cons_of_mem _ (List.mem_filter.mpr ⟨List.mem_filterMap.mpr ⟨(some w, j), List.mem_zipIdx_iff_getElem?.mpr hw, rfl⟩, ?_⟩))
    have h1 := hc j w hw
    simp [hj, h1]
/-- all values that are listed are of one slot -/
def c1 : List (Option Value) → Bool
  | [] => true
  | none :: r => c1 r
  | some v :: r => (v.category == 1) && c1 r
theorem c1_spec : ∀ {L : List (Option Value)}, c1 L = true → ∀ (j : Nat) (w : Value), L[j]? = some (some w) → w.category = 1
  | [], _, j, w, h => by simp at h
  | none :: r, hc, 0, w, h => by simp at h
  | none :: r, hc, j + 1, w, h => c1_spec (L := r) (by simpa [c1] using hc) j w (by simpa using h)
  | some v :: r, hc, 0, w, h => by
    simp [c1] at hc
    simp at h
    rw [← h]
    exact hc.1
  | some v :: r, hc, j + 1, w, h => c1_spec (L := r) (by simp [c1] at hc; exact hc.2) j w (by simpa using h)
/-- fewer values listed -/
def wk : List (Option Value) → List (Option Value) → Prop
  | _, [] => True
  | [], b :: r2 => b = none ∧ wk [] r2
  | a :: r, b :: r2 => (b = none ∨ b = a) ∧ wk r r2
theorem wk_spec : ∀ {L L2 : List (Option Value)}, wk L L2 → ∀ (i : Nat) (v : Value), L2[i]? = some (some v) → L[i]? = some (some v)
  | _, [], _, i, v, h => by simp at h
  | [], b :: r2, hw, 0, v, h => by
    simp at h
    rw [hw.1] at h
    cases h
  | [], b :: r2, hw, i + 1, v, h => by
    have := wk_spec (L := []) (L2 := r2) hw.2 i v (by simpa using h)
    simp at this
  | a :: r, b :: r2, hw, 0, v, h => by
    simp at h
    rcases hw.1 with q | q
    · rw [q] at h; cases h
    · simp [← q, h]
  | a :: r, b :: r2, hw, i + 1, v, h => by
    have := wk_spec (L := r) (L2 := r2) hw.2 i v (by simpa using h)
    simpa using this
theorem lv_args_mem : ∀ (av : List Value) (k : Nat), (∀ v ∈ av, v.category = 1) → ∀ (i : Nat) (v : Value), av[i]? = some v → (k + i, v) ∈ lv_args k av
  | [], k, _, i, v, h => by simp at h
  | a :: r, k, hc, 0, v, h => by
    simp at h
    subst h
    exact List.mem_cons_self
  | a :: r, k, hc, i + 1, v, h => by
    have h1 : a.category = 1 := hc a List.mem_cons_self
    have := lv_args_mem r (k + 1) (fun w hw => hc w (List.mem_cons_of_mem _ hw)) i v (by simpa using h)
    rw [lv_args, if_neg (by omega)]
    exact List.mem_cons_of_mem _ (by rw [show k + (i + 1) = k + 1 + i by omega]; exact this)
theorem sl_len : ∀ (av : List Value), (∀ v ∈ av, v.category = 1) → (lg_sl av).length = av.length
  | [], _ => rfl
  | a :: r, hc => by
    have h1 : a.category = 1 := hc a List.mem_cons_self
    have := sl_len r (fun w hw => hc w (List.mem_cons_of_mem _ hw))
    simp only [lg_sl, List.flatMap_cons] at this ⊢
    rw [if_neg (by omega)]
    simp [this]
theorem lh_in (av : List Value) (n : Nat) (hc : ∀ v ∈ av, v.category = 1) (hn : av.length ≤ n) {L : List (Option Value)} (hL : av.map some ++ List.replicate (n - av.length) none = L) : lh ((lg_sl av ++ List.replicate (n - (lg_sl av).length) Slot.unset).toArray) n L := by
  have h := lv_entry av (n := n) (by rw [sl_len av hc]; exact hn)
  refine ⟨h.1, h.2.1, fun i v hv => ?_⟩
  subst hL
  by_cases hi : i < av.length
  · rw [List.getElem?_append_left (by simpa using hi), List.getElem?_map] at hv
    have h2 : av[i]? = some v := by
      cases hq : av[i]? with
      | none => rw [hq] at hv; cases hv
      | some w => rw [hq] at hv; simp at hv; rw [hv]
    have := lv_args_mem av 0 hc i v h2
    exact h.2.2 (i, v) (by simpa using this)
  · rw [List.getElem?_append_right (by simpa using Nat.not_lt.mp hi)] at hv
    have := List.eq_of_mem_replicate (List.mem_of_getElem? hv)
    cases this
