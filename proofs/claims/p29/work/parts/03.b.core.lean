def Wd (G : bkG) (M : Mem) (U : State) : Prop := va_P G.2.1 vwCl (wo G M) U.heap ∧ va_K G.2.1 vwCl (tysG G) U ∧ va_Z "BlanketKeys$Settings" "LEAST_TOO_MUCH" "[I" (.ref G.2.2.2.2.2) (An G) U U.heap ∧ va_T .int G.2.2.2.2.2 3 (fun j => .int (lm j)) (An G) U U.heap
def QQ (G : bkG) (v : Option Value) (M' : Mem) : Array Value → State → Outcome → State → Prop := fun _ st oc t => oc = .returned v ∧ va_P G.2.1 vwCl (wo G M') t.heap ∧ va_F (An G) st t
/-- what holds all along a body: the machine, the code, the words, the classes, the static array -/
def Cx (G : bkG) (p : Program) (s : State) (m : MethodId) (args : Array Value) (meth : Method) (c : Code) (cc : ByteArray) (nL : Nat) (own : String) (ret : Option FieldType) : Prop :=
  p.tables.exec = Jvm.exec ∧ c.code = cc ∧ c.maxLocals = nL ∧ s.vm.findClass own = some m.cls ∧ (∀ w ∈ TT, w.before args s = true) ∧ va_K G.2.1 vwCl (tysG G) s ∧
  va_Z "BlanketKeys$Settings" "LEAST_TOO_MUCH" "[I" (.ref G.2.2.2.2.2) (An G) s s.heap ∧ va_T .int G.2.2.2.2.2 3 (fun j => .int (lm j)) (An G) s s.heap ∧ meth.sig.returnType = ret ∧ meth.locks = false
def OX {β : Type} (G : bkG) (p : Program) (l : Launch) (e : Env) (R : Room) (s : State) (m : MethodId) (args : Array Value) (below : List Frame) (meth : Method) (c : Code) (nL cells slots : Nat) (Z : β → State → Prop) (o : Option β) (pc : Nat) (L : List (Option Value)) (st : List Value) (M : Mem) : Prop :=
  ∀ r, o = some r → ∀ (H : Heap) (locs : List Loc) (ls : Array Slot), lh ls nL L → va_P G.2.1 vwCl (wo G M) H → va_S (An G) s.heap H locs → W p l e R s m args below meth c H locs cells slots (Z r) (F0 m pc ls st)
/-- the end of a method whose answer is told by vl -/
abbrev Zm {α : Type} (vl : α → Option Value) (G : bkG) (below : List Frame) (args : Array Value) (s : State) : α × Mem → State → Prop := fun r => MQ below (QQ G (vl r.1) r.2) args s 0 0 (An G)
theorem mkMet {α : Type} {vl : α → Option Value} {l : Launch} {y : MethodName} {cc : ByteArray} {maxL : Nat} {ret : Option FieldType} {rm : Room} {av : List Value} {G : bkG} {M : Mem} {o : Option (α × Mem)} (own : String) (hown0 : y.cls = own) (hy : plainFor y = true) (hc : c1 (av.map some) = true) (hn : av.length ≤ maxL) (L : List (Option Value)) (hL : av.map some ++ List.replicate (maxL - av.length) none = L)
    (body : ∀ (p : Program) (e : Env) (s : State) (m : MethodId) (args : Array Value) (below : List Frame) (meth : Method) (c : Code), Cx G p s m args meth c cc maxL own ret → (y.name = "<init>" → meth.name = "<init>") →
      OX G p l e rm s m args below meth c maxL 0 0 (Zm vl G below args s) o 0 L [] M) :
    ∀ r, o = some r → Met l y (Cond.code y cc maxL ret :: TT) rm (va_Pc av (Wd G M)) (QQ G (vl r.1) r.2) 0 0 (An G) := by
  intro r hr
  refine va_MetF (cc := cc) (maxL := maxL) (ret := ret) hy rfl ?_
  intro p e s m args below meth c s₁ B hml hv
  obtain ⟨rfl, hP, hK, hZ, hT⟩ := hv
  have hts := atoms_spec (ws := Cond.code y cc maxL ret :: TT) B.pre
  have hown : s.vm.findClass y.cls = some m.cls := findClass_of_methodNamed B.named
  rw [hown0] at hown
  rw [lg_entry_eq]
  exact body p e s m av.toArray below meth c ⟨B.exec, B.bytes, hml, hown, fun w h => hts w (List.mem_cons_of_mem _ h), hK, hZ, hT, B.returns, B.notSynchronized⟩ (fun h => by rw [← h]; exact (name_of_methodNamed B.named B.method).1) r hr s.heap [] _
    (lh_in av maxL (fun v hv => by
      obtain ⟨i, hi⟩ := List.getElem?_of_mem hv
      exact c1_spec hc i v (by rw [List.getElem?_map, hi]; rfl)) hn hL) hP va_S.rf
theorem wd_blind (G : bkG) (M : Mem) (av : List Value) : FrameBlind (va_Pc av (Wd G M)) := by
  intro a U g mk h
  obtain ⟨h1, h2, h3, h4, h5⟩ := h
  exact ⟨h1, h2, va_K.moved (u := U) (U := U.calling g mk a) (Vm.Alike.refl U.vm) h3, va_Z.moved (u := U) (U := U.calling g mk a) (Vm.Alike.refl U.vm) h4, va_T.moved (u := U) (U := U.calling g mk a) (Vm.Alike.refl U.vm) h5⟩
/-! the words of the answers -/
def asr {β : Type} (b : Bool) (k : Option β) : Option β := if b = true then k else none
def bnd {γ δ : Type} (e : γ) (k : γ → δ) : δ := k e
def cal {γ β : Type} (x : Option (γ × Mem)) (k : γ → Mem → Option β) : Option β := match x with
  | none => none
  | some r => k r.1 r.2
def jn {γ β δ : Type} (K : γ → Mem → Option β) (F : (γ → Mem → Option β) → δ) : δ := F K
def lp {γ β : Type} (F : (γ → Mem → Option β) → γ → Mem → Option β) : Nat → γ → Mem → Option β
  | 0 => fun _ _ => none
  | n + 1 => F (lp F n)
def inb (i : Int32) (n : Nat) : Bool := decide (0 ≤ i.toInt ∧ i.toInt < n)
theorem inb_in {i : Int32} {n : Nat} (h : inb i n = true) : vp_in i n := vp_in_iff.mpr (of_decide_eq_true h)
def nzb (x : Int32) : Bool := decide (¬ x = 0)
def nnb (r : UInt32) : Bool := decide (r &&& 0x7fffffff ≤ 0x7f800000)
theorem nnb_n {r : UInt32} (h : nnb r = true) : vf_n32 r := by
  unfold vf_n32
  exact of_decide_eq_true h
def kdb (k c : Nat) : Bool := decide (kd k = c)
def ngb (i : Int32) : Bool := decide (0 ≤ i.toInt)
def i2cv (x : Int32) : Int32 := (x.toUInt32 % 65536).toInt32
def ushr (x y : Int32) : Int32 := (x.toUInt32 >>> (y.toUInt32 &&& Int32.toUInt32 31)).toInt32
def remv (x y : Int32) : Int32 := x - x / y * y
def fcg (x y : UInt32) : Int32 := Op.cmpValue (FP.fcmp x y) CmpOp.g
def fcl (x y : UInt32) : Int32 := Op.cmpValue (FP.fcmp x y) CmpOp.l
theorem asr_some {β : Type} {b : Bool} {k : Option β} {r : β} (h : asr b k = some r) : b = true ∧ k = some r := by
  unfold asr at h
  split at h
  · exact ⟨by assumption, h⟩
  · cases h
theorem cal_some {γ β : Type} {x : Option (γ × Mem)} {k : γ → Mem → Option β} {r : β} (h : cal x k = some r) : ∃ v M1, x = some (v, M1) ∧ k v M1 = some r := by
  unfold cal at h
  cases x with
  | none => cases h
  | some q => exact ⟨q.1, q.2, rfl, h⟩
section ROWS
variable {β : Type} {G : bkG} {p : Program} {l : Launch} {e : Env} {R : Room} {s : State} {m : MethodId} {args : Array Value} {below : List Frame} {meth : Method} {c : Code} {nL cells slots : Nat} {Z : β → State → Prop}
variable {cc : ByteArray} {own : String} {ret : Option FieldType} {o : Option β} {pc : Nat} {L : List (Option Value)} {st : List Value} {M : Mem}
theorem x_asr {b : Bool} (kk : b = true → OX G p l e R s m args below meth c nL cells slots Z o pc L st M) : OX G p l e R s m args below meth c nL cells slots Z (asr b o) pc L st M := fun r hr => kk (asr_some hr).1 r (asr_some hr).2
theorem x_topi {x : Int32} {k : Int32 → Option β} (kk : ∀ y, OX G p l e R s m args below meth c nL cells slots Z (k y) pc L (.int y :: st) M) : OX G p l e R s m args below meth c nL cells slots Z (bnd x k) pc L (.int x :: st) M := kk x
theorem x_topf {x : UInt32} {k : UInt32 → Option β} (kk : ∀ y, OX G p l e R s m args below meth c nL cells slots Z (k y) pc L (.float y :: st) M) : OX G p l e R s m args below meth c nL cells slots Z (bnd x k) pc L (.float x :: st) M := kk x
theorem x_ite {q : Prop} {_ : Decidable q} {a b : Option β} (kt : q → OX G p l e R s m args below meth c nL cells slots Z a pc L st M) (kf : ¬ q → OX G p l e R s m args below meth c nL cells slots Z b pc L st M) : OX G p l e R s m args below meth c nL cells slots Z (if q then a else b) pc L st M := by
  by_cases h : q
  · rw [if_pos h]; exact kt h
  · rw [if_neg h]; exact kf h
theorem x_wk (L2 : List (Option Value)) (hw : wk L L2) (kk : OX G p l e R s m args below meth c nL cells slots Z o pc L2 st M) : OX G p l e R s m args below meth c nL cells slots Z o pc L st M := fun r hr H locs ls hl hP hS => kk r hr H locs ls (lh_wk hl (wk_spec hw)) hP hS
theorem x_jn {γ : Type} {K : γ → Mem → Option β} {F : (γ → Mem → Option β) → Option β} (pcJ : Nat) (P : γ → List (Option Value)) (S : γ → List Value) (hJ : ∀ b M1, OX G p l e R s m args below meth c nL cells slots Z (K b M1) pcJ (P b) (S b) M1)
    (hF : ∀ j : γ → Mem → Option β, (∀ b M1, OX G p l e R s m args below meth c nL cells slots Z (j b M1) pcJ (P b) (S b) M1) → OX G p l e R s m args below meth c nL cells slots Z (F j) pc L st M) : OX G p l e R s m args below meth c nL cells slots Z (jn K F) pc L st M := hF K hJ
theorem x_lp {γ : Type} {F : (γ → Mem → Option β) → γ → Mem → Option β} (P : γ → List (Option Value)) {n : Nat} {b : γ}
    (h : ∀ rec : γ → Mem → Option β, (∀ b M1, OX G p l e R s m args below meth c nL cells slots Z (rec b M1) pc (P b) [] M1) → ∀ b M1, OX G p l e R s m args below meth c nL cells slots Z (F rec b M1) pc (P b) [] M1) : OX G p l e R s m args below meth c nL cells slots Z (lp F n b M) pc (P b) [] M := by
  have key : ∀ (n : Nat) (b : γ) (M1 : Mem), OX G p l e R s m args below meth c nL cells slots Z (lp F n b M1) pc (P b) [] M1 := by
    intro n
    induction n with
    | zero => exact fun b M1 r hr => by cases hr
    | succ n ih => exact h _ ih
  exact key n b M
theorem x_topr {x : Nat} {k : Nat → Option β} (kk : ∀ y, OX G p l e R s m args below meth c nL cells slots Z (k y) pc L (rv G y :: st) M) : OX G p l e R s m args below meth c nL cells slots Z (bnd x k) pc L (rv G x :: st) M := kk x
theorem x_lp1 {γ δ1 : Type} {F : (δ1 → Mem → Option β) → (γ → Mem → Option β) → γ → Mem → Option β} {K1 : δ1 → Mem → Option β} (P : γ → List (Option Value)) (pc1 : Nat) (P1 : δ1 → List (Option Value)) {n : Nat} {b : γ}
    (h1 : ∀ b M1, OX G p l e R s m args below meth c nL cells slots Z (K1 b M1) pc1 (P1 b) [] M1)
    (h : ∀ K1 : δ1 → Mem → Option β, (∀ b M1, OX G p l e R s m args below meth c nL cells slots Z (K1 b M1) pc1 (P1 b) [] M1) → ∀ rec : γ → Mem → Option β, (∀ b M1, OX G p l e R s m args below meth c nL cells slots Z (rec b M1) pc (P b) [] M1) → ∀ b M1, OX G p l e R s m args below meth c nL cells slots Z (F K1 rec b M1) pc (P b) [] M1) : OX G p l e R s m args below meth c nL cells slots Z (lp (F K1) n b M) pc (P b) [] M := x_lp P (h K1 h1)
theorem x_lp2 {γ δ1 δ2 : Type} {F : (δ1 → Mem → Option β) → (δ2 → Mem → Option β) → (γ → Mem → Option β) → γ → Mem → Option β} {K1 : δ1 → Mem → Option β} {K2 : δ2 → Mem → Option β} (P : γ → List (Option Value)) (pc1 : Nat) (P1 : δ1 → List (Option Value)) (pc3 : Nat) (P2 : δ2 → List (Option Value)) {n : Nat} {b : γ}
    (h1 : ∀ b M1, OX G p l e R s m args below meth c nL cells slots Z (K1 b M1) pc1 (P1 b) [] M1) (h2 : ∀ b M1, OX G p l e R s m args below meth c nL cells slots Z (K2 b M1) pc3 (P2 b) [] M1)
    (h : ∀ (K1 : δ1 → Mem → Option β) (K2 : δ2 → Mem → Option β), (∀ b M1, OX G p l e R s m args below meth c nL cells slots Z (K1 b M1) pc1 (P1 b) [] M1) → (∀ b M1, OX G p l e R s m args below meth c nL cells slots Z (K2 b M1) pc3 (P2 b) [] M1) → ∀ rec : γ → Mem → Option β, (∀ b M1, OX G p l e R s m args below meth c nL cells slots Z (rec b M1) pc (P b) [] M1) → ∀ b M1, OX G p l e R s m args below meth c nL cells slots Z (F K1 K2 rec b M1) pc (P b) [] M1) : OX G p l e R s m args below meth c nL cells slots Z (lp (F K1 K2) n b M) pc (P b) [] M := x_lp P (h K1 K2 h1 h2)
theorem x_iconst (C : Cx G p s m args meth c cc nL own ret) {n : Int} {v : Int32} {pc2 : Nat} (hdg : decode cc pc = .ok (.iconst n, 1)) (hp : pc + 1 = pc2) (hv : Int32.ofInt n = v) (kk : OX G p l e R s m args below meth c nL cells slots Z o pc2 L (.int v :: st) M) : OX G p l e R s m args below meth c nL cells slots Z o pc L st M := by
  subst hp
  exact fun r hr H locs ls hl hP hS => lv_iconst C.1 C.2.1 hdg hv (kk r hr H locs ls hl hP hS)
theorem x_bipush (C : Cx G p s m args meth c cc nL own ret) {n : Int} {v : Int32} {pc2 : Nat} (hdg : decode cc pc = .ok (.bipush n, 2)) (hp : pc + 2 = pc2) (hv : (Int8.ofInt n).toInt32 = v) (kk : OX G p l e R s m args below meth c nL cells slots Z o pc2 L (.int v :: st) M) : OX G p l e R s m args below meth c nL cells slots Z o pc L st M := by
  subst hp
  exact fun r hr H locs ls hl hP hS => lv_bipush C.1 C.2.1 hdg hv (kk r hr H locs ls hl hP hS)
theorem x_sipush (C : Cx G p s m args meth c cc nL own ret) {n : Int} {v : Int32} {pc2 : Nat} (hdg : decode cc pc = .ok (.sipush n, 3)) (hp : pc + 3 = pc2) (hv : (Int16.ofInt n).toInt32 = v) (kk : OX G p l e R s m args below meth c nL cells slots Z o pc2 L (.int v :: st) M) : OX G p l e R s m args below meth c nL cells slots Z o pc L st M := by
  subst hp
  exact fun r hr H locs ls hl hP hS => lv_sipush C.1 C.2.1 hdg hv (kk r hr H locs ls hl hP hS)
theorem x_ldc (C : Cx G p s m args meth c cc nL own ret) {ix : Nat} {v : Int32} {pc2 : Nat} (hw : Cond.constant own ix v ∈ TT) (hdg : decode cc pc = .ok (.ldc ix, 2)) (hp : pc + 2 = pc2) (kk : OX G p l e R s m args below meth c nL cells slots Z o pc2 L (.int v :: st) M) : OX G p l e R s m args below meth c nL cells slots Z o pc L st M := by
  subst hp
  exact fun r hr H locs ls hl hP hS => lv_ldc C.1 C.2.1 C.2.2.2.1 (C.2.2.2.2.1 _ hw) hdg (kk r hr H locs ls hl hP hS)
theorem x_ldcw (C : Cx G p s m args meth c cc nL own ret) {ix : Nat} {v : Int32} {pc2 : Nat} (hw : Cond.constant own ix v ∈ TT) (hdg : decode cc pc = .ok (.ldc_w ix, 3)) (hp : pc + 3 = pc2) (kk : OX G p l e R s m args below meth c nL cells slots Z o pc2 L (.int v :: st) M) : OX G p l e R s m args below meth c nL cells slots Z o pc L st M := by
  subst hp
  exact fun r hr H locs ls hl hP hS => lv_ldcw C.1 C.2.1 C.2.2.2.1 (C.2.2.2.2.1 _ hw) hdg (kk r hr H locs ls hl hP hS)
theorem x_ldcf (C : Cx G p s m args meth c cc nL own ret) {ix : Nat} {v : UInt32} {pc2 : Nat} (hw : Cond.constantFloat own ix v ∈ TT) (hdg : decode cc pc = .ok (.ldc ix, 2)) (hp : pc + 2 = pc2) (kk : OX G p l e R s m args below meth c nL cells slots Z o pc2 L (.float v :: st) M) : OX G p l e R s m args below meth c nL cells slots Z o pc L st M := by
  subst hp
  exact fun r hr H locs ls hl hP hS => lv_ldcf C.1 C.2.1 C.2.2.2.1 (C.2.2.2.2.1 _ hw) hdg (kk r hr H locs ls hl hP hS)
theorem x_fconst0 (C : Cx G p s m args meth c cc nL own ret) {pc2 : Nat} (hdg : decode cc pc = .ok (.fconst 0, 1)) (hp : pc + 1 = pc2) (kk : OX G p l e R s m args below meth c nL cells slots Z o pc2 L (.float FP.fconst0 :: st) M) : OX G p l e R s m args below meth c nL cells slots Z o pc L st M := by
  subst hp
  exact fun r hr H locs ls hl hP hS => lv_fconst0 C.1 C.2.1 hdg (kk r hr H locs ls hl hP hS)
theorem x_fconst1 (C : Cx G p s m args meth c cc nL own ret) {pc2 : Nat} (hdg : decode cc pc = .ok (.fconst 1, 1)) (hp : pc + 1 = pc2) (kk : OX G p l e R s m args below meth c nL cells slots Z o pc2 L (.float FP.fconst1 :: st) M) : OX G p l e R s m args below meth c nL cells slots Z o pc L st M := by
  subst hp
  exact fun r hr H locs ls hl hP hS => lv_fconst1 C.1 C.2.1 hdg (kk r hr H locs ls hl hP hS)
theorem x_fconst2 (C : Cx G p s m args meth c cc nL own ret) {pc2 : Nat} (hdg : decode cc pc = .ok (.fconst 2, 1)) (hp : pc + 1 = pc2) (kk : OX G p l e R s m args below meth c nL cells slots Z o pc2 L (.float FP.fconst2 :: st) M) : OX G p l e R s m args below meth c nL cells slots Z o pc L st M := by
  subst hp
  exact fun r hr H locs ls hl hP hS => lv_fconst2 C.1 C.2.1 hdg (kk r hr H locs ls hl hP hS)
theorem x_iadd (C : Cx G p s m args meth c cc nL own ret) {x y : Int32} {pc2 : Nat} (hdg : decode cc pc = .ok (.iadd, 1)) (hp : pc + 1 = pc2)  (kk : OX G p l e R s m args below meth c nL cells slots Z o pc2 L (.int (x + y) :: st) M) : OX G p l e R s m args below meth c nL cells slots Z o pc L (.int y :: .int x :: st) M := by
  subst hp
  exact fun r hr H locs ls hl hP hS => lv_iadd C.1 C.2.1 hdg (kk r hr H locs ls hl hP hS)
theorem x_isub (C : Cx G p s m args meth c cc nL own ret) {x y : Int32} {pc2 : Nat} (hdg : decode cc pc = .ok (.isub, 1)) (hp : pc + 1 = pc2)  (kk : OX G p l e R s m args below meth c nL cells slots Z o pc2 L (.int (x - y) :: st) M) : OX G p l e R s m args below meth c nL cells slots Z o pc L (.int y :: .int x :: st) M := by
  subst hp
  exact fun r hr H locs ls hl hP hS => lv_isub C.1 C.2.1 hdg (kk r hr H locs ls hl hP hS)
theorem x_imul (C : Cx G p s m args meth c cc nL own ret) {x y : Int32} {pc2 : Nat} (hdg : decode cc pc = .ok (.imul, 1)) (hp : pc + 1 = pc2)  (kk : OX G p l e R s m args below meth c nL cells slots Z o pc2 L (.int (x * y) :: st) M) : OX G p l e R s m args below meth c nL cells slots Z o pc L (.int y :: .int x :: st) M := by
  subst hp
  exact fun r hr H locs ls hl hP hS => lv_imul C.1 C.2.1 hdg (kk r hr H locs ls hl hP hS)
theorem x_iand (C : Cx G p s m args meth c cc nL own ret) {x y : Int32} {pc2 : Nat} (hdg : decode cc pc = .ok (.iand, 1)) (hp : pc + 1 = pc2)  (kk : OX G p l e R s m args below meth c nL cells slots Z o pc2 L (.int (x &&& y) :: st) M) : OX G p l e R s m args below meth c nL cells slots Z o pc L (.int y :: .int x :: st) M := by
  subst hp
  exact fun r hr H locs ls hl hP hS => lv_iand C.1 C.2.1 hdg (kk r hr H locs ls hl hP hS)
theorem x_ior (C : Cx G p s m args meth c cc nL own ret) {x y : Int32} {pc2 : Nat} (hdg : decode cc pc = .ok (.ior, 1)) (hp : pc + 1 = pc2)  (kk : OX G p l e R s m args below meth c nL cells slots Z o pc2 L (.int (x ||| y) :: st) M) : OX G p l e R s m args below meth c nL cells slots Z o pc L (.int y :: .int x :: st) M := by
  subst hp
  exact fun r hr H locs ls hl hP hS => lv_ior C.1 C.2.1 hdg (kk r hr H locs ls hl hP hS)
theorem x_ixor (C : Cx G p s m args meth c cc nL own ret) {x y : Int32} {pc2 : Nat} (hdg : decode cc pc = .ok (.ixor, 1)) (hp : pc + 1 = pc2)  (kk : OX G p l e R s m args below meth c nL cells slots Z o pc2 L (.int (x ^^^ y) :: st) M) : OX G p l e R s m args below meth c nL cells slots Z o pc L (.int y :: .int x :: st) M := by
  subst hp
  exact fun r hr H locs ls hl hP hS => lv_ixor C.1 C.2.1 hdg (kk r hr H locs ls hl hP hS)
theorem x_ishl (C : Cx G p s m args meth c cc nL own ret) {x y : Int32} {pc2 : Nat} (hdg : decode cc pc = .ok (.ishl, 1)) (hp : pc + 1 = pc2)  (kk : OX G p l e R s m args below meth c nL cells slots Z o pc2 L (.int (x <<< (y &&& 31)) :: st) M) : OX G p l e R s m args below meth c nL cells slots Z o pc L (.int y :: .int x :: st) M := by
  subst hp
  exact fun r hr H locs ls hl hP hS => lv_ishl C.1 C.2.1 hdg (kk r hr H locs ls hl hP hS)
theorem x_ishr (C : Cx G p s m args meth c cc nL own ret) {x y : Int32} {pc2 : Nat} (hdg : decode cc pc = .ok (.ishr, 1)) (hp : pc + 1 = pc2)  (kk : OX G p l e R s m args below meth c nL cells slots Z o pc2 L (.int (x >>> (y &&& 31)) :: st) M) : OX G p l e R s m args below meth c nL cells slots Z o pc L (.int y :: .int x :: st) M := by
  subst hp
  exact fun r hr H locs ls hl hP hS => lv_ishr C.1 C.2.1 hdg (kk r hr H locs ls hl hP hS)
theorem x_iushr (C : Cx G p s m args meth c cc nL own ret) {x y : Int32} {pc2 : Nat} (hdg : decode cc pc = .ok (.iushr, 1)) (hp : pc + 1 = pc2)  (kk : OX G p l e R s m args below meth c nL cells slots Z o pc2 L (.int (ushr x y) :: st) M) : OX G p l e R s m args below meth c nL cells slots Z o pc L (.int y :: .int x :: st) M := by
  subst hp
  exact fun r hr H locs ls hl hP hS => lv_iushr C.1 C.2.1 hdg rfl (kk r hr H locs ls hl hP hS)
theorem x_ineg (C : Cx G p s m args meth c cc nL own ret) {x : Int32} {pc2 : Nat} (hdg : decode cc pc = .ok (.ineg, 1)) (hp : pc + 1 = pc2)  (kk : OX G p l e R s m args below meth c nL cells slots Z o pc2 L (.int (-x) :: st) M) : OX G p l e R s m args below meth c nL cells slots Z o pc L (.int x :: st) M := by
  subst hp
  exact fun r hr H locs ls hl hP hS => lv_ineg C.1 C.2.1 hdg (kk r hr H locs ls hl hP hS)
theorem x_idivL (C : Cx G p s m args meth c cc nL own ret) {x y : Int32} {pc2 : Nat} (hdg : decode cc pc = .ok (.idiv, 1)) (hp : pc + 1 = pc2) (hne : ¬ y = 0) (kk : OX G p l e R s m args below meth c nL cells slots Z o pc2 L (.int (x / y) :: st) M) : OX G p l e R s m args below meth c nL cells slots Z o pc L (.int y :: .int x :: st) M := by
  subst hp
  exact fun r hr H locs ls hl hP hS => lv_idiv C.1 C.2.1 hdg hne (kk r hr H locs ls hl hP hS)
theorem x_iremL (C : Cx G p s m args meth c cc nL own ret) {x y : Int32} {pc2 : Nat} (hdg : decode cc pc = .ok (.irem, 1)) (hp : pc + 1 = pc2) (hne : ¬ y = 0) (kk : OX G p l e R s m args below meth c nL cells slots Z o pc2 L (.int (remv x y) :: st) M) : OX G p l e R s m args below meth c nL cells slots Z o pc L (.int y :: .int x :: st) M := by
  subst hp
  exact fun r hr H locs ls hl hP hS => lv_irem C.1 C.2.1 hdg hne (kk r hr H locs ls hl hP hS)
theorem x_idiv (C : Cx G p s m args meth c cc nL own ret) {x y : Int32} {pc2 : Nat} (hdg : decode cc pc = .ok (.idiv, 1)) (hp : pc + 1 = pc2)  (kk : OX G p l e R s m args below meth c nL cells slots Z o pc2 L (.int (x / y) :: st) M) : OX G p l e R s m args below meth c nL cells slots Z (asr (nzb y) o) pc L (.int y :: .int x :: st) M := by
  subst hp
  intro r hr H locs ls hl hP hS
  obtain ⟨hb, hr⟩ := asr_some hr
  skip
  exact lv_idiv C.1 C.2.1 hdg (of_decide_eq_true hb) (kk r hr H locs ls hl hP hS)
theorem x_irem (C : Cx G p s m args meth c cc nL own ret) {x y : Int32} {pc2 : Nat} (hdg : decode cc pc = .ok (.irem, 1)) (hp : pc + 1 = pc2)  (kk : OX G p l e R s m args below meth c nL cells slots Z o pc2 L (.int (remv x y) :: st) M) : OX G p l e R s m args below meth c nL cells slots Z (asr (nzb y) o) pc L (.int y :: .int x :: st) M := by
  subst hp
  intro r hr H locs ls hl hP hS
  obtain ⟨hb, hr⟩ := asr_some hr
  skip
  exact lv_irem C.1 C.2.1 hdg (of_decide_eq_true hb) (kk r hr H locs ls hl hP hS)
theorem x_i2c (C : Cx G p s m args meth c cc nL own ret) {x : Int32} {pc2 : Nat} (hdg : decode cc pc = .ok (.i2c, 1)) (hp : pc + 1 = pc2)  (kk : OX G p l e R s m args below meth c nL cells slots Z o pc2 L (.int (i2cv x) :: st) M) : OX G p l e R s m args below meth c nL cells slots Z o pc L (.int x :: st) M := by
  subst hp
  exact fun r hr H locs ls hl hP hS => lv_i2c C.1 C.2.1 hdg rfl (kk r hr H locs ls hl hP hS)
theorem x_i2f (C : Cx G p s m args meth c cc nL own ret) {x : Int32} {pc2 : Nat} (hdg : decode cc pc = .ok (.i2f, 1)) (hp : pc + 1 = pc2)  (kk : OX G p l e R s m args below meth c nL cells slots Z o pc2 L (.float (FP.i2f x) :: st) M) : OX G p l e R s m args below meth c nL cells slots Z o pc L (.int x :: st) M := by
  subst hp
  exact fun r hr H locs ls hl hP hS => lv_i2f C.1 C.2.1 hdg (kk r hr H locs ls hl hP hS)
theorem x_f2i (C : Cx G p s m args meth c cc nL own ret) {x : UInt32} {pc2 : Nat} (hdg : decode cc pc = .ok (.f2i, 1)) (hp : pc + 1 = pc2)  (kk : OX G p l e R s m args below meth c nL cells slots Z o pc2 L (.int (FP.f2i x) :: st) M) : OX G p l e R s m args below meth c nL cells slots Z o pc L (.float x :: st) M := by
  subst hp
  exact fun r hr H locs ls hl hP hS => lv_f2i C.1 C.2.1 hdg (kk r hr H locs ls hl hP hS)
theorem x_fneg (C : Cx G p s m args meth c cc nL own ret) {x : UInt32} {pc2 : Nat} (hdg : decode cc pc = .ok (.fneg, 1)) (hp : pc + 1 = pc2)  (kk : OX G p l e R s m args below meth c nL cells slots Z o pc2 L (.float (FP.fneg x) :: st) M) : OX G p l e R s m args below meth c nL cells slots Z o pc L (.float x :: st) M := by
  subst hp
  exact fun r hr H locs ls hl hP hS => lv_fneg C.1 C.2.1 hdg (kk r hr H locs ls hl hP hS)
theorem x_fcmpg (C : Cx G p s m args meth c cc nL own ret) {x y : UInt32} {pc2 : Nat} (hdg : decode cc pc = .ok (.fcmp .g, 1)) (hp : pc + 1 = pc2)  (kk : OX G p l e R s m args below meth c nL cells slots Z o pc2 L (.int (fcg x y) :: st) M) : OX G p l e R s m args below meth c nL cells slots Z o pc L (.float y :: .float x :: st) M := by
  subst hp
  exact fun r hr H locs ls hl hP hS => lv_fcmp C.1 C.2.1 hdg (kk r hr H locs ls hl hP hS)
theorem x_fcmpl (C : Cx G p s m args meth c cc nL own ret) {x y : UInt32} {pc2 : Nat} (hdg : decode cc pc = .ok (.fcmp .l, 1)) (hp : pc + 1 = pc2)  (kk : OX G p l e R s m args below meth c nL cells slots Z o pc2 L (.int (fcl x y) :: st) M) : OX G p l e R s m args below meth c nL cells slots Z o pc L (.float y :: .float x :: st) M := by
  subst hp
  exact fun r hr H locs ls hl hP hS => lv_fcmp C.1 C.2.1 hdg (kk r hr H locs ls hl hP hS)
theorem x_fadd (C : Cx G p s m args meth c cc nL own ret) {x y : UInt32} {pc2 : Nat} (hdg : decode cc pc = .ok (.fadd, 1)) (hp : pc + 1 = pc2)  (kk : OX G p l e R s m args below meth c nL cells slots Z o pc2 L (.float (FP.fadd x y) :: st) M) : OX G p l e R s m args below meth c nL cells slots Z (asr (nnb (FP.fadd x y)) o) pc L (.float y :: .float x :: st) M := by
  subst hp
  intro r hr H locs ls hl hP hS
  obtain ⟨hb, hr⟩ := asr_some hr
  skip
  exact lv_fadd C.1 C.2.1 hdg (nnb_n hb) (kk r hr H locs ls hl hP hS)
theorem x_fsub (C : Cx G p s m args meth c cc nL own ret) {x y : UInt32} {pc2 : Nat} (hdg : decode cc pc = .ok (.fsub, 1)) (hp : pc + 1 = pc2)  (kk : OX G p l e R s m args below meth c nL cells slots Z o pc2 L (.float (FP.fsub x y) :: st) M) : OX G p l e R s m args below meth c nL cells slots Z (asr (nnb (FP.fsub x y)) o) pc L (.float y :: .float x :: st) M := by
  subst hp
  intro r hr H locs ls hl hP hS
  obtain ⟨hb, hr⟩ := asr_some hr
  skip
  exact lv_fsub C.1 C.2.1 hdg (nnb_n hb) (kk r hr H locs ls hl hP hS)
theorem x_fmul (C : Cx G p s m args meth c cc nL own ret) {x y : UInt32} {pc2 : Nat} (hdg : decode cc pc = .ok (.fmul, 1)) (hp : pc + 1 = pc2)  (kk : OX G p l e R s m args below meth c nL cells slots Z o pc2 L (.float (FP.fmul x y) :: st) M) : OX G p l e R s m args below meth c nL cells slots Z (asr (nnb (FP.fmul x y)) o) pc L (.float y :: .float x :: st) M := by
  subst hp
  intro r hr H locs ls hl hP hS
  obtain ⟨hb, hr⟩ := asr_some hr
  skip
  exact lv_fmul C.1 C.2.1 hdg (nnb_n hb) (kk r hr H locs ls hl hP hS)
theorem x_fdiv (C : Cx G p s m args meth c cc nL own ret) {x y : UInt32} {pc2 : Nat} (hdg : decode cc pc = .ok (.fdiv, 1)) (hp : pc + 1 = pc2)  (kk : OX G p l e R s m args below meth c nL cells slots Z o pc2 L (.float (FP.fdiv x y) :: st) M) : OX G p l e R s m args below meth c nL cells slots Z (asr (nnb (FP.fdiv x y)) o) pc L (.float y :: .float x :: st) M := by
  subst hp
  intro r hr H locs ls hl hP hS
  obtain ⟨hb, hr⟩ := asr_some hr
  skip
  exact lv_fdiv C.1 C.2.1 hdg (nnb_n hb) (kk r hr H locs ls hl hP hS)
theorem x_dup (C : Cx G p s m args meth c cc nL own ret) {v : Value} {pc2 : Nat} (hdg : decode cc pc = .ok (.dup, 1)) (hp : pc + 1 = pc2) (hv : v.category = 1) (kk : OX G p l e R s m args below meth c nL cells slots Z o pc2 L (v :: v :: st) M) : OX G p l e R s m args below meth c nL cells slots Z o pc L (v :: st) M := by
  subst hp
  exact fun r hr H locs ls hl hP hS => lv_dup C.1 C.2.1 hdg hv (kk r hr H locs ls hl hP hS)
theorem x_pop (C : Cx G p s m args meth c cc nL own ret) {v : Value} {pc2 : Nat} (hdg : decode cc pc = .ok (.pop, 1)) (hp : pc + 1 = pc2) (hv : v.category = 1) (kk : OX G p l e R s m args below meth c nL cells slots Z o pc2 L st M) : OX G p l e R s m args below meth c nL cells slots Z o pc L (v :: st) M := by
  subst hp
  exact fun r hr H locs ls hl hP hS => lv_pop C.1 C.2.1 hdg hv (kk r hr H locs ls hl hP hS)
theorem x_dup2 (C : Cx G p s m args meth c cc nL own ret) {v w : Value} {pc2 : Nat} (hdg : decode cc pc = .ok (.dup2, 1)) (hp : pc + 1 = pc2) (hv : v.category = 1) (hw : w.category = 1) (kk : OX G p l e R s m args below meth c nL cells slots Z o pc2 L (v :: w :: v :: w :: st) M) : OX G p l e R s m args below meth c nL cells slots Z o pc L (v :: w :: st) M := by
  subst hp
  exact fun r hr H locs ls hl hP hS => lv_dup2_11 C.1 C.2.1 hdg hv hw (kk r hr H locs ls hl hP hS)
theorem x_iload (C : Cx G p s m args meth c cc nL own ret) {i : Nat} {x : Int32} {pc2 : Nat} (hdg : decode cc pc = .ok (.iload i, 2)) (hp : pc + 2 = pc2) (hi : L[i]? = some (some (.int x))) (kk : OX G p l e R s m args below meth c nL cells slots Z o pc2 L (.int x :: st) M) : OX G p l e R s m args below meth c nL cells slots Z o pc L st M := by
  subst hp
  exact fun r hr H locs ls hl hP hS => lv_iload C.1 C.2.1 hdg (hl.2.2 i _ hi) (kk r hr H locs ls hl hP hS)
theorem x_fload (C : Cx G p s m args meth c cc nL own ret) {i : Nat} {x : UInt32} {pc2 : Nat} (hdg : decode cc pc = .ok (.fload i, 2)) (hp : pc + 2 = pc2) (hi : L[i]? = some (some (.float x))) (kk : OX G p l e R s m args below meth c nL cells slots Z o pc2 L (.float x :: st) M) : OX G p l e R s m args below meth c nL cells slots Z o pc L st M := by
  subst hp
  exact fun r hr H locs ls hl hP hS => lv_fload C.1 C.2.1 hdg (hl.2.2 i _ hi) (kk r hr H locs ls hl hP hS)
theorem x_aload (C : Cx G p s m args meth c cc nL own ret) {i x : Nat} {pc2 : Nat} (hdg : decode cc pc = .ok (.aload i, 2)) (hp : pc + 2 = pc2) (hi : L[i]? = some (some (.ref x))) (kk : OX G p l e R s m args below meth c nL cells slots Z o pc2 L (.ref x :: st) M) : OX G p l e R s m args below meth c nL cells slots Z o pc L st M := by
  subst hp
  exact fun r hr H locs ls hl hP hS => lv_aload C.1 C.2.1 hdg (hl.2.2 i _ hi) (kk r hr H locs ls hl hP hS)
theorem x_iload_n (C : Cx G p s m args meth c cc nL own ret) {k : Fin 4} {x : Int32} {pc2 : Nat} (hdg : decode cc pc = .ok (.iload_n k, 1)) (hp : pc + 1 = pc2) (hi : L[(k : Nat)]? = some (some (.int x))) (kk : OX G p l e R s m args below meth c nL cells slots Z o pc2 L (.int x :: st) M) : OX G p l e R s m args below meth c nL cells slots Z o pc L st M := by
  subst hp
  exact fun r hr H locs ls hl hP hS => lv_iload_n C.1 C.2.1 hdg rfl (hl.2.2 k _ hi) (kk r hr H locs ls hl hP hS)
theorem x_fload_n (C : Cx G p s m args meth c cc nL own ret) {k : Fin 4} {x : UInt32} {pc2 : Nat} (hdg : decode cc pc = .ok (.fload_n k, 1)) (hp : pc + 1 = pc2) (hi : L[(k : Nat)]? = some (some (.float x))) (kk : OX G p l e R s m args below meth c nL cells slots Z o pc2 L (.float x :: st) M) : OX G p l e R s m args below meth c nL cells slots Z o pc L st M := by
  subst hp
  exact fun r hr H locs ls hl hP hS => lv_fload_n C.1 C.2.1 hdg rfl (hl.2.2 k _ hi) (kk r hr H locs ls hl hP hS)
theorem x_aload_n (C : Cx G p s m args meth c cc nL own ret) {k : Fin 4} {x : Nat} {pc2 : Nat} (hdg : decode cc pc = .ok (.aload_n k, 1)) (hp : pc + 1 = pc2) (hi : L[(k : Nat)]? = some (some (.ref x))) (kk : OX G p l e R s m args below meth c nL cells slots Z o pc2 L (.ref x :: st) M) : OX G p l e R s m args below meth c nL cells slots Z o pc L st M := by
  subst hp
  exact fun r hr H locs ls hl hP hS => lv_aload_n C.1 C.2.1 hdg rfl (hl.2.2 k _ hi) (kk r hr H locs ls hl hP hS)
theorem x_istore (C : Cx G p s m args meth c cc nL own ret) {i : Nat} {x : Int32} {pc2 : Nat} (hdg : decode cc pc = .ok (.istore i, 2)) (hp : pc + 2 = pc2) (L2 : List (Option Value)) (hL : L.set i (some (.int x)) = L2) (hc : (c1 L && decide (i < L.length) && decide (i < nL)) = true) (kk : OX G p l e R s m args below meth c nL cells slots Z o pc2 L2 st M) : OX G p l e R s m args below meth c nL cells slots Z o pc L (.int x :: st) M := by
  subst hp hL
  simp only [Bool.and_eq_true, decide_eq_true_eq] at hc
  exact fun r hr H locs ls hl hP hS => lv_istore C.1 C.2.1 hdg (lh_lv hl) hc.2 rfl (fun ls2 hl2 => kk r hr H locs ls2 (lh_st hl2 (c1_spec hc.1.1) hc.1.2) hP hS)
theorem x_istore_n (C : Cx G p s m args meth c cc nL own ret) {k : Fin 4} {x : Int32} {pc2 : Nat} (hdg : decode cc pc = .ok (.istore_n k, 1)) (hp : pc + 1 = pc2) (L2 : List (Option Value)) (hL : L.set (k : Nat) (some (.int x)) = L2) (hc : (c1 L && decide ((k : Nat) < L.length) && decide ((k : Nat) < nL)) = true) (kk : OX G p l e R s m args below meth c nL cells slots Z o pc2 L2 st M) : OX G p l e R s m args below meth c nL cells slots Z o pc L (.int x :: st) M := by
  subst hp hL
  simp only [Bool.and_eq_true, decide_eq_true_eq] at hc
  exact fun r hr H locs ls hl hP hS => lv_istore_n C.1 C.2.1 hdg rfl (lh_lv hl) hc.2 rfl (fun ls2 hl2 => kk r hr H locs ls2 (lh_st hl2 (c1_spec hc.1.1) hc.1.2) hP hS)
theorem x_fstore (C : Cx G p s m args meth c cc nL own ret) {i : Nat} {x : UInt32} {pc2 : Nat} (hdg : decode cc pc = .ok (.fstore i, 2)) (hp : pc + 2 = pc2) (L2 : List (Option Value)) (hL : L.set i (some (.float x)) = L2) (hc : (c1 L && decide (i < L.length) && decide (i < nL)) = true) (kk : OX G p l e R s m args below meth c nL cells slots Z o pc2 L2 st M) : OX G p l e R s m args below meth c nL cells slots Z o pc L (.float x :: st) M := by
  subst hp hL
  simp only [Bool.and_eq_true, decide_eq_true_eq] at hc
  exact fun r hr H locs ls hl hP hS => lv_fstore C.1 C.2.1 hdg (lh_lv hl) hc.2 rfl (fun ls2 hl2 => kk r hr H locs ls2 (lh_st hl2 (c1_spec hc.1.1) hc.1.2) hP hS)
theorem x_fstore_n (C : Cx G p s m args meth c cc nL own ret) {k : Fin 4} {x : UInt32} {pc2 : Nat} (hdg : decode cc pc = .ok (.fstore_n k, 1)) (hp : pc + 1 = pc2) (L2 : List (Option Value)) (hL : L.set (k : Nat) (some (.float x)) = L2) (hc : (c1 L && decide ((k : Nat) < L.length) && decide ((k : Nat) < nL)) = true) (kk : OX G p l e R s m args below meth c nL cells slots Z o pc2 L2 st M) : OX G p l e R s m args below meth c nL cells slots Z o pc L (.float x :: st) M := by
  subst hp hL
  simp only [Bool.and_eq_true, decide_eq_true_eq] at hc
  exact fun r hr H locs ls hl hP hS => lv_fstore_n C.1 C.2.1 hdg rfl (lh_lv hl) hc.2 rfl (fun ls2 hl2 => kk r hr H locs ls2 (lh_st hl2 (c1_spec hc.1.1) hc.1.2) hP hS)
theorem x_astore (C : Cx G p s m args meth c cc nL own ret) {i : Nat} {x : Nat} {pc2 : Nat} (hdg : decode cc pc = .ok (.astore i, 2)) (hp : pc + 2 = pc2) (L2 : List (Option Value)) (hL : L.set i (some (.ref x)) = L2) (hc : (c1 L && decide (i < L.length) && decide (i < nL)) = true) (kk : OX G p l e R s m args below meth c nL cells slots Z o pc2 L2 st M) : OX G p l e R s m args below meth c nL cells slots Z o pc L (.ref x :: st) M := by
  subst hp hL
  simp only [Bool.and_eq_true, decide_eq_true_eq] at hc
  exact fun r hr H locs ls hl hP hS => lv_astore C.1 C.2.1 hdg (lh_lv hl) hc.2 rfl (fun ls2 hl2 => kk r hr H locs ls2 (lh_st hl2 (c1_spec hc.1.1) hc.1.2) hP hS)
theorem x_astore_n (C : Cx G p s m args meth c cc nL own ret) {k : Fin 4} {x : Nat} {pc2 : Nat} (hdg : decode cc pc = .ok (.astore_n k, 1)) (hp : pc + 1 = pc2) (L2 : List (Option Value)) (hL : L.set (k : Nat) (some (.ref x)) = L2) (hc : (c1 L && decide ((k : Nat) < L.length) && decide ((k : Nat) < nL)) = true) (kk : OX G p l e R s m args below meth c nL cells slots Z o pc2 L2 st M) : OX G p l e R s m args below meth c nL cells slots Z o pc L (.ref x :: st) M := by
  subst hp hL
  simp only [Bool.and_eq_true, decide_eq_true_eq] at hc
  exact fun r hr H locs ls hl hP hS => lv_astore_n C.1 C.2.1 hdg rfl (lh_lv hl) hc.2 rfl (fun ls2 hl2 => kk r hr H locs ls2 (lh_st hl2 (c1_spec hc.1.1) hc.1.2) hP hS)
theorem x_iinc (C : Cx G p s m args meth c cc nL own ret) {i : Nat} {n : Int} {x v : Int32} {pc2 : Nat} (hdg : decode cc pc = .ok (.iinc i n, 3)) (hp : pc + 3 = pc2) (hi : L[i]? = some (some (.int x))) (v' : Int32) (hn : Int32.ofInt n = v') (hv : x + v' = v) (L2 : List (Option Value)) (hL : L.set i (some (.int v)) = L2) (hc : (c1 L && decide (i < L.length) && decide (i < nL)) = true) (kk : OX G p l e R s m args below meth c nL cells slots Z o pc2 L2 st M) : OX G p l e R s m args below meth c nL cells slots Z o pc L st M := by
  subst hp hL
  simp only [Bool.and_eq_true, decide_eq_true_eq] at hc
  intro r hr H locs ls hl hP hS
  obtain ⟨k, hk⟩ := List.getElem?_of_mem (show (i, Value.int x) ∈ lh_l L from List.mem_filterMap.mpr ⟨(some (.int x), i), List.mem_zipIdx_iff_getElem?.mpr hi, rfl⟩)
  exact lv_iinc C.1 C.2.1 hdg (lh_lv hl) hk (by rw [hn]; exact hv) hc.2 rfl (fun ls2 hl2 => kk r hr H locs ls2 (lh_st hl2 (c1_spec hc.1.1) hc.1.2) hP hS)
theorem x_if_eq (C : Cx G p s m args meth c cc nL own ret) {x : Int32} {off : Int} {tgt pc2 : Nat} {a b : Option β} (hdg : decode cc pc = .ok (.ifCond .eq off, 3)) (ht : (pc : Int) + off = (tgt : Int)) (hp : pc + 3 = pc2) (kt : OX G p l e R s m args below meth c nL cells slots Z a tgt L st M) (kf : OX G p l e R s m args below meth c nL cells slots Z b pc2 L st M) : OX G p l e R s m args below meth c nL cells slots Z (if x = 0 then a else b) pc L (.int x :: st) M := by
  subst hp
  intro r hr H locs ls hl hP hS
  refine lv_if_eq C.1 C.2.1 hdg ht (fun h => kt r ?_ H locs ls hl hP hS) (fun h => kf r ?_ H locs ls hl hP hS)
  · rw [if_pos h] at hr; exact hr
  · rw [if_neg h] at hr; exact hr
theorem x_if_ne (C : Cx G p s m args meth c cc nL own ret) {x : Int32} {off : Int} {tgt pc2 : Nat} {a b : Option β} (hdg : decode cc pc = .ok (.ifCond .ne off, 3)) (ht : (pc : Int) + off = (tgt : Int)) (hp : pc + 3 = pc2) (kt : OX G p l e R s m args below meth c nL cells slots Z a tgt L st M) (kf : OX G p l e R s m args below meth c nL cells slots Z b pc2 L st M) : OX G p l e R s m args below meth c nL cells slots Z (if x = 0 then b else a) pc L (.int x :: st) M := by
  subst hp
  intro r hr H locs ls hl hP hS
  refine lv_if_ne C.1 C.2.1 hdg ht (fun h => kt r ?_ H locs ls hl hP hS) (fun h => kf r ?_ H locs ls hl hP hS)
  · rw [if_neg h] at hr; exact hr
  · rw [if_pos h] at hr; exact hr
theorem x_if_lt (C : Cx G p s m args meth c cc nL own ret) {x : Int32} {off : Int} {tgt pc2 : Nat} {a b : Option β} (hdg : decode cc pc = .ok (.ifCond .lt off, 3)) (ht : (pc : Int) + off = (tgt : Int)) (hp : pc + 3 = pc2) (kt : OX G p l e R s m args below meth c nL cells slots Z a tgt L st M) (kf : OX G p l e R s m args below meth c nL cells slots Z b pc2 L st M) : OX G p l e R s m args below meth c nL cells slots Z (if x < 0 then a else b) pc L (.int x :: st) M := by
  subst hp
  intro r hr H locs ls hl hP hS
  refine lv_if_lt C.1 C.2.1 hdg ht (fun h => kt r ?_ H locs ls hl hP hS) (fun h => kf r ?_ H locs ls hl hP hS)
  · rw [if_pos h] at hr; exact hr
  · rw [if_neg h] at hr; exact hr
theorem x_if_ge (C : Cx G p s m args meth c cc nL own ret) {x : Int32} {off : Int} {tgt pc2 : Nat} {a b : Option β} (hdg : decode cc pc = .ok (.ifCond .ge off, 3)) (ht : (pc : Int) + off = (tgt : Int)) (hp : pc + 3 = pc2) (kt : OX G p l e R s m args below meth c nL cells slots Z a tgt L st M) (kf : OX G p l e R s m args below meth c nL cells slots Z b pc2 L st M) : OX G p l e R s m args below meth c nL cells slots Z (if 0 ≤ x then a else b) pc L (.int x :: st) M := by
  subst hp
  intro r hr H locs ls hl hP hS
  refine lv_if_ge C.1 C.2.1 hdg ht (fun h => kt r ?_ H locs ls hl hP hS) (fun h => kf r ?_ H locs ls hl hP hS)
  · rw [if_pos h] at hr; exact hr
  · rw [if_neg h] at hr; exact hr
theorem x_if_gt (C : Cx G p s m args meth c cc nL own ret) {x : Int32} {off : Int} {tgt pc2 : Nat} {a b : Option β} (hdg : decode cc pc = .ok (.ifCond .gt off, 3)) (ht : (pc : Int) + off = (tgt : Int)) (hp : pc + 3 = pc2) (kt : OX G p l e R s m args below meth c nL cells slots Z a tgt L st M) (kf : OX G p l e R s m args below meth c nL cells slots Z b pc2 L st M) : OX G p l e R s m args below meth c nL cells slots Z (if 0 < x then a else b) pc L (.int x :: st) M := by
  subst hp
  intro r hr H locs ls hl hP hS
  refine lv_if_gt C.1 C.2.1 hdg ht (fun h => kt r ?_ H locs ls hl hP hS) (fun h => kf r ?_ H locs ls hl hP hS)
  · rw [if_pos h] at hr; exact hr
  · rw [if_neg h] at hr; exact hr
theorem x_if_le (C : Cx G p s m args meth c cc nL own ret) {x : Int32} {off : Int} {tgt pc2 : Nat} {a b : Option β} (hdg : decode cc pc = .ok (.ifCond .le off, 3)) (ht : (pc : Int) + off = (tgt : Int)) (hp : pc + 3 = pc2) (kt : OX G p l e R s m args below meth c nL cells slots Z a tgt L st M) (kf : OX G p l e R s m args below meth c nL cells slots Z b pc2 L st M) : OX G p l e R s m args below meth c nL cells slots Z (if x ≤ 0 then a else b) pc L (.int x :: st) M := by
  subst hp
  intro r hr H locs ls hl hP hS
  refine lv_if_le C.1 C.2.1 hdg ht (fun h => kt r ?_ H locs ls hl hP hS) (fun h => kf r ?_ H locs ls hl hP hS)
  · rw [if_pos h] at hr; exact hr
  · rw [if_neg h] at hr; exact hr
theorem x_icmp_eq (C : Cx G p s m args meth c cc nL own ret) {x y : Int32} {off : Int} {tgt pc2 : Nat} {a b : Option β} (hdg : decode cc pc = .ok (.if_icmp .eq off, 3)) (ht : (pc : Int) + off = (tgt : Int)) (hp : pc + 3 = pc2) (kt : OX G p l e R s m args below meth c nL cells slots Z a tgt L st M) (kf : OX G p l e R s m args below meth c nL cells slots Z b pc2 L st M) : OX G p l e R s m args below meth c nL cells slots Z (if x = y then a else b) pc L (.int y :: .int x :: st) M := by
  subst hp
  intro r hr H locs ls hl hP hS
  refine lv_icmp_eq C.1 C.2.1 hdg ht (fun h => kt r ?_ H locs ls hl hP hS) (fun h => kf r ?_ H locs ls hl hP hS)
  · rw [if_pos h] at hr; exact hr
  · rw [if_neg h] at hr; exact hr
theorem x_icmp_ne (C : Cx G p s m args meth c cc nL own ret) {x y : Int32} {off : Int} {tgt pc2 : Nat} {a b : Option β} (hdg : decode cc pc = .ok (.if_icmp .ne off, 3)) (ht : (pc : Int) + off = (tgt : Int)) (hp : pc + 3 = pc2) (kt : OX G p l e R s m args below meth c nL cells slots Z a tgt L st M) (kf : OX G p l e R s m args below meth c nL cells slots Z b pc2 L st M) : OX G p l e R s m args below meth c nL cells slots Z (if x = y then b else a) pc L (.int y :: .int x :: st) M := by
  subst hp
  intro r hr H locs ls hl hP hS
  refine lv_icmp_ne C.1 C.2.1 hdg ht (fun h => kt r ?_ H locs ls hl hP hS) (fun h => kf r ?_ H locs ls hl hP hS)
  · rw [if_neg h] at hr; exact hr
  · rw [if_pos h] at hr; exact hr
theorem x_icmp_lt (C : Cx G p s m args meth c cc nL own ret) {x y : Int32} {off : Int} {tgt pc2 : Nat} {a b : Option β} (hdg : decode cc pc = .ok (.if_icmp .lt off, 3)) (ht : (pc : Int) + off = (tgt : Int)) (hp : pc + 3 = pc2) (kt : OX G p l e R s m args below meth c nL cells slots Z a tgt L st M) (kf : OX G p l e R s m args below meth c nL cells slots Z b pc2 L st M) : OX G p l e R s m args below meth c nL cells slots Z (if x < y then a else b) pc L (.int y :: .int x :: st) M := by
  subst hp
  intro r hr H locs ls hl hP hS
  refine lv_icmp_lt C.1 C.2.1 hdg ht (fun h => kt r ?_ H locs ls hl hP hS) (fun h => kf r ?_ H locs ls hl hP hS)
  · rw [if_pos h] at hr; exact hr
  · rw [if_neg h] at hr; exact hr
theorem x_icmp_ge (C : Cx G p s m args meth c cc nL own ret) {x y : Int32} {off : Int} {tgt pc2 : Nat} {a b : Option β} (hdg : decode cc pc = .ok (.if_icmp .ge off, 3)) (ht : (pc : Int) + off = (tgt : Int)) (hp : pc + 3 = pc2) (kt : OX G p l e R s m args below meth c nL cells slots Z a tgt L st M) (kf : OX G p l e R s m args below meth c nL cells slots Z b pc2 L st M) : OX G p l e R s m args below meth c nL cells slots Z (if y ≤ x then a else b) pc L (.int y :: .int x :: st) M := by
  subst hp
  intro r hr H locs ls hl hP hS
  refine lv_icmp_ge C.1 C.2.1 hdg ht (fun h => kt r ?_ H locs ls hl hP hS) (fun h => kf r ?_ H locs ls hl hP hS)
  · rw [if_pos h] at hr; exact hr
  · rw [if_neg h] at hr; exact hr
theorem x_icmp_gt (C : Cx G p s m args meth c cc nL own ret) {x y : Int32} {off : Int} {tgt pc2 : Nat} {a b : Option β} (hdg : decode cc pc = .ok (.if_icmp .gt off, 3)) (ht : (pc : Int) + off = (tgt : Int)) (hp : pc + 3 = pc2) (kt : OX G p l e R s m args below meth c nL cells slots Z a tgt L st M) (kf : OX G p l e R s m args below meth c nL cells slots Z b pc2 L st M) : OX G p l e R s m args below meth c nL cells slots Z (if y < x then a else b) pc L (.int y :: .int x :: st) M := by
  subst hp
  intro r hr H locs ls hl hP hS
  refine lv_icmp_gt C.1 C.2.1 hdg ht (fun h => kt r ?_ H locs ls hl hP hS) (fun h => kf r ?_ H locs ls hl hP hS)
  · rw [if_pos h] at hr; exact hr
  · rw [if_neg h] at hr; exact hr
theorem x_icmp_le (C : Cx G p s m args meth c cc nL own ret) {x y : Int32} {off : Int} {tgt pc2 : Nat} {a b : Option β} (hdg : decode cc pc = .ok (.if_icmp .le off, 3)) (ht : (pc : Int) + off = (tgt : Int)) (hp : pc + 3 = pc2) (kt : OX G p l e R s m args below meth c nL cells slots Z a tgt L st M) (kf : OX G p l e R s m args below meth c nL cells slots Z b pc2 L st M) : OX G p l e R s m args below meth c nL cells slots Z (if x ≤ y then a else b) pc L (.int y :: .int x :: st) M := by
  subst hp
  intro r hr H locs ls hl hP hS
  refine lv_icmp_le C.1 C.2.1 hdg ht (fun h => kt r ?_ H locs ls hl hP hS) (fun h => kf r ?_ H locs ls hl hP hS)
  · rw [if_pos h] at hr; exact hr
  · rw [if_neg h] at hr; exact hr
theorem x_goto (C : Cx G p s m args meth c cc nL own ret) {off : Int} {tgt : Nat} (hdg : decode cc pc = .ok (.goto off, 3)) (ht : (pc : Int) + off = (tgt : Int)) (kk : OX G p l e R s m args below meth c nL cells slots Z o tgt L st M) : OX G p l e R s m args below meth c nL cells slots Z o pc L st M := fun r hr H locs ls hl hP hS => lv_goto C.1 C.2.1 hdg ht (kk r hr H locs ls hl hP hS)
theorem x_tin (C : Cx G p s m args meth c cc nL own ret) {dflt lo hi : Int} {offs : Array Int} {len : Nat} {x k : Int32} {off : Int} {tgt : Nat} (hx : x = k) (hdg : decode cc pc = .ok (.tableswitch dflt lo hi offs, len)) (h1 : ¬ k.toInt < lo) (h2 : ¬ hi < k.toInt) (ho : offs[(k.toInt - lo).toNat]? = some off) (ht : (pc : Int) + off = (tgt : Int)) (kk : OX G p l e R s m args below meth c nL cells slots Z o tgt L st M) : OX G p l e R s m args below meth c nL cells slots Z o pc L (.int x :: st) M := by
  subst hx
  exact fun r hr H locs ls hl hP hS => lv_tableIn C.1 C.2.1 hdg h1 h2 ho ht (kk r hr H locs ls hl hP hS)
theorem x_tout (C : Cx G p s m args meth c cc nL own ret) {dflt lo hi : Int} {offs : Array Int} {len : Nat} {x : Int32} {tgt : Nat} (hdg : decode cc pc = .ok (.tableswitch dflt lo hi offs, len)) (h : x.toInt < lo ∨ hi < x.toInt) (ht : (pc : Int) + dflt = (tgt : Int)) (kk : OX G p l e R s m args below meth c nL cells slots Z o tgt L st M) : OX G p l e R s m args below meth c nL cells slots Z o pc L (.int x :: st) M := fun r hr H locs ls hl hP hS => lv_tableOut C.1 C.2.1 hdg h ht (kk r hr H locs ls hl hP hS)
theorem x_lsw (C : Cx G p s m args meth c cc nL own ret) {dflt : Int} {ps : Array (Int × Int)} {len : Nat} {x : Int32} {off : Int} {tgt : Nat} (hdg : decode cc pc = .ok (.lookupswitch dflt ps, len)) (hp : (ps.toList.zip (ps.toList.drop 1)).all (fun (a, next) => a.1 < next.1) = true) (ho : Op.lookupswitch.offset ps.toList dflt x.toInt = off) (ht : (pc : Int) + off = (tgt : Int)) (kk : OX G p l e R s m args below meth c nL cells slots Z o tgt L st M) : OX G p l e R s m args below meth c nL cells slots Z o pc L (.int x :: st) M := fun r hr H locs ls hl hP hS => lv_lookup C.1 C.2.1 hdg hp ho ht (kk r hr H locs ls hl hP hS)
/-- a field by its link: class ci, place j -/
def FL (own : String) (ix ci j : Nat) (nf : Bool) : Prop := ∃ (C : String) (T : u_T) (N : Nat) (ty : Nat → FieldType), vwCl[ci]? = some (C, T, N) ∧ j < N ∧ Cond.fieldLink own ix C (T j).2.1 (T j).2.2.1 ∈ TT ∧ (T j).1 = C ∧ (∀ w ∈ u_ws C T N, w ∈ TT) ∧ (∀ k, k < N → parseFieldDescriptor (T k).2.2.1 = some (ty k)) ∧ (∀ a, a < N → ∀ b, b < N → a ≠ b → (T a).2.1 ≠ (T b).2.1) ∧ (T j).2.2.2 = !nf
/-- a field that may be written, of the type ty -/
def FT (own : String) (ix ci j : Nat) (ty : FieldType) : Prop := ∃ (C : String) (T : u_T) (N : Nat) (ty0 : Nat → FieldType), vwCl[ci]? = some (C, T, N) ∧ j < N ∧ Cond.fieldLink own ix C (T j).2.1 (T j).2.2.1 ∈ TT ∧ (T j).1 = C ∧ (∀ w ∈ u_ws C T N, w ∈ TT) ∧ (∀ k, k < N → parseFieldDescriptor (T k).2.2.1 = some (ty0 k)) ∧ (∀ a, a < N → ∀ b, b < N → a ≠ b → (T a).2.1 ≠ (T b).2.1) ∧ (T j).2.2.2 = false ∧ parseFieldDescriptor (T j).2.2.1 = some ty
theorem x_get (C : Cx G p s m args meth c cc nL own ret) {k ci j ix : Nat} {nf : Bool} {v : Value} {pc2 : Nat} (F : FL own ix ci j nf) (hk : kd k = ci) (hc : ci < 20) (hv : (flds G M k ci)[j]? = some v) (hdg : decode cc pc = .ok (.getfield ix, 3)) (hp : pc + 3 = pc2) (kk : OX G p l e R s m args below meth c nL cells slots Z o pc2 L (v :: st) M) : OX G p l e R s m args below meth c nL cells slots Z o pc L (rv G k :: st) M := by
  subst hp
  obtain ⟨Cn, T, N, ty, h1, h2, h3, h4, h5, -, -, -⟩ := F
  exact fun r hr H locs ls hl hP hS => va_get C.1 C.2.1 C.2.2.2.2.1 h5 C.2.2.2.1 C.2.2.2.2.2.1 hP k (at_o hk hc) h1 j h2 (C.2.2.2.2.1 _ h3) (fun x hx => by rw [h4] at hx; exact hx) hv hdg (kk r hr H locs ls hl hP hS)
theorem x_putv (C : Cx G p s m args meth c cc nL own ret) {k ci j ix : Nat} {ty : FieldType} {v : Value} {M' : Mem} {pc2 : Nat} (F : FT own ix ci j ty) (hk : kd k = ci) (hc : ci < 20) (hn : narrow ty v = v) (hf : fits ty v = true) (hset : (flds G M k ci).set j v = flds G M' k ci) (hlen : j < (flds G M k ci).length) (hoth : ∀ i, i ≠ k → cel G M' i = cel G M i) (hdg : decode cc pc = .ok (.putfield ix, 3)) (hp : pc + 3 = pc2) (kk : OX G p l e R s m args below meth c nL cells slots Z o pc2 L st M') : OX G p l e R s m args below meth c nL cells slots Z o pc L (v :: rv G k :: st) M := by
  subst hp
  obtain ⟨Cn, T, N, ty0, h1, h2, h3, h4, h5, h6, h7, h8, h9⟩ := F
  intro r hr H locs ls hl hP hS
  refine va_put C.1 C.2.1 C.2.2.2.2.1 h5 ty0 h6 h7 C.2.2.2.1 C.2.2.2.2.2.1 hP (wo_D G M) hS k (at_o hk hc) h1 j h2 (C.2.2.2.2.1 _ h3) (fun x hx => by rw [h4] at hx; exact hx) h8 h9 hn hf hlen hdg (fun H1 locs1 hP1 _ hS1 => ?_)
  rw [wo_set (M' := M') (kd_lt (by omega)) (by rw [cel_o hk hc, hset]) hoth] at hP1
  exact kk r hr H1 locs1 ls hl hP1 hS1
theorem x_puti (C : Cx G p s m args meth c cc nL own ret) {k ci j ix : Nat} {x : Int32} {q : Mem → Option β} {pc2 : Nat} (F : FT own ix ci j .int) (hk : kd k = ci) (hc : ci < 20) (hset : (flds G M k ci).set j (.int x) = flds G (w1 M k j x) k ci) (hlen : j < (flds G M k ci).length) (hdg : decode cc pc = .ok (.putfield ix, 3)) (hp : pc + 3 = pc2) (kk : ∀ M1, OX G p l e R s m args below meth c nL cells slots Z (q M1) pc2 L st M1) : OX G p l e R s m args below meth c nL cells slots Z (bnd (w1 M k j x) q) pc L (.int x :: rv G k :: st) M :=
  x_putv C F hk hc rfl rfl hset hlen w1_other hdg hp (kk _)
theorem x_putf (C : Cx G p s m args meth c cc nL own ret) {k ci j ix : Nat} {x : UInt32} {q : Mem → Option β} {pc2 : Nat} (F : FT own ix ci j .float) (hk : kd k = ci) (hc : ci < 20) (hset : (flds G M k ci).set j (.float x) = flds G (w2 M k j x) k ci) (hlen : j < (flds G M k ci).length) (hdg : decode cc pc = .ok (.putfield ix, 3)) (hp : pc + 3 = pc2) (kk : ∀ M1, OX G p l e R s m args below meth c nL cells slots Z (q M1) pc2 L st M1) : OX G p l e R s m args below meth c nL cells slots Z (bnd (w2 M k j x) q) pc L (.float x :: rv G k :: st) M :=
  x_putv C F hk hc rfl rfl hset hlen w2_other hdg hp (kk _)
/-- a boolean -/
def bzb (x : Int32) : Bool := x == 0 || x == 1
theorem bzb_nar {x : Int32} (h : bzb x = true) : narrow .boolean (.int x) = .int x ∧ fits .boolean (.int x) = true := by
  refine ⟨?_, h⟩
  simp only [bzb, Bool.or_eq_true, beq_iff_eq] at h
  rcases h with rfl | rfl <;> rfl
theorem x_putz (C : Cx G p s m args meth c cc nL own ret) {k ci j ix : Nat} {x : Int32} {q : Mem → Option β} {pc2 : Nat} (F : FT own ix ci j .boolean) (hk : kd k = ci) (hc : ci < 20) (hset : (flds G M k ci).set j (.int x) = flds G (w1 M k j x) k ci) (hlen : j < (flds G M k ci).length) (hdg : decode cc pc = .ok (.putfield ix, 3)) (hp : pc + 3 = pc2) (kk : ∀ M1, OX G p l e R s m args below meth c nL cells slots Z (q M1) pc2 L st M1) : OX G p l e R s m args below meth c nL cells slots Z (asr (bzb x) (bnd (w1 M k j x) q)) pc L (.int x :: rv G k :: st) M :=
  x_asr (fun hb => x_putv C F hk hc (bzb_nar hb).1 (bzb_nar hb).2 hset hlen w1_other hdg hp (kk _))
/-- a reference that moves: the cell that the number names -/
theorem x_putr (C : Cx G p s m args meth c cc nL own ret) {k ci j ix t : Nat} {Cn : String} {q : Mem → Option β} {pc2 : Nat} (F : FT own ix ci j (.object Cn)) (hk : kd k = ci) (hc : ci < 20) (hset : (flds G M k ci).set j (rv G t) = flds G (w1 M k j (nI t)) k ci) (hlen : j < (flds G M k ci).length) (hdg : decode cc pc = .ok (.putfield ix, 3)) (hp : pc + 3 = pc2) (kk : ∀ M1, OX G p l e R s m args below meth c nL cells slots Z (q M1) pc2 L st M1) : OX G p l e R s m args below meth c nL cells slots Z (bnd (w1 M k j (nI t)) q) pc L (rv G t :: rv G k :: st) M :=
  x_putv C F hk hc rfl rfl hset hlen w1_other hdg hp (kk _)
theorem x_iald (C : Cx G p s m args meth c cc nL own ret) {a : Nat} {i : Int32} {pc2 : Nat} (hk : kd a = 20) (hdg : decode cc pc = .ok (.iaload, 1)) (hp : pc + 1 = pc2) (kk : OX G p l e R s m args below meth c nL cells slots Z o pc2 L (.int (M.1 a i.toNatClampNeg) :: st) M) : OX G p l e R s m args below meth c nL cells slots Z (asr (inb i (ln a)) o) pc L (.int i :: rv G a :: st) M := by
  subst hp
  exact x_asr fun hb r hr H locs ls hl hP hS => va_iald C.1 C.2.1 C.2.2.2.2.2.1 hP a 0 (at_i hk) rfl (inb_in hb) hdg (kk r hr H locs ls hl hP hS)
theorem x_cald (C : Cx G p s m args meth c cc nL own ret) {a : Nat} {i : Int32} {pc2 : Nat} (hk : kd a = 22) (hdg : decode cc pc = .ok (.caload, 1)) (hp : pc + 1 = pc2) (kk : OX G p l e R s m args below meth c nL cells slots Z o pc2 L (.int (M.1 a i.toNatClampNeg) :: st) M) : OX G p l e R s m args below meth c nL cells slots Z (asr (inb i (ln a)) o) pc L (.int i :: rv G a :: st) M := by
  subst hp
  exact x_asr fun hb r hr H locs ls hl hP hS => va_cald C.1 C.2.1 C.2.2.2.2.2.1 hP a 2 (at_c hk) rfl (inb_in hb) hdg (kk r hr H locs ls hl hP hS)
theorem x_iast (C : Cx G p s m args meth c cc nL own ret) {a : Nat} {i x : Int32} {q : Mem → Option β} {pc2 : Nat} (hk : kd a = 20) (hdg : decode cc pc = .ok (.iastore, 1)) (hp : pc + 1 = pc2) (kk : ∀ M1, OX G p l e R s m args below meth c nL cells slots Z (q M1) pc2 L st M1) : OX G p l e R s m args below meth c nL cells slots Z (asr (inb i (ln a)) (bnd (w1 M a i.toNatClampNeg x) q)) pc L (.int x :: .int i :: rv G a :: st) M := by
  subst hp
  refine x_asr fun hb r hr H locs ls hl hP hS => va_iast C.1 C.2.1 C.2.2.2.2.2.1 hP (wo_D G M) hS a 0 (at_i hk) rfl (inb_in hb) hdg (fun H1 locs1 hP1 _ hS1 => ?_)
  rw [wo_set (M' := w1 M a i.toNatClampNeg x) (kd_lt (by omega)) (by rw [cel_i hk, w1_self]) w1_other] at hP1
  exact kk _ r hr H1 locs1 ls hl hP1 hS1
theorem x_cast (C : Cx G p s m args meth c cc nL own ret) {a : Nat} {i x : Int32} {q : Mem → Option β} {pc2 : Nat} (hk : kd a = 22) (hdg : decode cc pc = .ok (.castore, 1)) (hp : pc + 1 = pc2) (kk : ∀ M1, OX G p l e R s m args below meth c nL cells slots Z (q M1) pc2 L st M1) : OX G p l e R s m args below meth c nL cells slots Z (asr (inb i (ln a)) (bnd (w1 M a i.toNatClampNeg (vp_nar .char x)) q)) pc L (.int x :: .int i :: rv G a :: st) M := by
  subst hp
  refine x_asr fun hb r hr H locs ls hl hP hS => va_cast C.1 C.2.1 C.2.2.2.2.2.1 hP (wo_D G M) hS a 2 (at_c hk) rfl (inb_in hb) hdg (fun H1 locs1 hP1 _ hS1 => ?_)
  rw [wo_set (M' := w1 M a i.toNatClampNeg (vp_nar .char x)) (kd_lt (by omega)) (by rw [cel_c hk, w1_self]) w1_other] at hP1
  exact kk _ r hr H1 locs1 ls hl hP1 hS1
theorem x_alen (C : Cx G p s m args meth c cc nL own ret) {a : Nat} {pc2 : Nat} (hk : kd a = 20) (hdg : decode cc pc = .ok (.arraylength, 1)) (hp : pc + 1 = pc2) (kk : OX G p l e R s m args below meth c nL cells slots Z o pc2 L (.int (nI (ln a)) :: st) M) : OX G p l e R s m args below meth c nL cells slots Z o pc L (rv G a :: st) M := by
  subst hp
  exact fun r hr H locs ls hl hP hS => va_alen C.1 C.2.1 C.2.2.2.2.2.1 hP a 0 (at_i hk) (ty := .int) rfl rfl hdg (kk r hr H locs ls hl hP hS)
theorem x_calen (C : Cx G p s m args meth c cc nL own ret) {a : Nat} {pc2 : Nat} (hk : kd a = 22) (hdg : decode cc pc = .ok (.arraylength, 1)) (hp : pc + 1 = pc2) (kk : OX G p l e R s m args below meth c nL cells slots Z o pc2 L (.int (nI (ln a)) :: st) M) : OX G p l e R s m args below meth c nL cells slots Z o pc L (rv G a :: st) M := by
  subst hp
  exact fun r hr H locs ls hl hP hS => va_alen C.1 C.2.1 C.2.2.2.2.2.1 hP a 2 (at_c hk) (ty := .char) rfl rfl hdg (kk r hr H locs ls hl hP hS)
/-- the static array -/
theorem x_gets (C : Cx G p s m args meth c cc nL own ret) {ix pc2 : Nat} (hw : Cond.fieldLink own ix "BlanketKeys$Settings" "LEAST_TOO_MUCH" "[I" ∈ TT) (hdg : decode cc pc = .ok (.getstatic ix, 3)) (hp : pc + 3 = pc2) (kk : OX G p l e R s m args below meth c nL cells slots Z o pc2 L (.ref G.2.2.2.2.2 :: st) M) : OX G p l e R s m args below meth c nL cells slots Z o pc L st M := by
  subst hp
  exact fun r hr H locs ls hl hP hS => va_gets C.1 C.2.1 C.2.2.2.2.2.2.1 hS C.2.2.2.1 (C.2.2.2.2.1 _ hw) (fun _ h => h) hdg (kk r hr H locs ls hl hP hS)
theorem x_slen (C : Cx G p s m args meth c cc nL own ret) {pc2 : Nat} (hdg : decode cc pc = .ok (.arraylength, 1)) (hp : pc + 1 = pc2) (kk : OX G p l e R s m args below meth c nL cells slots Z o pc2 L (.int 3 :: st) M) : OX G p l e R s m args below meth c nL cells slots Z o pc L (.ref G.2.2.2.2.2 :: st) M := by
  subst hp
  exact fun r hr H locs ls hl hP hS => va_tlen C.1 C.2.1 C.2.2.2.2.2.2.2.1 hS rfl hdg (kk r hr H locs ls hl hP hS)
theorem x_sld (C : Cx G p s m args meth c cc nL own ret) {i : Int32} {pc2 : Nat} (hdg : decode cc pc = .ok (.iaload, 1)) (hp : pc + 1 = pc2) (kk : OX G p l e R s m args below meth c nL cells slots Z o pc2 L (.int (lm i.toNatClampNeg) :: st) M) : OX G p l e R s m args below meth c nL cells slots Z (asr (inb i 3) o) pc L (.int i :: .ref G.2.2.2.2.2 :: st) M := by
  subst hp
  exact x_asr fun hb r hr H locs ls hl hP hS => va_ti C.1 C.2.1 C.2.2.2.2.2.2.2.1 hS (inb_in hb) rfl hdg (kk r hr H locs ls hl hP hS)
/-! calls -/
/-- a call's words: V an instance method of its own class, S a static one -/
def CLV (own : String) (ix : Nat) (y : MethodName) (bytes : ByteArray) (maxL : Nat) (ret : Option FieldType) (n : Nat) : Prop := Cond.methodLink own ix y ∈ TT ∧ Cond.instanceMethod y ∈ TT ∧ Cond.selects y.cls y y ∈ TT ∧ Cond.initialized y.cls ∈ TT ∧ Cond.code y bytes maxL ret ∈ TT ∧ (y.cls ≠ "java/lang/invoke/MethodHandle" ∧ y.cls ≠ "java/lang/invoke/VarHandle" ∧ (parseMethodDescriptor y.desc).map (fun d => d.parameters.length) = some n)
def CLS (own : String) (ix : Nat) (y : MethodName) (bytes : ByteArray) (maxL : Nat) (ret : Option FieldType) (n : Nat) : Prop := Cond.methodLink own ix y ∈ TT ∧ Cond.static y ∈ TT ∧ Cond.initialized y.cls ∈ TT ∧ Cond.code y bytes maxL ret ∈ TT ∧ (y.cls ≠ "java/lang/invoke/MethodHandle" ∧ y.cls ≠ "java/lang/invoke/VarHandle" ∧ (parseMethodDescriptor y.desc).map (fun d => d.parameters.length) = some n)
theorem gV {own : String} {ix : Nat} {y : MethodName} {bytes : ByteArray} {maxL n : Nat} {ret : Option FieldType} (F : CLV own ix y bytes maxL ret n) : GoodIn TT (wsV own ix y.cls y (Cond.code y bytes maxL ret :: TT)) := by
  intro w hw
  obtain ⟨h1, h2, h3, h4, h5, -⟩ := F
  rcases List.mem_append.mp hw with h | h
  · simp only [List.mem_cons, List.not_mem_nil, or_false] at h
    rcases h with rfl | rfl | rfl | rfl
    · exact TTg _ h1
    · exact TTg _ h2
    · exact TTg _ h3
    · exact TTg _ h4
  · rcases List.mem_cons.mp h with rfl | h
    · exact TTg _ h5
    · exact TTg _ h
theorem gS {own : String} {ix : Nat} {y : MethodName} {bytes : ByteArray} {maxL n : Nat} {ret : Option FieldType} (F : CLS own ix y bytes maxL ret n) : GoodIn TT (va_wsS own ix y (Cond.code y bytes maxL ret :: TT)) := by
  intro w hw
  obtain ⟨h1, h2, h3, h4, -⟩ := F
  rcases List.mem_append.mp hw with h | h
  · simp only [List.mem_cons, List.not_mem_nil, or_false] at h
    rcases h with rfl | rfl | rfl
    · exact TTg _ h1
    · exact TTg _ h2
    · exact TTg _ h3
  · rcases List.mem_cons.mp h with rfl | h
    · exact TTg _ h4
    · exact TTg _ h
/-- behind any call -/
theorem x_run {γ : Type} {x : Option (γ × Mem)} {k : γ → Mem → Option β} {vl : γ → Option Value} {pc2 : Nat} {rest : List Value} (hp : pc + 3 = pc2)
    (hrun : ∀ q, x = some q → ∀ (H : Heap) (locs : List Loc) (ls : Array Slot), lh ls nL L → va_P G.2.1 vwCl (wo G M) H → va_S (An G) s.heap H locs → va_Run p l e R s m args below meth c H locs cells slots 0 0 (F0 m pc ls st) rest (fun st0 oc t => QQ G (vl q.1) q.2 #[] st0 oc t) (An G))
    (kk : ∀ v M1, x = some (v, M1) → OX G p l e R s m args below meth c nL cells slots Z (k v M1) pc2 L ((vl v).toList ++ rest) M1) : OX G p l e R s m args below meth c nL cells slots Z (cal x k) pc L st M := by
  subst hp
  intro r hr H locs ls hl hP hS
  obtain ⟨v, M1, hx, hk⟩ := cal_some hr
  intro T hT X
  obtain ⟨v', st₀, t, T', Lc, h0, X', hL, e1, e2, ⟨hv, hP1, hz, hq⟩, st⟩ := hrun _ hx H locs ls hl hP hS T hT X
  cases hv
  rw [h0] at hz hq
  obtain ⟨t2, a1, b1⟩ := kk v M1 hx r hk T'.heap (locs ++ Lc) ls hl (by rw [e1]; exact hP1)
    ⟨Nat.le_trans hS.1 (by rw [e1]; exact hz), fun q h1 h2 => by rw [e1, hq q (Nat.lt_of_lt_of_le h1 hS.1) h2]; exact hS.2.1 q h1 h2, fun q hq => by
      rcases List.mem_append.mp hq with h | h
      · exact hS.2.2 q h
      · exact hL q h⟩ T' rfl X'
  exact ⟨t2, st t2 a1, b1⟩
theorem x_pre (C : Cx G p s m args meth c cc nL own ret) {H : Heap} {locs : List Loc} (hP : va_P G.2.1 vwCl (wo G M) H) (hS : va_S (An G) s.heap H locs) {av : List Value} : ∀ U : State, U.heap = H → s.WarmedH U.vm → va_Pc av (Wd G M) av.toArray U := by
  intro U hU hW
  refine ⟨rfl, by rw [hU]; exact hP, va_K.moved hW.alike C.2.2.2.2.2.1, ?_, ?_⟩
  · rw [hU]
    exact va_Z.moved hW.alike (C.2.2.2.2.2.2.1.kept (fun a h1 h2 => hS.2.1 a h1 h2))
  · rw [hU]
    exact va_T.moved hW.alike (C.2.2.2.2.2.2.2.1.kept (fun a h1 h2 => hS.2.1 a h1 h2))
theorem x_callV (C : Cx G p s m args meth c cc nL own ret) {γ : Type} {x : Option (γ × Mem)} {k : γ → Mem → Option β} {vl : γ → Option Value} {ix n b ci maxL2 pc2 N : Nat} {y : MethodName} {bytes : ByteArray} {ret2 : Option FieldType} {rm : Room} {T : u_T} (As rest : List Value) (F : CLV own ix y bytes maxL2 ret2 n) (hM : ∀ q, x = some q → Met l y (Cond.code y bytes maxL2 ret2 :: TT) rm (va_Pc (rv G b :: As) (Wd G M)) (QQ G (vl q.1) q.2) 0 0 (An G)) (hk : kd b = ci) (hcl : vwCl[ci]? = some (y.cls, T, N)) (hst : st = As.reverse ++ rv G b :: rest) (hn : As.length = n) (hR : rm.cells = 0 ∧ rm.slots = 0 ∧ rm.frames + 1 ≤ R.frames ∧ 8 + (maxL2 + 11) + rm.locals ≤ R.locals) (hcat : (rest.map fun v => v.category).sum ≤ 8) (hcs : cells ≤ R.cells ∧ slots ≤ R.slots) (hdg : decode cc pc = .ok (.invokevirtual ix, 3)) (hp : pc + 3 = pc2)
    (kk : ∀ v M1, x = some (v, M1) → OX G p l e R s m args below meth c nL cells slots Z (k v M1) pc2 L ((vl v).toList ++ rest) M1) : OX G p l e R s m args below meth c nL cells slots Z (cal x k) pc L st M := by
  have hc : ci < 20 := by
    have : ci < vwCl.length := (List.getElem?_eq_some_iff.mp hcl).1
    have e : vwCl.length = 8 := rfl
    omega
  refine x_run (vl := vl) hp (fun q hq H locs ls hl hP hS => ?_) kk
  exact va_runV (As := As) (rest := rest) (b := G.1 + b) ⟨C.1, C.2.1, C.2.2.1, C.2.2.2.1, C.2.2.2.2.1⟩ (hM q hq) (cwV n C.2.2.2.2.1 (gV F) rfl hR.1 hR.2.1 ⟨rfl, F.2.2.2.2.2⟩ hR.2.2) ⟨wd_blind G M _, va_recv C.2.2.2.2.2.1 hP hcl (at_o hk hc), x_pre C hP hS⟩ rfl hn hl.1 hst (lv_room hcat) hdg hcs
theorem x_callS (C : Cx G p s m args meth c cc nL own ret) {γ : Type} {x : Option (γ × Mem)} {k : γ → Mem → Option β} {vl : γ → Option Value} {ix n maxL2 pc2 : Nat} {y : MethodName} {bytes : ByteArray} {ret2 : Option FieldType} {rm : Room} (As rest : List Value) (F : CLS own ix y bytes maxL2 ret2 n) (hM : ∀ q, x = some q → Met l y (Cond.code y bytes maxL2 ret2 :: TT) rm (va_Pc As (Wd G M)) (QQ G (vl q.1) q.2) 0 0 (An G)) (hst : st = As.reverse ++ rest) (hn : As.length = n) (hR : rm.cells = 0 ∧ rm.slots = 0 ∧ rm.frames + 1 ≤ R.frames ∧ 8 + (maxL2 + 11) + rm.locals ≤ R.locals) (hcat : (rest.map fun v => v.category).sum ≤ 8) (hcs : cells ≤ R.cells ∧ slots ≤ R.slots) (hdg : decode cc pc = .ok (.invokestatic ix, 3)) (hp : pc + 3 = pc2)
    (kk : ∀ v M1, x = some (v, M1) → OX G p l e R s m args below meth c nL cells slots Z (k v M1) pc2 L ((vl v).toList ++ rest) M1) : OX G p l e R s m args below meth c nL cells slots Z (cal x k) pc L st M := by
  refine x_run (vl := vl) hp (fun q hq H locs ls hl hP hS => ?_) kk
  exact va_runS (As := As) (rest := rest) ⟨C.1, C.2.1, C.2.2.1, C.2.2.2.1, C.2.2.2.2.1⟩ (hM q hq) (va_cwS n C.2.2.2.2.1 (gS F) rfl hR.1 hR.2.1 F.2.2.2.2 hR.2.2) ⟨wd_blind G M _, x_pre C hP hS⟩ rfl hn hl.1 hst (lv_room hcat) hdg hcs
theorem x_callVi (C : Cx G p s m args meth c cc nL own ret) {x : Option (Int32 × Mem)} {k : Int32 → Mem → Option β} {ix n b ci maxL2 pc2 N : Nat} {y : MethodName} {bytes : ByteArray} {ret2 : Option FieldType} {rm : Room} {T : u_T} (As rest : List Value) (F : CLV own ix y bytes maxL2 ret2 n) (hM : ∀ q, x = some q → Met l y (Cond.code y bytes maxL2 ret2 :: TT) rm (va_Pc (rv G b :: As) (Wd G M)) (QQ G (some (.int q.1)) q.2) 0 0 (An G)) (hk : kd b = ci) (hcl : vwCl[ci]? = some (y.cls, T, N)) (hst : st = As.reverse ++ rv G b :: rest) (hn : As.length = n) (hR : rm.cells = 0 ∧ rm.slots = 0 ∧ rm.frames + 1 ≤ R.frames ∧ 8 + (maxL2 + 11) + rm.locals ≤ R.locals) (hcat : (rest.map fun v => v.category).sum ≤ 8) (hcs : cells ≤ R.cells ∧ slots ≤ R.slots) (hdg : decode cc pc = .ok (.invokevirtual ix, 3)) (hp : pc + 3 = pc2)
    (kk : ∀ v M1, OX G p l e R s m args below meth c nL cells slots Z (k v M1) pc2 L (.int v :: rest) M1) : OX G p l e R s m args below meth c nL cells slots Z (cal x k) pc L st M := x_callV C (vl := fun v => some (.int v)) As rest F hM hk hcl hst hn hR hcat hcs hdg hp (fun v M1 _ => kk v M1)
theorem x_callVf (C : Cx G p s m args meth c cc nL own ret) {x : Option (UInt32 × Mem)} {k : UInt32 → Mem → Option β} {ix n b ci maxL2 pc2 N : Nat} {y : MethodName} {bytes : ByteArray} {ret2 : Option FieldType} {rm : Room} {T : u_T} (As rest : List Value) (F : CLV own ix y bytes maxL2 ret2 n) (hM : ∀ q, x = some q → Met l y (Cond.code y bytes maxL2 ret2 :: TT) rm (va_Pc (rv G b :: As) (Wd G M)) (QQ G (some (.float q.1)) q.2) 0 0 (An G)) (hk : kd b = ci) (hcl : vwCl[ci]? = some (y.cls, T, N)) (hst : st = As.reverse ++ rv G b :: rest) (hn : As.length = n) (hR : rm.cells = 0 ∧ rm.slots = 0 ∧ rm.frames + 1 ≤ R.frames ∧ 8 + (maxL2 + 11) + rm.locals ≤ R.locals) (hcat : (rest.map fun v => v.category).sum ≤ 8) (hcs : cells ≤ R.cells ∧ slots ≤ R.slots) (hdg : decode cc pc = .ok (.invokevirtual ix, 3)) (hp : pc + 3 = pc2)
    (kk : ∀ v M1, OX G p l e R s m args below meth c nL cells slots Z (k v M1) pc2 L (.float v :: rest) M1) : OX G p l e R s m args below meth c nL cells slots Z (cal x k) pc L st M := x_callV C (vl := fun v => some (.float v)) As rest F hM hk hcl hst hn hR hcat hcs hdg hp (fun v M1 _ => kk v M1)
theorem x_callVr (C : Cx G p s m args meth c cc nL own ret) {x : Option (Nat × Mem)} {k : Nat → Mem → Option β} {ix n b ci maxL2 pc2 N : Nat} {y : MethodName} {bytes : ByteArray} {ret2 : Option FieldType} {rm : Room} {T : u_T} (As rest : List Value) (F : CLV own ix y bytes maxL2 ret2 n) (hM : ∀ q, x = some q → Met l y (Cond.code y bytes maxL2 ret2 :: TT) rm (va_Pc (rv G b :: As) (Wd G M)) (QQ G (some (rv G q.1)) q.2) 0 0 (An G)) (hk : kd b = ci) (hcl : vwCl[ci]? = some (y.cls, T, N)) (hst : st = As.reverse ++ rv G b :: rest) (hn : As.length = n) (hR : rm.cells = 0 ∧ rm.slots = 0 ∧ rm.frames + 1 ≤ R.frames ∧ 8 + (maxL2 + 11) + rm.locals ≤ R.locals) (hcat : (rest.map fun v => v.category).sum ≤ 8) (hcs : cells ≤ R.cells ∧ slots ≤ R.slots) (hdg : decode cc pc = .ok (.invokevirtual ix, 3)) (hp : pc + 3 = pc2)
    (kk : ∀ v M1, OX G p l e R s m args below meth c nL cells slots Z (k v M1) pc2 L (rv G v :: rest) M1) : OX G p l e R s m args below meth c nL cells slots Z (cal x k) pc L st M := x_callV C (vl := fun v => some (rv G v)) As rest F hM hk hcl hst hn hR hcat hcs hdg hp (fun v M1 _ => kk v M1)
theorem x_callVv (C : Cx G p s m args meth c cc nL own ret) {x : Option (Unit × Mem)} {k : Unit → Mem → Option β} {ix n b ci maxL2 pc2 N : Nat} {y : MethodName} {bytes : ByteArray} {ret2 : Option FieldType} {rm : Room} {T : u_T} (As rest : List Value) (F : CLV own ix y bytes maxL2 ret2 n) (hM : ∀ q, x = some q → Met l y (Cond.code y bytes maxL2 ret2 :: TT) rm (va_Pc (rv G b :: As) (Wd G M)) (QQ G none q.2) 0 0 (An G)) (hk : kd b = ci) (hcl : vwCl[ci]? = some (y.cls, T, N)) (hst : st = As.reverse ++ rv G b :: rest) (hn : As.length = n) (hR : rm.cells = 0 ∧ rm.slots = 0 ∧ rm.frames + 1 ≤ R.frames ∧ 8 + (maxL2 + 11) + rm.locals ≤ R.locals) (hcat : (rest.map fun v => v.category).sum ≤ 8) (hcs : cells ≤ R.cells ∧ slots ≤ R.slots) (hdg : decode cc pc = .ok (.invokevirtual ix, 3)) (hp : pc + 3 = pc2)
    (kk : ∀ v M1, OX G p l e R s m args below meth c nL cells slots Z (k v M1) pc2 L rest M1) : OX G p l e R s m args below meth c nL cells slots Z (cal x k) pc L st M := x_callV C (vl := fun _ => none) As rest F hM hk hcl hst hn hR hcat hcs hdg hp (fun v M1 _ => kk v M1)
theorem x_callSi (C : Cx G p s m args meth c cc nL own ret) {x : Option (Int32 × Mem)} {k : Int32 → Mem → Option β} {ix n maxL2 pc2 : Nat} {y : MethodName} {bytes : ByteArray} {ret2 : Option FieldType} {rm : Room} (As rest : List Value) (F : CLS own ix y bytes maxL2 ret2 n) (hM : ∀ q, x = some q → Met l y (Cond.code y bytes maxL2 ret2 :: TT) rm (va_Pc As (Wd G M)) (QQ G (some (.int q.1)) q.2) 0 0 (An G)) (hst : st = As.reverse ++ rest) (hn : As.length = n) (hR : rm.cells = 0 ∧ rm.slots = 0 ∧ rm.frames + 1 ≤ R.frames ∧ 8 + (maxL2 + 11) + rm.locals ≤ R.locals) (hcat : (rest.map fun v => v.category).sum ≤ 8) (hcs : cells ≤ R.cells ∧ slots ≤ R.slots) (hdg : decode cc pc = .ok (.invokestatic ix, 3)) (hp : pc + 3 = pc2)
    (kk : ∀ v M1, OX G p l e R s m args below meth c nL cells slots Z (k v M1) pc2 L (.int v :: rest) M1) : OX G p l e R s m args below meth c nL cells slots Z (cal x k) pc L st M := x_callS C (vl := fun v => some (.int v)) As rest F hM hst hn hR hcat hcs hdg hp (fun v M1 _ => kk v M1)
theorem x_callSf (C : Cx G p s m args meth c cc nL own ret) {x : Option (UInt32 × Mem)} {k : UInt32 → Mem → Option β} {ix n maxL2 pc2 : Nat} {y : MethodName} {bytes : ByteArray} {ret2 : Option FieldType} {rm : Room} (As rest : List Value) (F : CLS own ix y bytes maxL2 ret2 n) (hM : ∀ q, x = some q → Met l y (Cond.code y bytes maxL2 ret2 :: TT) rm (va_Pc As (Wd G M)) (QQ G (some (.float q.1)) q.2) 0 0 (An G)) (hst : st = As.reverse ++ rest) (hn : As.length = n) (hR : rm.cells = 0 ∧ rm.slots = 0 ∧ rm.frames + 1 ≤ R.frames ∧ 8 + (maxL2 + 11) + rm.locals ≤ R.locals) (hcat : (rest.map fun v => v.category).sum ≤ 8) (hcs : cells ≤ R.cells ∧ slots ≤ R.slots) (hdg : decode cc pc = .ok (.invokestatic ix, 3)) (hp : pc + 3 = pc2)
    (kk : ∀ v M1, OX G p l e R s m args below meth c nL cells slots Z (k v M1) pc2 L (.float v :: rest) M1) : OX G p l e R s m args below meth c nL cells slots Z (cal x k) pc L st M := x_callS C (vl := fun v => some (.float v)) As rest F hM hst hn hR hcat hcs hdg hp (fun v M1 _ => kk v M1)
theorem x_callSv (C : Cx G p s m args meth c cc nL own ret) {x : Option (Unit × Mem)} {k : Unit → Mem → Option β} {ix n maxL2 pc2 : Nat} {y : MethodName} {bytes : ByteArray} {ret2 : Option FieldType} {rm : Room} (As rest : List Value) (F : CLS own ix y bytes maxL2 ret2 n) (hM : ∀ q, x = some q → Met l y (Cond.code y bytes maxL2 ret2 :: TT) rm (va_Pc As (Wd G M)) (QQ G none q.2) 0 0 (An G)) (hst : st = As.reverse ++ rest) (hn : As.length = n) (hR : rm.cells = 0 ∧ rm.slots = 0 ∧ rm.frames + 1 ≤ R.frames ∧ 8 + (maxL2 + 11) + rm.locals ≤ R.locals) (hcat : (rest.map fun v => v.category).sum ≤ 8) (hcs : cells ≤ R.cells ∧ slots ≤ R.slots) (hdg : decode cc pc = .ok (.invokestatic ix, 3)) (hp : pc + 3 = pc2)
    (kk : ∀ v M1, OX G p l e R s m args below meth c nL cells slots Z (k v M1) pc2 L rest M1) : OX G p l e R s m args below meth c nL cells slots Z (cal x k) pc L st M := x_callS C (vl := fun _ => none) As rest F hM hst hn hR hcat hcs hdg hp (fun v M1 _ => kk v M1)
/-! ends -/
theorem x_iret (C : Cx G p s m args meth c cc nL own ret) {vl : Int32 → Option Value} {x : Int32} (hvl : vl = fun v => some (.int v)) (hr0 : ret = some .int) (hdg : decode cc pc = .ok (.ireturn, 1)) : OX G p l e R s m args below meth c nL 0 0 (Zm vl G below args s) (some (x, M)) pc L [.int x] M := by
  subst hvl
  intro r hr H locs ls hl hP hS
  cases hr
  exact W.iret (v := x) C.1 C.2.1 (C.2.2.2.2.2.2.2.2.1.trans hr0) (fun t ht hW => ⟨rfl, by rw [ht]; exact hP, hS.F ht⟩) hS.2.2 hdg C.2.2.2.2.2.2.2.2.2
theorem x_zret (C : Cx G p s m args meth c cc nL own ret) {vl : Int32 → Option Value} {x : Int32} {ty : FieldType} (hvl : vl = fun v => some (.int v)) (hr0 : ret = some ty) (hn : narrow ty (.int x) = .int x) (hdg : decode cc pc = .ok (.ireturn, 1)) : OX G p l e R s m args below meth c nL 0 0 (Zm vl G below args s) (some (x, M)) pc L [.int x] M := by
  subst hvl
  intro r hr H locs ls hl hP hS
  cases hr
  exact W.zret (v := x) C.1 C.2.1 (C.2.2.2.2.2.2.2.2.1.trans hr0) hn (fun t ht hW => ⟨rfl, by rw [ht]; exact hP, hS.F ht⟩) hS.2.2 hdg C.2.2.2.2.2.2.2.2.2
/-- a char that is one -/
def chb (x : Int32) : Bool := decide (vp_nar .char x = x)
theorem x_cret (C : Cx G p s m args meth c cc nL own ret) {vl : Int32 → Option Value} {x : Int32} (hvl : vl = fun v => some (.int v)) (hr0 : ret = some .char) (hdg : decode cc pc = .ok (.ireturn, 1)) : OX G p l e R s m args below meth c nL 0 0 (Zm vl G below args s) (asr (chb x) (some (x, M))) pc L [.int x] M :=
  x_asr fun hb => x_zret C hvl hr0 (by
    have h := of_decide_eq_true hb
    simp only [vp_nar, narrow] at h ⊢
    rw [h]) hdg
theorem x_fret (C : Cx G p s m args meth c cc nL own ret) {vl : UInt32 → Option Value} {x : UInt32} (hvl : vl = fun v => some (.float v)) (hr0 : ret = some .float) (hdg : decode cc pc = .ok (.freturn, 1)) : OX G p l e R s m args below meth c nL 0 0 (Zm vl G below args s) (some (x, M)) pc L [.float x] M := by
  subst hvl
  intro r hr H locs ls hl hP hS
  cases hr
  exact W.fret (v := x) C.1 C.2.1 (C.2.2.2.2.2.2.2.2.1.trans hr0) (fun t ht hW => ⟨rfl, by rw [ht]; exact hP, hS.F ht⟩) hS.2.2 hdg C.2.2.2.2.2.2.2.2.2
theorem x_vret (C : Cx G p s m args meth c cc nL own ret) {vl : Unit → Option Value} (hvl : vl = fun _ => none) (hr0 : ret = none) (hdg : decode cc pc = .ok (.return_, 1)) : OX G p l e R s m args below meth c nL 0 0 (Zm vl G below args s) (some ((), M)) pc L [] M := by
  subst hvl
  intro r hr H locs ls hl hP hS
  cases hr
  exact W.vret C.1 C.2.1 (C.2.2.2.2.2.2.2.2.1.trans hr0) (fun t ht hW => ⟨rfl, by rw [ht]; exact hP, hS.F ht⟩) hS.2.2 hdg C.2.2.2.2.2.2.2.2.2
theorem x_aret (C : Cx G p s m args meth c cc nL own ret) {vl : Nat → Option Value} {x : Nat} {Cn : String} (hvl : vl = fun v => some (rv G v)) (hr0 : ret = some (.object Cn)) (hdg : decode cc pc = .ok (.areturn, 1)) : OX G p l e R s m args below meth c nL 0 0 (Zm vl G below args s) (some (x, M)) pc L [rv G x] M := by
  subst hvl
  intro r hr H locs ls hl hP hS
  cases hr
  exact W.aret (v := rv G x) C.1 C.2.1 (C.2.2.2.2.2.2.2.2.1.trans hr0) (Or.inl ⟨_, rfl⟩) (Or.inr ⟨_, rfl⟩) (fun t ht hW => ⟨rfl, by rw [ht]; exact hP, hS.F ht⟩) hS.2.2 hdg C.2.2.2.2.2.2.2.2.2
/-! natives -/
/-- System.arraycopy(src, sp, dst, dp, n) over arrays of ints -/
def cpok (a0 a1 : Nat) (sp dp n : Int32) : Bool := decide (0 ≤ sp.toInt ∧ 0 ≤ dp.toInt ∧ 0 ≤ n.toInt ∧ sp.toNatClampNeg + n.toNatClampNeg ≤ ln a0 ∧ dp.toNatClampNeg + n.toNatClampNeg ≤ ln a1)
theorem nneg {x : Int32} (h : 0 ≤ x.toInt) : ¬ x < 0 := by
  rw [Int32.lt_iff_toInt_lt, Int32.toInt_zero]
  omega
theorem x_copy (C : Cx G p s m args meth c cc nL own ret) {a0 a1 ix : Nat} {sp dp n : Int32} {q : Mem → Option β} {pc2 : Nat} (hw : Cond.methodLink own ix arraycopyName ∈ TT ∧ Cond.native arraycopyName ∈ TT ∧ Cond.static arraycopyName ∈ TT ∧ Cond.initialized "java/lang/System" ∈ TT) (hk0 : kd a0 = 20) (hk1 : kd a1 = 20) (hfr : 1 ≤ R.frames) (hlo : (st.map fun v => v.category).sum + 19 ≤ R.locals) (hdg : decode cc pc = .ok (.invokestatic ix, 3)) (hp : pc + 3 = pc2) (kk : ∀ M1, OX G p l e R s m args below meth c nL cells slots Z (q M1) pc2 L st M1) : OX G p l e R s m args below meth c nL cells slots Z (asr (cpok a0 a1 sp dp n) (bnd (wa M a1 (va_cpy (M.1 a0) (M.1 a1) sp.toNatClampNeg dp.toNatClampNeg n.toNatClampNeg)) q)) pc L (.int n :: .int dp :: rv G a1 :: .int sp :: rv G a0 :: st) M := by
  subst hp
  refine x_asr fun hb r hr H locs ls hl hP hS => ?_
  obtain ⟨b1, b2, b3, b4, b5⟩ := of_decide_eq_true hb
  have hW : nativeFrameWords "java/lang/System" "arraycopy" 5 + 11 ≤ 19 := by decide
  refine va_copyi C.1 C.2.1 (C.2.2.1.trans hl.1.symm) C.2.2.2.1 (C.2.2.2.2.1 _ hw.1) (C.2.2.2.2.1 _ hw.2.1) (C.2.2.2.2.1 _ hw.2.2.1) (C.2.2.2.2.1 _ hw.2.2.2) C.2.2.2.2.2.1 hP (wo_D G M) hS a0 a1 0 0 (at_i hk0) (at_i hk1) (ty := .int) rfl rfl rfl (nneg b1) (nneg b2) (nneg b3) b4 b5 (fun _ _ => rfl) hfr (by omega) hdg (fun H1 locs1 hP1 _ hS1 => ?_)
  rw [wo_set (M' := wa M a1 _) (kd_lt (by omega)) (by rw [cel_i hk1, wa_self]) wa_other] at hP1
  exact kk _ r hr H1 locs1 ls hl hP1 hS1
theorem x_i2fb (C : Cx G p s m args meth c cc nL own ret) {ix : Nat} {b : Int32} {pc2 : Nat} (hw : Cond.methodLink own ix ⟨"java/lang/Float", "intBitsToFloat", "(I)F"⟩ ∈ TT ∧ Cond.native ⟨"java/lang/Float", "intBitsToFloat", "(I)F"⟩ ∈ TT ∧ Cond.static ⟨"java/lang/Float", "intBitsToFloat", "(I)F"⟩ ∈ TT ∧ Cond.initialized "java/lang/Float" ∈ TT) (hfr : 1 ≤ R.frames) (hlo : (st.map fun v => v.category).sum + 15 ≤ R.locals) (hdg : decode cc pc = .ok (.invokestatic ix, 3)) (hp : pc + 3 = pc2) (kk : OX G p l e R s m args below meth c nL cells slots Z o pc2 L (.float b.toUInt32 :: st) M) : OX G p l e R s m args below meth c nL cells slots Z (asr (!(vn_sni2f b)) o) pc L (.int b :: st) M := by
  subst hp
  exact x_asr fun hb r hr H locs ls hl hP hS => vn_i2f C.1 C.2.1 (C.2.2.1.trans hl.1.symm) C.2.2.2.1 (C.2.2.2.2.1 _ hw.1) (C.2.2.2.2.1 _ hw.2.1) (C.2.2.2.2.1 _ hw.2.2.1) (C.2.2.2.2.1 _ hw.2.2.2) (by simpa using hb) hfr hlo hdg (kk r hr H locs ls hl hP hS)
theorem x_f2ib (C : Cx G p s m args meth c cc nL own ret) {ix : Nat} {b : UInt32} {pc2 : Nat} (hw : Cond.methodLink own ix ⟨"java/lang/Float", "floatToRawIntBits", "(F)I"⟩ ∈ TT ∧ Cond.native ⟨"java/lang/Float", "floatToRawIntBits", "(F)I"⟩ ∈ TT ∧ Cond.static ⟨"java/lang/Float", "floatToRawIntBits", "(F)I"⟩ ∈ TT ∧ Cond.initialized "java/lang/Float" ∈ TT) (hfr : 1 ≤ R.frames) (hlo : (st.map fun v => v.category).sum + 15 ≤ R.locals) (hdg : decode cc pc = .ok (.invokestatic ix, 3)) (hp : pc + 3 = pc2) (kk : OX G p l e R s m args below meth c nL cells slots Z o pc2 L (.int b.toInt32 :: st) M) : OX G p l e R s m args below meth c nL cells slots Z o pc L (.float b :: st) M := by
  subst hp
  exact fun r hr H locs ls hl hP hS => vn_f2i C.1 C.2.1 (C.2.2.1.trans hl.1.symm) C.2.2.2.1 (C.2.2.2.2.1 _ hw.1) (C.2.2.2.2.1 _ hw.2.1) (C.2.2.2.2.1 _ hw.2.2.1) (C.2.2.2.2.1 _ hw.2.2.2) hfr hlo hdg (kk r hr H locs ls hl hP hS)
end ROWS
