/-! THE MAKERS: the world is a list of cells, one behind another; new puts one at its end -/
def woL (G : bkG) (cs : List va_E) : va_W := cs.zipIdx.map (fun q => (G.1 + q.2, q.1))
theorem woL_len {G : bkG} {cs : List va_E} : (woL G cs).length = cs.length := by simp [woL]
theorem woL_at {G : bkG} {cs : List va_E} {k : Nat} {e : va_E} (h : cs[k]? = some e) : (woL G cs)[k]? = some (G.1 + k, e) := by
  unfold woL
  rw [List.getElem?_map, List.getElem?_zipIdx, h]
  simp
theorem woL_get {G : bkG} {cs : List va_E} {k : Nat} {q : Nat × va_E} (h : (woL G cs)[k]? = some q) : q.1 = G.1 + k ∧ cs[k]? = some q.2 := by
  unfold woL at h
  rw [List.getElem?_map, List.getElem?_zipIdx] at h
  cases hc : cs[k]? with
  | none => rw [hc] at h; simp at h
  | some e => rw [hc] at h; simp at h; subst h; simp
theorem woL_D (G : bkG) (cs : List va_E) : va_D (An G) (woL G cs) := by
  refine ⟨fun i j x y hi hj hxy => ?_, fun k q hk => ?_⟩
  · have h1 := (woL_get hi).1
    have h2 := (woL_get hj).1
    omega
  · have h1 := (woL_get hk).1
    show G.1 ≤ q.1
    omega
theorem woL_set {G : bkG} {cs : List va_E} {k : Nat} {e : va_E} (h : k < cs.length) : (woL G cs).set k (G.1 + k, e) = woL G (cs.set k e) := by
  apply List.ext_getElem?
  intro j
  by_cases hj : j = k
  · subst hj
    rw [List.getElem?_set_self (by rw [woL_len]; exact h), woL_at (List.getElem?_set_self h)]
  · rw [List.getElem?_set_ne (Ne.symm hj)]
    cases hc : cs[j]? with
    | none =>
      have : cs.length ≤ j := List.getElem?_eq_none_iff.mp hc
      rw [List.getElem?_eq_none (by rw [woL_len]; exact this), List.getElem?_eq_none (by rw [woL_len, List.length_set]; exact this)]
    | some e2 => rw [woL_at hc, woL_at (by rw [List.getElem?_set_ne (Ne.symm hj)]; exact hc)]
theorem woL_push {G : bkG} {cs : List va_E} {e : va_E} : woL G cs ++ [(G.1 + cs.length, e)] = woL G (cs ++ [e]) := by
  unfold woL
  rw [List.zipIdx_append, List.map_append]
  simp
/-- the words of private constructors that another class of the nest calls -/
def NW (U : State) : Prop := va_Nw (.methodLinkNest RX8 11 yX5_init RX8) U ∧ va_Nw (.methodLinkNest RX5 36 yX6_init RX8) U ∧ va_Nw (.methodLinkNest RX5 46 yX4_init RX8) U ∧ va_Nw (.methodLinkNest RX8 24 yX2_init RX8) U ∧ va_Nw (.methodLinkNest RX2 11 yX5_init RX8) U ∧ va_Nw (.methodLinkNest RX8 31 yX3_init RX8) U
theorem NW.warm {s U : State} (hW : s.WarmedH U.vm) (h : NW s) : NW U := ⟨h.1.warmM hW, h.2.1.warmM hW, h.2.2.1.warmM hW, h.2.2.2.1.warmM hW, h.2.2.2.2.1.warmM hW, h.2.2.2.2.2.warmM hW⟩
theorem NW.same {u U : State} (e : u.vm = U.vm) (h : NW u) : NW U := ⟨h.1.same rfl e, h.2.1.same rfl e, h.2.2.1.same rfl e, h.2.2.2.1.same rfl e, h.2.2.2.2.1.same rfl e, h.2.2.2.2.2.same rfl e⟩
def WL (G : bkG) (cs : List va_E) (U : State) : Prop := va_P G.2.1 vwCl (woL G cs) U.heap ∧ U.heap.size = G.1 + cs.length ∧ va_K G.2.1 vwCl (tysG G) U ∧ va_Z "BlanketKeys$Settings" "LEAST_TOO_MUCH" "[I" (.ref G.2.2.2.2.2) (An G) U U.heap ∧ va_T .int G.2.2.2.2.2 3 (fun j => .int (lm j)) (An G) U U.heap ∧ NW U
def QL (G : bkG) (cs : List va_E) : Array Value → State → Outcome → State → Prop := fun _ st oc t => oc = .returned none ∧ (va_P G.2.1 vwCl (woL G cs) t.heap ∧ t.heap.size = G.1 + cs.length) ∧ va_F (An G) st t
def OY (G : bkG) (p : Program) (l : Launch) (e : Env) (R : Room) (s : State) (m : MethodId) (args : Array Value) (below : List Frame) (meth : Method) (c : Code) (nL cells slots : Nat) (Q : State → Prop) (pc : Nat) (L : List (Option Value)) (st : List Value) (cs : List va_E) : Prop :=
  ∀ (H : Heap) (locs : List Loc) (ls : Array Slot), lh ls nL L → va_P G.2.1 vwCl (woL G cs) H → H.size = G.1 + cs.length → va_S (An G) s.heap H locs → W p l e R s m args below meth c H locs cells slots Q (F0 m pc ls st)
theorem wl_blind (G : bkG) (cs : List va_E) (av : List Value) : FrameBlind (va_Pc av (WL G cs)) := by
  intro a U g mk h
  obtain ⟨h1, h2, h2b, h3, h4, h5, h6⟩ := h
  exact ⟨h1, h2, h2b, va_K.moved (u := U) (U := U.calling g mk a) (Vm.Alike.refl U.vm) h3, va_Z.moved (u := U) (U := U.calling g mk a) (Vm.Alike.refl U.vm) h4, va_T.moved (u := U) (U := U.calling g mk a) (Vm.Alike.refl U.vm) h5, NW.same (u := U) (U := U.calling g mk a) rfl h6⟩
theorem mkMetY {l : Launch} {y : MethodName} {cc : ByteArray} {maxL mc ms : Nat} {rm : Room} {av : List Value} {G : bkG} {cs cs' : List va_E} (own : String) (hown0 : y.cls = own) (hy : plainFor y = true) (hc : c1 (av.map some) = true) (hn : av.length ≤ maxL) (L : List (Option Value)) (hL : av.map some ++ List.replicate (maxL - av.length) none = L)
    (body : ∀ (p : Program) (e : Env) (s : State) (m : MethodId) (args : Array Value) (below : List Frame) (meth : Method) (c : Code), Cx G p s m args meth c cc maxL own none → (y.name = "<init>" → meth.name = "<init>") → NW s → (∀ q, s.heap.size ≤ q → An G q) →
      OY G p l e rm s m args below meth c maxL 0 0 (MQ below (QL G cs') args s mc ms (An G)) 0 L [] cs) :
    Met l y (Cond.code y cc maxL none :: TT) rm (va_Pc av (WL G cs)) (QL G cs') mc ms (An G) := by
  refine va_MetF (cc := cc) (maxL := maxL) (ret := none) hy rfl ?_
  intro p e s m args below meth c s₁ B hml hv
  obtain ⟨rfl, hP, hsz, hK, hZ, hT, hN⟩ := hv
  have hts := atoms_spec (ws := Cond.code y cc maxL none :: TT) B.pre
  have hown : s.vm.findClass y.cls = some m.cls := findClass_of_methodNamed B.named
  rw [hown0] at hown
  rw [lg_entry_eq]
  exact body p e s m av.toArray below meth c ⟨B.exec, B.bytes, hml, hown, fun w h => hts w (List.mem_cons_of_mem _ h), hK, hZ, hT, B.returns, B.notSynchronized⟩ (fun h => by rw [← h]; exact (name_of_methodNamed B.named B.method).1) hN (fun q hq => by show G.1 ≤ q; omega) s.heap [] _
    (lh_in av maxL (fun v hv => by
      obtain ⟨i, hi⟩ := List.getElem?_of_mem hv
      exact c1_spec hc i v (by rw [List.getElem?_map, hi]; rfl)) hn hL) hP hsz va_S.rf
/-- a cell of a list behind another list -/
theorem ap_at {α : Type} {a b : List α} {n j : Nat} {e : α} (hn : a.length = n) (h : b[j]? = some e) : (a ++ b)[n + j]? = some e := by
  subst hn
  rw [List.getElem?_append_right (by omega), show a.length + j - a.length = j by omega]
  exact h
theorem ap_at0 {α : Type} {a b : List α} {n : Nat} {e : α} (hn : a.length = n) (h : b[0]? = some e) : (a ++ b)[n]? = some e := ap_at (j := 0) hn h
theorem ap_set {α : Type} {a b b' : List α} {n j : Nat} {e : α} (hn : a.length = n) (h : b.set j e = b') : (a ++ b).set (n + j) e = a ++ b' := by
  subst hn h
  rw [List.set_append_right (h := by omega), show a.length + j - a.length = j by omega]
theorem ap_set0 {α : Type} {a b b' : List α} {n : Nat} {e : α} (hn : a.length = n) (h : b.set 0 e = b') : (a ++ b).set n e = a ++ b' := ap_set (j := 0) hn h
section YROWS
variable {G : bkG} {p : Program} {l : Launch} {e : Env} {R : Room} {s : State} {m : MethodId} {args : Array Value} {below : List Frame} {meth : Method} {c : Code} {nL cells slots : Nat} {Q : State → Prop}
variable {cc : ByteArray} {own : String} {ret : Option FieldType} {pc : Nat} {L : List (Option Value)} {st : List Value} {cs : List va_E}
theorem y_iconst (C : Cx G p s m args meth c cc nL own ret) {n : Int} {v : Int32} {pc2 : Nat} (hdg : decode cc pc = .ok (.iconst n, 1)) (hp : pc + 1 = pc2) (hv : Int32.ofInt n = v) (kk : OY G p l e R s m args below meth c nL cells slots Q pc2 L (.int v :: st) cs) : OY G p l e R s m args below meth c nL cells slots Q pc L st cs := by
  subst hp
  exact fun H locs ls hl hP hz hS => lv_iconst C.1 C.2.1 hdg hv (kk H locs ls hl hP hz hS)
theorem y_bipush (C : Cx G p s m args meth c cc nL own ret) {n : Int} {v : Int32} {pc2 : Nat} (hdg : decode cc pc = .ok (.bipush n, 2)) (hp : pc + 2 = pc2) (hv : (Int8.ofInt n).toInt32 = v) (kk : OY G p l e R s m args below meth c nL cells slots Q pc2 L (.int v :: st) cs) : OY G p l e R s m args below meth c nL cells slots Q pc L st cs := by
  subst hp
  exact fun H locs ls hl hP hz hS => lv_bipush C.1 C.2.1 hdg hv (kk H locs ls hl hP hz hS)
theorem y_sipush (C : Cx G p s m args meth c cc nL own ret) {n : Int} {v : Int32} {pc2 : Nat} (hdg : decode cc pc = .ok (.sipush n, 3)) (hp : pc + 3 = pc2) (hv : (Int16.ofInt n).toInt32 = v) (kk : OY G p l e R s m args below meth c nL cells slots Q pc2 L (.int v :: st) cs) : OY G p l e R s m args below meth c nL cells slots Q pc L st cs := by
  subst hp
  exact fun H locs ls hl hP hz hS => lv_sipush C.1 C.2.1 hdg hv (kk H locs ls hl hP hz hS)
theorem y_ldc (C : Cx G p s m args meth c cc nL own ret) {ix : Nat} {v : Int32} {pc2 : Nat} (hdg : decode cc pc = .ok (.ldc ix, 2)) (hp : pc + 2 = pc2) (hw : Cond.constant own ix v ∈ TT) (kk : OY G p l e R s m args below meth c nL cells slots Q pc2 L (.int v :: st) cs) : OY G p l e R s m args below meth c nL cells slots Q pc L st cs := by
  subst hp
  exact fun H locs ls hl hP hz hS => lv_ldc C.1 C.2.1 C.2.2.2.1 (C.2.2.2.2.1 _ hw) hdg (kk H locs ls hl hP hz hS)
theorem y_ldcf (C : Cx G p s m args meth c cc nL own ret) {ix : Nat} {v : UInt32} {pc2 : Nat} (hdg : decode cc pc = .ok (.ldc ix, 2)) (hp : pc + 2 = pc2) (hw : Cond.constantFloat own ix v ∈ TT) (kk : OY G p l e R s m args below meth c nL cells slots Q pc2 L (.float v :: st) cs) : OY G p l e R s m args below meth c nL cells slots Q pc L st cs := by
  subst hp
  exact fun H locs ls hl hP hz hS => lv_ldcf C.1 C.2.1 C.2.2.2.1 (C.2.2.2.2.1 _ hw) hdg (kk H locs ls hl hP hz hS)
theorem y_dup (C : Cx G p s m args meth c cc nL own ret) {v : Value} {pc2 : Nat} (hdg : decode cc pc = .ok (.dup, 1)) (hp : pc + 1 = pc2) (hv : v.category = 1) (kk : OY G p l e R s m args below meth c nL cells slots Q pc2 L (v :: v :: st) cs) : OY G p l e R s m args below meth c nL cells slots Q pc L (v :: st) cs := by
  subst hp
  exact fun H locs ls hl hP hz hS => lv_dup C.1 C.2.1 hdg hv (kk H locs ls hl hP hz hS)
theorem y_aload_n (C : Cx G p s m args meth c cc nL own ret) {k : Fin 4} {x : Nat} {pc2 : Nat} (hdg : decode cc pc = .ok (.aload_n k, 1)) (hp : pc + 1 = pc2) (hi : L[(k : Nat)]? = some (some (.ref x))) (kk : OY G p l e R s m args below meth c nL cells slots Q pc2 L (.ref x :: st) cs) : OY G p l e R s m args below meth c nL cells slots Q pc L st cs := by
  subst hp
  exact fun H locs ls hl hP hz hS => lv_aload_n C.1 C.2.1 hdg rfl (hl.2.2 k _ hi) (kk H locs ls hl hP hz hS)
theorem y_iload_n (C : Cx G p s m args meth c cc nL own ret) {k : Fin 4} {x : Int32} {pc2 : Nat} (hdg : decode cc pc = .ok (.iload_n k, 1)) (hp : pc + 1 = pc2) (hi : L[(k : Nat)]? = some (some (.int x))) (kk : OY G p l e R s m args below meth c nL cells slots Q pc2 L (.int x :: st) cs) : OY G p l e R s m args below meth c nL cells slots Q pc L st cs := by
  subst hp
  exact fun H locs ls hl hP hz hS => lv_iload_n C.1 C.2.1 hdg rfl (hl.2.2 k _ hi) (kk H locs ls hl hP hz hS)
theorem y_fload_n (C : Cx G p s m args meth c cc nL own ret) {k : Fin 4} {x : UInt32} {pc2 : Nat} (hdg : decode cc pc = .ok (.fload_n k, 1)) (hp : pc + 1 = pc2) (hi : L[(k : Nat)]? = some (some (.float x))) (kk : OY G p l e R s m args below meth c nL cells slots Q pc2 L (.float x :: st) cs) : OY G p l e R s m args below meth c nL cells slots Q pc L st cs := by
  subst hp
  exact fun H locs ls hl hP hz hS => lv_fload_n C.1 C.2.1 hdg rfl (hl.2.2 k _ hi) (kk H locs ls hl hP hz hS)
theorem y_istore_n (C : Cx G p s m args meth c cc nL own ret) {k : Fin 4} {x : Int32} {pc2 : Nat} (hdg : decode cc pc = .ok (.istore_n k, 1)) (hp : pc + 1 = pc2) (L2 : List (Option Value)) (hL : L.set (k : Nat) (some (.int x)) = L2) (hc : (c1 L && decide ((k : Nat) < L.length) && decide ((k : Nat) < nL)) = true) (kk : OY G p l e R s m args below meth c nL cells slots Q pc2 L2 st cs) : OY G p l e R s m args below meth c nL cells slots Q pc L (.int x :: st) cs := by
  subst hp hL
  simp only [Bool.and_eq_true, decide_eq_true_eq] at hc
  exact fun H locs ls hl hP hz hS => lv_istore_n C.1 C.2.1 hdg rfl (lh_lv hl) hc.2 rfl (fun ls2 hl2 => kk H locs ls2 (lh_st hl2 (c1_spec hc.1.1) hc.1.2) hP hz hS)
theorem y_astore_n (C : Cx G p s m args meth c cc nL own ret) {k : Fin 4} {x : Nat} {pc2 : Nat} (hdg : decode cc pc = .ok (.astore_n k, 1)) (hp : pc + 1 = pc2) (L2 : List (Option Value)) (hL : L.set (k : Nat) (some (.ref x)) = L2) (hc : (c1 L && decide ((k : Nat) < L.length) && decide ((k : Nat) < nL)) = true) (kk : OY G p l e R s m args below meth c nL cells slots Q pc2 L2 st cs) : OY G p l e R s m args below meth c nL cells slots Q pc L (.ref x :: st) cs := by
  subst hp hL
  simp only [Bool.and_eq_true, decide_eq_true_eq] at hc
  exact fun H locs ls hl hP hz hS => lv_astore_n C.1 C.2.1 hdg rfl (lh_lv hl) hc.2 rfl (fun ls2 hl2 => kk H locs ls2 (lh_st hl2 (c1_spec hc.1.1) hc.1.2) hP hz hS)
theorem y_icmp_geT (C : Cx G p s m args meth c cc nL own ret) {x y : Int32} {off : Int} {tgt : Nat} (hdg : decode cc pc = .ok (.if_icmp .ge off, 3)) (ht : (pc : Int) + off = (tgt : Int)) (h : y ≤ x) (kk : OY G p l e R s m args below meth c nL cells slots Q tgt L st cs) : OY G p l e R s m args below meth c nL cells slots Q pc L (.int y :: .int x :: st) cs := fun H locs ls hl hP hz hS => lv_icmp_ge C.1 C.2.1 hdg ht (fun _ => kk H locs ls hl hP hz hS) (fun h2 => absurd h h2)
theorem y_icmp_geF (C : Cx G p s m args meth c cc nL own ret) {x y : Int32} {off : Int} {pc2 : Nat} (hdg : decode cc pc = .ok (.if_icmp .ge off, 3)) (h : ¬ y ≤ x) (hp : pc + 3 = pc2) {tgt : Nat} (ht : (pc : Int) + off = (tgt : Int)) (kk : OY G p l e R s m args below meth c nL cells slots Q pc2 L st cs) : OY G p l e R s m args below meth c nL cells slots Q pc L (.int y :: .int x :: st) cs := by
  subst hp
  exact fun H locs ls hl hP hz hS => lv_icmp_ge C.1 C.2.1 hdg ht (fun h2 => absurd h2 h) (fun _ => kk H locs ls hl hP hz hS)
theorem y_goto (C : Cx G p s m args meth c cc nL own ret) {off : Int} {tgt : Nat} (hdg : decode cc pc = .ok (.goto off, 3)) (ht : (pc : Int) + off = (tgt : Int)) (kk : OY G p l e R s m args below meth c nL cells slots Q tgt L st cs) : OY G p l e R s m args below meth c nL cells slots Q pc L st cs := fun H locs ls hl hP hz hS => lv_goto C.1 C.2.1 hdg ht (kk H locs ls hl hP hz hS)
theorem y_iinc (C : Cx G p s m args meth c cc nL own ret) {i : Nat} {n : Int} {x v : Int32} {pc2 : Nat} (hdg : decode cc pc = .ok (.iinc i n, 3)) (hp : pc + 3 = pc2) (hi : L[i]? = some (some (.int x))) (hv : x + Int32.ofInt n = v) (L2 : List (Option Value)) (hL : L.set i (some (.int v)) = L2) (hc : (c1 L && decide (i < L.length) && decide (i < nL)) = true) (kk : OY G p l e R s m args below meth c nL cells slots Q pc2 L2 st cs) : OY G p l e R s m args below meth c nL cells slots Q pc L st cs := by
  subst hp hL
  simp only [Bool.and_eq_true, decide_eq_true_eq] at hc
  intro H locs ls hl hP hz hS
  obtain ⟨k, hk⟩ := List.getElem?_of_mem (show (i, Value.int x) ∈ lh_l L from List.mem_filterMap.mpr ⟨(some (.int x), i), List.mem_zipIdx_iff_getElem?.mpr hi, rfl⟩)
  exact lv_iinc C.1 C.2.1 hdg (lh_lv hl) hk hv hc.2 rfl (fun ls2 hl2 => kk H locs ls2 (lh_st hl2 (c1_spec hc.1.1) hc.1.2) hP hz hS)
theorem y_objInit (C : Cx G p s m args meth c cc nL own ret) {ix pc2 x : Nat} (hw : Cond.methodLink own ix objectInit ∈ TT) (hfr : 1 ≤ R.frames) (hlo : (st.map fun v => v.category).sum + 12 ≤ R.locals) (hdg : decode cc pc = .ok (.invokespecial ix, 3)) (hp : pc + 3 = pc2) (kk : OY G p l e R s m args below meth c nL cells slots Q pc2 L st cs) : OY G p l e R s m args below meth c nL cells slots Q pc L (.ref x :: st) cs := by
  subst hp
  exact fun H locs ls hl hP hz hS => W.objInit C.1 C.2.1 C.2.2.2.1 (C.2.2.2.2.1 _ hw) (C.2.2.2.2.1 _ wt1_20) (C.2.2.2.2.1 _ wt1_21) rfl (hl.1.trans C.2.2.1.symm) rfl hdg hfr (by show 2 * 0 + _ + 12 ≤ _; omega) (kk H locs ls hl hP hz hS)
theorem y_get (C : Cx G p s m args meth c cc nL own ret) {k ci j ix : Nat} {nf : Bool} {v : Value} {fs : List Value} {pc2 : Nat} (F : FL own ix ci j nf) (hat : cs[k]? = some (.inr (ci, fs))) (hv : fs[j]? = some v) (hdg : decode cc pc = .ok (.getfield ix, 3)) (hp : pc + 3 = pc2) (kk : OY G p l e R s m args below meth c nL cells slots Q pc2 L (v :: st) cs) : OY G p l e R s m args below meth c nL cells slots Q pc L (rv G k :: st) cs := by
  subst hp
  obtain ⟨Cn, T, N, ty, h1, h2, h3, h4, h5, -, -, -⟩ := F
  exact fun H locs ls hl hP hz hS => va_get C.1 C.2.1 C.2.2.2.2.1 h5 C.2.2.2.1 C.2.2.2.2.2.1 hP k (woL_at hat) h1 j h2 (C.2.2.2.2.1 _ h3) (fun x hx => by rw [h4] at hx; exact hx) hv hdg (kk H locs ls hl hP hz hS)
theorem y_put (C : Cx G p s m args meth c cc nL own ret) {k ci j ix : Nat} {ty : FieldType} {v : Value} {fs : List Value} {cs' : List va_E} {pc2 : Nat} (F : FT own ix ci j ty) (hat : cs[k]? = some (.inr (ci, fs))) (hn : narrow ty v = v) (hf : fits ty v = true) (hl0 : j < fs.length) (hset : cs.set k (.inr (ci, fs.set j v)) = cs') (hdg : decode cc pc = .ok (.putfield ix, 3)) (hp : pc + 3 = pc2) (kk : OY G p l e R s m args below meth c nL cells slots Q pc2 L st cs') : OY G p l e R s m args below meth c nL cells slots Q pc L (v :: rv G k :: st) cs := by
  subst hp hset
  obtain ⟨Cn, T, N, ty0, hc, hk, hlink, hdecl, hin, hty, hnm, hfin, hd⟩ := F
  intro H locs ls hl hP hz hS0
  have hkl : k < cs.length := (List.getElem?_eq_some_iff.mp hat).1
  have hts := C.2.2.2.2.1
  have hK := C.2.2.2.2.2.1
  have hap := va_apart (own := own) hts hin ty0 hty hnm hK hc
  obtain ⟨r, h1, cell, q1, q2, q3, q4⟩ := hP k _ (woL_at hat)
  have hr : r = (Cn, T, N) := Option.some.inj (h1.symm.trans hc)
  subst hr
  obtain ⟨hS, hfc, kC, hkC, hkind⟩ := hK.1 ci _ hc
  obtain ⟨cf, kf, fi, f, hi, hsl⟩ := hS j hk
  have hlay := hts _ (hin _ (u_in_lay hk))
  unfold u_lay at hlay
  rw [if_neg (by rw [hfin]; decide)] at hlay
  have hst := (u_facts hfc hkC (u_lays hts hin hk) hi).1
  have h6 := u_store hfc hkC hkind hlay hi hd hn hf
  refine W.putK C.1 C.2.1 (f := f) ⟨C.2.2.2.1, hts _ hlink, ⟨_, _, _, by rw [← hdecl]; exact hi⟩, hst⟩ (by rw [q2]; exact h6) q1 q3 (by rw [hsl]; exact k2_hasslot (q4 j hk)) rfl rfl hdg fun H' e1 e2 e3 => ?_
  rw [hsl] at e1 ⊢
  have hP1 := hP.set (woL_D G cs) (woL_at hat) (e := .inr (ci, fs.set j v)) ⟨_, hc, t_OB.to (V := updV (vp_V fs) j v) ⟨_, e1, q2, q3, t_set q4 hap hk v⟩ (fun i _ => vp_updV_set hl0 v i)⟩ e3
  rw [woL_set hkl] at hP1
  exact kk H' _ ls hl hP1 (by rw [List.length_set, e2]; exact hz) (hS0.put e2 e3 ((woL_D G cs).2 k _ (woL_at hat)))
/-- a final field, in its constructor -/
def FN (own : String) (ix ci j : Nat) (ty : FieldType) : Prop := ∃ (C : String) (T : u_T) (N : Nat) (ty0 : Nat → FieldType), vwCl[ci]? = some (C, T, N) ∧ j < N ∧ Cond.fieldLink own ix C (T j).2.1 (T j).2.2.1 ∈ TT ∧ (T j).1 = C ∧ (∀ w ∈ u_ws C T N, w ∈ TT) ∧ (∀ k, k < N → parseFieldDescriptor (T k).2.2.1 = some (ty0 k)) ∧ (∀ a, a < N → ∀ b, b < N → a ≠ b → (T a).2.1 ≠ (T b).2.1) ∧ (T j).2.2.2 = true ∧ parseFieldDescriptor (T j).2.2.1 = some ty ∧ (T j).1 = own
theorem y_putF (C : Cx G p s m args meth c cc nL own ret) {k ci j ix : Nat} {ty : FieldType} {v : Value} {fs : List Value} {cs' : List va_E} {pc2 : Nat} (hin2 : meth.name = "<init>") (F : FN own ix ci j ty) (hat : cs[k]? = some (.inr (ci, fs))) (hn : narrow ty v = v) (hf : fits ty v = true) (hl0 : j < fs.length) (hset : cs.set k (.inr (ci, fs.set j v)) = cs') (hdg : decode cc pc = .ok (.putfield ix, 3)) (hp : pc + 3 = pc2) (kk : OY G p l e R s m args below meth c nL cells slots Q pc2 L st cs') : OY G p l e R s m args below meth c nL cells slots Q pc L (v :: rv G k :: st) cs := by
  subst hp hset
  obtain ⟨Cn, T, N, ty0, hc, hk, hlink, hdecl, hin, hty, hnm, hfin, hd, hdo⟩ := F
  intro H locs ls hl hP hz hS0
  have hkl : k < cs.length := (List.getElem?_eq_some_iff.mp hat).1
  have hts := C.2.2.2.2.1
  have hK := C.2.2.2.2.2.1
  have hown := C.2.2.2.1
  have hap := va_apart (own := own) hts hin ty0 hty hnm hK hc
  obtain ⟨r, h1, cell, q1, q2, q3, q4⟩ := hP k _ (woL_at hat)
  have hr : r = (Cn, T, N) := Option.some.inj (h1.symm.trans hc)
  subst hr
  obtain ⟨hS, hfc, kC, hkC, hkind⟩ := hK.1 ci _ hc
  obtain ⟨cf, kf, fi, f, hi, hsl⟩ := hS j hk
  have hlay := hts _ (hin _ (u_in_lay hk))
  unfold u_lay at hlay
  rw [if_pos hfin] at hlay
  have hst := (u_facts hfc hkC (u_lays hts hin hk) hi).1
  have hcf : m.cls = cf := by
    obtain ⟨_, _, c', _, _, _, -, -, hf', -, -, -, hown2, -⟩ := Cond.laysFinal_spec hlay
    have e1 : c' = cf := by have := hi.symm.trans hf'; simp at this; exact this.1.symm
    rw [hdo] at hown2
    rw [← e1]; exact Option.some.inj (hown.symm.trans hown2)
  have h6 := u_fits hfc hkC hkind (Or.inr hlay) hi hd hn hf
  refine W.putFinK C.1 C.2.1 hown (hts _ hlink) (by rw [← hdecl]; exact hi) hst hcf hin2 (by rw [q2]; exact h6) q1 q3 (by rw [hsl]; exact k2_hasslot (q4 j hk)) rfl rfl hdg fun H' e1 e2 e3 => ?_
  rw [hsl] at e1 ⊢
  have hP1 := hP.set (woL_D G cs) (woL_at hat) (e := .inr (ci, fs.set j v)) ⟨_, hc, t_OB.to (V := updV (vp_V fs) j v) ⟨_, e1, q2, q3, t_set q4 hap hk v⟩ (fun i _ => vp_updV_set hl0 v i)⟩ e3
  rw [woL_set hkl] at hP1
  exact kk H' _ ls hl hP1 (by rw [List.length_set, e2]; exact hz) (hS0.put e2 e3 ((woL_D G cs).2 k _ (woL_at hat)))
theorem y_iast (C : Cx G p s m args meth c cc nL own ret) {k n : Nat} {f : Nat → Int32} {i x : Int32} {cs' : List va_E} {pc2 : Nat} (hat : cs[k]? = some (.inl (G.2.2.1, n, .inl f))) (hin : vp_in i n) (hset : cs.set k (.inl (G.2.2.1, n, .inl (upd f i.toNatClampNeg x))) = cs') (hdg : decode cc pc = .ok (.iastore, 1)) (hp : pc + 1 = pc2) (kk : OY G p l e R s m args below meth c nL cells slots Q pc2 L st cs') : OY G p l e R s m args below meth c nL cells slots Q pc L (.int x :: .int i :: rv G k :: st) cs := by
  subst hp hset
  intro H locs ls hl hP hz hS
  have hkl : k < cs.length := (List.getElem?_eq_some_iff.mp hat).1
  refine W.iast C.1 C.2.1 (hP k _ (woL_at hat)) ((C.2.2.2.2.2.1.2 0 _ rfl).1 n (fun j => .int (f j))) (fun q => by cases q) (by show ¬ (i < 0 ∨ (arrV _ _ _).slots.size ≤ _); rw [arrV_size]; exact hin) rfl rfl hdg fun H1 e z oq => ?_
  have hP1 := hP.set (woL_D G cs) (woL_at hat) (e := .inl (G.2.2.1, n, .inl (upd f i.toNatClampNeg x))) (by
    show H1[G.1 + k]? = some (vp_cell _ _)
    rw [e, vp_cell_i, vp_cell_i, arrV_store]
    congr 2
    funext q
    by_cases hq : q = i.toNatClampNeg
    · subst hq
      simp [updV, upd]
    · simp [updV, upd, hq]) oq
  rw [woL_set hkl] at hP1
  exact kk H1 _ ls hl hP1 (by rw [List.length_set, z]; exact hz) (hS.put z oq ((woL_D G cs).2 k _ (woL_at hat)))
/-- a new object: by its class; the cells' number and the slots' grow -/
theorem y_new (C : Cx G p s m args meth c cc nL own ret) {ix ci N pc2 : Nat} {Cn : String} {T : u_T} {fs : List Value} {cs' : List va_E} (ty : Nat → FieldType) (hw : Cond.classLink own ix Cn ∈ TT ∧ Cond.instantiable Cn N ∈ TT ∧ Cond.initialized Cn ∈ TT) (hin : ∀ w ∈ u_ws Cn T N, w ∈ TT) (hty : ∀ k, k < N → parseFieldDescriptor (T k).2.2.1 = some (ty k)) (hc : vwCl[ci]? = some (Cn, T, N)) (hfs : ∀ j, j < N → defaultValue (ty j) = vp_V fs j) (hA : ∀ q, s.heap.size ≤ q → An G q) (hcells : cells + 1 ≤ R.cells) (hslots : slots + N ≤ R.slots) {cells' slots' n : Nat} (hc' : cells + 1 = cells') (hs' : slots + N = slots') (hcs : cs ++ [.inr (ci, fs)] = cs') (hn : cs.length = n) (hdg : decode cc pc = .ok (.new ix, 3)) (hp : pc + 3 = pc2) (kk : OY G p l e R s m args below meth c nL cells' slots' Q pc2 L (rv G n :: st) cs') : OY G p l e R s m args below meth c nL cells slots Q pc L st cs := by
  subst hp hc' hs' hcs hn
  intro H locs ls hl hP hz hS
  have hKn := C.2.2.2.2.2.1.1 ci _ hc
  refine W.newcK C.1 C.2.1 C.2.2.2.1 (C.2.2.2.2.1 _ hw.1) (C.2.2.2.2.1 _ hw.2.1) (C.2.2.2.2.1 _ hw.2.2) rfl hdg hcells hslots hKn.2.1 hz fun H1 kC hkC e1 z1 o1 => ?_
  have hk : ∀ (k : Nat) (x : Nat × va_E), (woL G cs)[k]? = some x → H1[x.1]? = H[x.1]? := fun k x hx => o1 x.1 (by have := ((hP k x hx).lt); omega)
  have hP1 : va_P G.2.1 vwCl (woL G (cs ++ [.inr (ci, fs)])) H1 := by
    rw [← woL_push]
    refine (hP.kept hk).app (fun k x hx => ?_)
    have hz : k < 1 := (List.getElem?_eq_some_iff.mp hx).1
    rw [show k = 0 by omega] at hx
    cases hx
    exact ⟨_, hc, (u_born ty C.2.2.2.2.1 hin hKn hkC e1 hty).to hfs⟩
  exact kk H1 locs ls hl hP1 (by rw [z1, List.length_append]; simp; omega) ⟨Nat.le_trans hS.1 (by omega), fun x h1 h2 => (o1 x (Nat.lt_of_lt_of_le h1 (by have := hS.1; omega))).trans (hS.2.1 x h1 h2), hS.2.2⟩
theorem y_newa (C : Cx G p s m args meth c cc nL own ret) {atype : ArrayType} {ty : FieldType} {t0 : Nat} {cA : ClassId} {v : Int32} {N' n pc2 : Nat} {a0 : vp_A} {cs' : List va_E} (hw : Cond.arrayClass (newarray.typeOf atype) ∈ TT) (hty : newarray.typeOf atype = ty) (ht : (tysG G)[t0]? = some (cA, ty)) (hra : va_RA s cA ty → s.vm.findClass ("[" ++ ty.toString) = some cA) (ha : ∀ cB : ClassId, vp_cell cB a0 = arrV cB N' (fun _ => defaultValue ty)) (hneg : ¬ v < 0) (hN : v.toNatClampNeg = N') (hbytes : N' * componentBytes ty ≤ 536870912) (hcells : cells + 1 ≤ R.cells) (hslots : slots + N' ≤ R.slots) {cells' slots' : Nat} (hc' : cells + 1 = cells') (hs' : slots + N' = slots') (hcs : cs ++ [.inl (cA, a0)] = cs') (hn : cs.length = n) (hdg : decode cc pc = .ok (.newarray atype, 2)) (hp : pc + 2 = pc2) (kk : OY G p l e R s m args below meth c nL cells' slots' Q pc2 L (rv G n :: st) cs') : OY G p l e R s m args below meth c nL cells slots Q pc L (.int v :: st) cs := by
  subst hp hc' hs' hcs hn hty
  intro H locs ls hl hP hz hS
  refine va_newaK C.1 C.2.1 (C.2.2.2.2.1 _ hw) rfl hdg rfl hneg hN hbytes hcells hslots hz fun H1 cB e1 z1 o1 hAr hNm => ?_
  have hAB : cB = cA := by
    have h1 := hra (C.2.2.2.2.2.1.2 t0 _ ht).2
    rw [hNm] at h1
    exact Option.some.inj h1
  subst hAB
  have hk : ∀ (k : Nat) (x : Nat × va_E), (woL G cs)[k]? = some x → H1[x.1]? = H[x.1]? := fun k x hx => o1 x.1 (by have := ((hP k x hx).lt); omega)
  have hP1 : va_P G.2.1 vwCl (woL G (cs ++ [.inl (cB, a0)])) H1 := by
    rw [← woL_push]
    refine (hP.kept hk).app (fun k x hx => ?_)
    have hz : k < 1 := (List.getElem?_eq_some_iff.mp hx).1
    rw [show k = 0 by omega] at hx
    cases hx
    show H1[G.1 + cs.length]? = some (vp_cell _ _)
    rw [ha]
    exact e1
  exact kk H1 locs ls hl hP1 (by rw [z1, List.length_append]; simp; omega) ⟨Nat.le_trans hS.1 (by omega), fun x h1 h2 => (o1 x (Nat.lt_of_lt_of_le h1 (by have := hS.1; omega))).trans (hS.2.1 x h1 h2), hS.2.2⟩
theorem y_pre (C : Cx G p s m args meth c cc nL own ret) (hN : NW s) {H : Heap} {locs : List Loc} (hP : va_P G.2.1 vwCl (woL G cs) H) (hz : H.size = G.1 + cs.length) (hS : va_S (An G) s.heap H locs) {av : List Value} : ∀ U : State, U.heap = H → s.WarmedH U.vm → va_Pc av (WL G cs) av.toArray U := by
  intro U hU hW
  refine ⟨rfl, by rw [hU]; exact hP, by rw [hU]; exact hz, va_K.moved hW.alike C.2.2.2.2.2.1, ?_, ?_, hN.warm hW⟩
  · rw [hU]
    exact va_Z.moved hW.alike (C.2.2.2.2.2.2.1.kept (fun a h1 h2 => hS.2.1 a h1 h2))
  · rw [hU]
    exact va_T.moved hW.alike (C.2.2.2.2.2.2.2.1.kept (fun a h1 h2 => hS.2.1 a h1 h2))
/-- behind a call of a maker -/
theorem y_run {cs2 : List va_E} {mc ms pc2 cells' slots' : Nat} {rest : List Value} (hp : pc + 3 = pc2) (hc' : cells + mc = cells') (hs' : slots + ms = slots')
    (hrun : ∀ (H : Heap) (locs : List Loc) (ls : Array Slot), lh ls nL L → va_P G.2.1 vwCl (woL G cs) H → H.size = G.1 + cs.length → va_S (An G) s.heap H locs → va_Run p l e R s m args below meth c H locs cells slots mc ms (F0 m pc ls st) rest (fun st0 oc t => QL G cs2 #[] st0 oc t) (An G))
    (kk : OY G p l e R s m args below meth c nL cells' slots' Q pc2 L rest cs2) : OY G p l e R s m args below meth c nL cells slots Q pc L st cs := by
  subst hp hc' hs'
  intro H locs ls hl hP hz0 hS
  intro T hT X
  obtain ⟨v', st₀, t, T', Lc, h0, X', hL, e1, e2, ⟨hv, ⟨hP1, hz1⟩, hz, hq⟩, st⟩ := hrun H locs ls hl hP hz0 hS T hT X
  cases hv
  rw [h0] at hz hq
  obtain ⟨t2, a1, b1⟩ := kk T'.heap (locs ++ Lc) ls hl (by rw [e1]; exact hP1) (by rw [e1]; exact hz1)
    ⟨Nat.le_trans hS.1 (by rw [e1]; exact hz), fun q h1 h2 => by rw [e1, hq q (Nat.lt_of_lt_of_le h1 hS.1) h2]; exact hS.2.1 q h1 h2, fun q hq => by
      rcases List.mem_append.mp hq with h | h
      · exact hS.2.2 q h
      · exact hL q h⟩ T' rfl X'
  exact ⟨t2, st t2 a1, b1⟩
/-- a constructor that may be called by the tables -/
theorem y_callI (C : Cx G p s m args meth c cc nL own ret) (hN : NW s) {cs2 : List va_E} {ix n b maxL2 pc2 mc ms cells' slots' : Nat} {y : MethodName} {bytes : ByteArray} {rm : Room} (As rest : List Value) (F : Cond.methodLink own ix y ∈ TT ∧ Cond.instanceMethod y ∈ TT ∧ Cond.initialized y.cls ∈ TT ∧ Cond.code y bytes maxL2 none ∈ TT ∧ (y.cls ≠ "java/lang/invoke/MethodHandle" ∧ y.cls ≠ "java/lang/invoke/VarHandle" ∧ (parseMethodDescriptor y.desc).map (fun d => d.parameters.length) = some n)) (hy1 : y.name = "<init>") (hM : Met l y (Cond.code y bytes maxL2 none :: TT) rm (va_Pc (rv G b :: As) (WL G cs)) (QL G cs2) mc ms (An G)) (hst : st = As.reverse ++ rv G b :: rest) (hn : As.length = n) (hR : rm.cells = mc ∧ rm.slots = ms ∧ rm.frames + 1 ≤ R.frames ∧ 8 + (maxL2 + 11) + rm.locals ≤ R.locals) (hcat : (rest.map fun v => v.category).sum ≤ 8) (hcs : cells + mc ≤ R.cells ∧ slots + ms ≤ R.slots) (hc' : cells + mc = cells') (hs' : slots + ms = slots') (hdg : decode cc pc = .ok (.invokespecial ix, 3)) (hp : pc + 3 = pc2)
    (kk : OY G p l e R s m args below meth c nL cells' slots' Q pc2 L rest cs2) : OY G p l e R s m args below meth c nL cells slots Q pc L st cs := by
  refine y_run hp hc' hs' (fun H locs ls hl hP hz hS => ?_) kk
  exact va_runI (As := As) (rest := rest) (b := G.1 + b) ⟨C.1, C.2.1, C.2.2.1, C.2.2.2.1, C.2.2.2.2.1⟩ hM (cwI n C.2.2.2.2.1 (fun w hw => by
    rcases List.mem_cons.mp hw with rfl | h
    · exact TTg _ F.2.2.2.1
    · exact TTg _ h) rfl hR.1 hR.2.1 (C.2.2.2.2.1 _ F.2.2.1) (C.2.2.2.2.1 _ F.1) (C.2.2.2.2.1 _ F.2.1) hy1 F.2.2.2.2 hR.2.2) ⟨wl_blind G cs _, y_pre C hN hP hz hS⟩ rfl hn hl.1 hst (lv_room hcat) hdg hcs
/-- a private one, of a mate of the nest -/
theorem y_callN (C : Cx G p s m args meth c cc nL own ret) (hN : NW s) {cs2 : List va_E} {ix n b maxL2 pc2 mc ms cells' slots' : Nat} {y : MethodName} {bytes : ByteArray} {rm : Room} {host : String} (As rest : List Value) (hnw : va_Nw (.methodLinkNest own ix y host) s) (F : Cond.instanceMethod y ∈ TT ∧ Cond.initialized y.cls ∈ TT ∧ Cond.code y bytes maxL2 none ∈ TT ∧ (y.cls ≠ "java/lang/invoke/MethodHandle" ∧ y.cls ≠ "java/lang/invoke/VarHandle" ∧ (parseMethodDescriptor y.desc).map (fun d => d.parameters.length) = some n)) (hy1 : y.name = "<init>") (hM : Met l y (Cond.code y bytes maxL2 none :: TT) rm (va_Pc (rv G b :: As) (WL G cs)) (QL G cs2) mc ms (An G)) (hst : st = As.reverse ++ rv G b :: rest) (hn : As.length = n) (hR : rm.cells = mc ∧ rm.slots = ms ∧ rm.frames + 1 ≤ R.frames ∧ 8 + (maxL2 + 11) + rm.locals ≤ R.locals) (hcat : (rest.map fun v => v.category).sum ≤ 8) (hcs : cells + mc ≤ R.cells ∧ slots + ms ≤ R.slots) (hc' : cells + mc = cells') (hs' : slots + ms = slots') (hdg : decode cc pc = .ok (.invokespecial ix, 3)) (hp : pc + 3 = pc2)
    (kk : OY G p l e R s m args below meth c nL cells' slots' Q pc2 L rest cs2) : OY G p l e R s m args below meth c nL cells slots Q pc L st cs := by
  refine y_run hp hc' hs' (fun H locs ls hl hP hz hS => ?_) kk
  exact va_runIN (As := As) (rest := rest) (b := G.1 + b) ⟨C.1, C.2.1, C.2.2.1, C.2.2.2.1, C.2.2.2.2.1⟩ hM ⟨va_cnB n C.2.2.2.2.1 (fun w hw => by
    rcases List.mem_cons.mp hw with rfl | h
    · exact TTg _ F.2.2.1
    · exact TTg _ h) rfl hR.1 hR.2.1 hnw (C.2.2.2.2.1 _ F.2.1) F.2.2.2 hR.2.2, hy1, C.2.2.2.2.1 _ F.1⟩ ⟨wl_blind G cs _, y_pre C hN hP hz hS⟩ rfl hn hl.1 hst (lv_room hcat) hdg hcs
theorem y_callS (C : Cx G p s m args meth c cc nL own ret) (hN : NW s) {cs2 : List va_E} {ix n maxL2 pc2 : Nat} {y : MethodName} {bytes : ByteArray} {rm : Room} (As rest : List Value) (F : CLS own ix y bytes maxL2 none n) (hM : Met l y (Cond.code y bytes maxL2 none :: TT) rm (va_Pc As (WL G cs)) (QL G cs2) 0 0 (An G)) (hst : st = As.reverse ++ rest) (hn : As.length = n) (hR : rm.cells = 0 ∧ rm.slots = 0 ∧ rm.frames + 1 ≤ R.frames ∧ 8 + (maxL2 + 11) + rm.locals ≤ R.locals) (hcat : (rest.map fun v => v.category).sum ≤ 8) (hcs : cells ≤ R.cells ∧ slots ≤ R.slots) (hdg : decode cc pc = .ok (.invokestatic ix, 3)) (hp : pc + 3 = pc2)
    (kk : OY G p l e R s m args below meth c nL cells slots Q pc2 L rest cs2) : OY G p l e R s m args below meth c nL cells slots Q pc L st cs := by
  refine y_run (mc := 0) (ms := 0) hp rfl rfl (fun H locs ls hl hP hz hS => ?_) kk
  exact va_runS (As := As) (rest := rest) ⟨C.1, C.2.1, C.2.2.1, C.2.2.2.1, C.2.2.2.2.1⟩ hM (va_cwS n C.2.2.2.2.1 (gS F) rfl hR.1 hR.2.1 F.2.2.2.2 hR.2.2) ⟨wl_blind G cs _, y_pre C hN hP hz hS⟩ rfl hn hl.1 hst (lv_room hcat) hdg hcs
theorem y_vret {G : bkG} {p : Program} {l : Launch} {e : Env} {R : Room} {s : State} {m : MethodId} {args : Array Value} {below : List Frame} {meth : Method} {c : Code} {nL cells slots : Nat} {cc : ByteArray} {own : String} {pc : Nat} {L : List (Option Value)} {cs : List va_E} (C : Cx G p s m args meth c cc nL own none) (hdg : decode cc pc = .ok (.return_, 1)) : OY G p l e R s m args below meth c nL cells slots (MQ below (QL G cs) args s cells slots (An G)) pc L [] cs := by
  intro H locs ls hl hP hz hS
  exact W.vret C.1 C.2.1 C.2.2.2.2.2.2.2.2.1 (fun t ht hW => ⟨rfl, ⟨by rw [ht]; exact hP, by rw [ht]; exact hz⟩, hS.F ht⟩) hS.2.2 hdg C.2.2.2.2.2.2.2.2.2
/-! Arrays.fill over such a world -/
theorem y_alen (C : Cx G p s m args meth c cc nL own ret) {k n : Nat} {f : Nat → Int32} {pc2 : Nat} (hat : cs[k]? = some (.inl (G.2.2.1, n, .inl f))) (hdg : decode cc pc = .ok (.arraylength, 1)) (hp : pc + 1 = pc2) (kk : OY G p l e R s m args below meth c nL cells slots Q pc2 L (.int (nI n) :: st) cs) : OY G p l e R s m args below meth c nL cells slots Q pc L (rv G k :: st) cs := by
  subst hp
  exact fun H locs ls hl hP hz hS => va_alen C.1 C.2.1 C.2.2.2.2.2.1 hP k 0 (woL_at hat) (ty := .int) rfl rfl hdg (kk H locs ls hl hP hz hS)
end YROWS
