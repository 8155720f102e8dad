/-! THE LAW: what is owed of the functions, and its walk -/
def PSt (I : Nat → Mem → Prop) (n : Nat) {α : Type} (x y : Mem → Option (α × Mem)) (M : Mem) : Prop := ∃ r M1 M2, x M = some (r, M1) ∧ y M1 = some (r, M2) ∧ I (n + 1) M2
def LX (G : bkG) (p : Program) (l : Launch) (e : Env) (s : State) (m : MethodId) (below : List Frame) (meth : Method) (c : Code) (b : Nat) (d : Drawn) (pc : Nat) (L : List (Option Value)) (st : List Value) (M : Mem) : Prop :=
  OX (β := Unit) G p l e room_1 (s.setDrawn d) m #[Value.ref b] below meth c 8 245 8877 (fun _ => lw_Z below #[Value.ref b] s) (some ()) pc L st M
def LCx (G : bkG) (p : Program) (s : State) (m : MethodId) (meth : Method) (c : Code) (b Ln : Nat) (xs : Nat → Int32) : Prop :=
  (∀ d : Drawn, Cx G p (s.setDrawn d) m #[Value.ref b] meth c cL_law 8 RL law_ret) ∧ va_X b Ln xs s s.heap ∧ b < s.heap.size ∧ ¬ An G b ∧ Ln ≤ 2048
theorem kd0 : kd 0 = 7 := by decide +kernel
theorem kd235 : kd 235 = 8 := by decide +kernel
theorem li_0 (a : Nat) : nI a + 0 = nI (a + 0) := by rw [show (0 : Int32) = nI 0 from by decide, nI_add]
theorem li_1 (a : Nat) : nI a + 1 = nI (a + 1) := nI_1 a
theorem li_2 (a : Nat) : nI a + 2 = nI (a + 2) := by rw [show (2 : Int32) = nI 2 from by decide, nI_add]
theorem li_3 (a : Nat) : nI a + 3 = nI (a + 3) := by rw [show (3 : Int32) = nI 3 from by decide, nI_add]
section ZROWS
variable {β : Type} {G : bkG} {p : Program} {l : Launch} {e : Env} {R : Room} {s : State} {m : MethodId} {args : Array Value} {below : List Frame} {meth : Method} {c : Code} {nL cells slots : Nat} {Z : β → State → Prop}
variable {cc : ByteArray} {own : String} {ret : Option FieldType} {o : Option β} {pc : Nat} {L : List (Option Value)} {st : List Value} {M : Mem}
theorem x_scr (C : Cx G p s m args meth c cc nL own ret) {b Ln j pc2 : Nat} {xs : Nat → Int32} {i : Int32} (hX : va_X b Ln xs s s.heap) (hbl : b < s.heap.size) (hbA : ¬ An G b) (hi : i = nI j) (hj : j < Ln) (hj2 : j < 2 ^ 31) (hdg : decode cc pc = .ok (.iaload, 1)) (hp : pc + 1 = pc2) (kk : OX G p l e R s m args below meth c nL cells slots Z o pc2 L (.int (xs j) :: st) M) : OX G p l e R s m args below meth c nL cells slots Z o pc L (.int i :: .ref b :: st) M := by
  subst hp hi
  intro r hr H locs ls hl hP hS
  have hin : vp_in (nI j) Ln := by
    rw [vp_in_iff, nI_toInt hj2]
    omega
  refine va_sld C.1 C.2.1 hX hbl hbA hS hin hdg ?_
  rw [nI_clamp hj2]
  exact kk r hr H locs ls hl hP hS
theorem z_ifeqT (C : Cx G p s m args meth c cc nL own ret) {x : Int32} {off : Int} {tgt : Nat} (hdg : decode cc pc = .ok (.ifCond .eq off, 3)) (ht : (pc : Int) + off = (tgt : Int)) (h : x = 0) (kk : OX G p l e R s m args below meth c nL cells slots Z o tgt L st M) : OX G p l e R s m args below meth c nL cells slots Z o pc L (.int x :: st) M := fun r hr H locs ls hl hP hS => lv_if_eq C.1 C.2.1 hdg ht (fun _ => kk r hr H locs ls hl hP hS) (fun h2 => absurd h h2)
theorem z_ifeqF (C : Cx G p s m args meth c cc nL own ret) {x : Int32} {off : Int} {tgt pc2 : Nat} (hdg : decode cc pc = .ok (.ifCond .eq off, 3)) (ht : (pc : Int) + off = (tgt : Int)) (h : ¬ x = 0) (hp : pc + 3 = pc2) (kk : OX G p l e R s m args below meth c nL cells slots Z o pc2 L st M) : OX G p l e R s m args below meth c nL cells slots Z o pc L (.int x :: st) M := by
  subst hp
  exact fun r hr H locs ls hl hP hS => lv_if_eq C.1 C.2.1 hdg ht (fun h2 => absurd h2 h) (fun _ => kk r hr H locs ls hl hP hS)
theorem z_ifneT (C : Cx G p s m args meth c cc nL own ret) {x : Int32} {off : Int} {tgt : Nat} (hdg : decode cc pc = .ok (.ifCond .ne off, 3)) (ht : (pc : Int) + off = (tgt : Int)) (h : ¬ x = 0) (kk : OX G p l e R s m args below meth c nL cells slots Z o tgt L st M) : OX G p l e R s m args below meth c nL cells slots Z o pc L (.int x :: st) M := fun r hr H locs ls hl hP hS => lv_if_ne C.1 C.2.1 hdg ht (fun _ => kk r hr H locs ls hl hP hS) (fun h2 => absurd h2 h)
theorem z_icmpeqT (C : Cx G p s m args meth c cc nL own ret) {x y : Int32} {off : Int} {tgt : Nat} (hdg : decode cc pc = .ok (.if_icmp .eq off, 3)) (ht : (pc : Int) + off = (tgt : Int)) (h : x = y) (kk : OX G p l e R s m args below meth c nL cells slots Z o tgt L st M) : OX G p l e R s m args below meth c nL cells slots Z o pc L (.int y :: .int x :: st) M := fun r hr H locs ls hl hP hS => lv_icmp_eq C.1 C.2.1 hdg ht (fun _ => kk r hr H locs ls hl hP hS) (fun h2 => absurd h h2)
theorem z_icmpgtT (C : Cx G p s m args meth c cc nL own ret) {x y : Int32} {off : Int} {tgt : Nat} (hdg : decode cc pc = .ok (.if_icmp .gt off, 3)) (ht : (pc : Int) + off = (tgt : Int)) (h : y < x) (kk : OX G p l e R s m args below meth c nL cells slots Z o tgt L st M) : OX G p l e R s m args below meth c nL cells slots Z o pc L (.int y :: .int x :: st) M := fun r hr H locs ls hl hP hS => lv_icmp_gt C.1 C.2.1 hdg ht (fun _ => kk r hr H locs ls hl hP hS) (fun h2 => absurd h h2)
theorem z_icmpgtF (C : Cx G p s m args meth c cc nL own ret) {x y : Int32} {off : Int} {tgt pc2 : Nat} (hdg : decode cc pc = .ok (.if_icmp .gt off, 3)) (ht : (pc : Int) + off = (tgt : Int)) (h : ¬ y < x) (hp : pc + 3 = pc2) (kk : OX G p l e R s m args below meth c nL cells slots Z o pc2 L st M) : OX G p l e R s m args below meth c nL cells slots Z o pc L (.int y :: .int x :: st) M := by
  subst hp
  exact fun r hr H locs ls hl hP hS => lv_icmp_gt C.1 C.2.1 hdg ht (fun h2 => absurd h2 h) (fun _ => kk r hr H locs ls hl hP hS)
theorem x_dload (C : Cx G p s m args meth c cc nL own ret) {i : Nat} {x : UInt64} {pc2 : Nat} (hdg : decode cc pc = .ok (.dload i, 2)) (hp : pc + 2 = pc2) (hi : L[i]? = some (some (.double x))) (kk : OX G p l e R s m args below meth c nL cells slots Z o pc2 L (.double x :: st) M) : OX G p l e R s m args below meth c nL cells slots Z o pc L st M := by
  subst hp
  exact fun r hr H locs ls hl hP hS => lv_dload C.1 C.2.1 hdg (hl.2.2 i _ hi) (kk r hr H locs ls hl hP hS)
theorem x_dcmpl (C : Cx G p s m args meth c cc nL own ret) {x y : UInt64} {pc2 : Nat} (hdg : decode cc pc = .ok (.dcmp .l, 1)) (hp : pc + 1 = pc2) (kk : OX G p l e R s m args below meth c nL cells slots Z o pc2 L (.int (Op.cmpValue (FP.dcmp x y) CmpOp.l) :: st) M) : OX G p l e R s m args below meth c nL cells slots Z o pc L (.double y :: .double x :: st) M := by
  subst hp
  exact fun r hr H locs ls hl hP hS => lv_dcmp C.1 C.2.1 hdg (kk r hr H locs ls hl hP hS)
theorem z_callVi (C : Cx G p s m args meth c cc nL own ret) {x : Option (Int32 × Mem)} {v : Int32} {M1 : Mem} {ix n b ci maxL2 pc2 N : Nat} {y : MethodName} {bytes : ByteArray} {ret2 : Option FieldType} {rm : Room} {T : u_T} (As rest : List Value) (F : CLV own ix y bytes maxL2 ret2 n) (hM : ∀ q, x = some q → Met l y (Cond.code y bytes maxL2 ret2 :: TT) rm (va_Pc (rv G b :: As) (Wd G M)) (QQ G (some (.int q.1)) q.2) 0 0 (An G)) (hk : kd b = ci) (hcl : vwCl[ci]? = some (y.cls, T, N)) (hst : st = As.reverse ++ rv G b :: rest) (hn : As.length = n) (hR : rm.cells = 0 ∧ rm.slots = 0 ∧ rm.frames + 1 ≤ R.frames ∧ 8 + (maxL2 + 11) + rm.locals ≤ R.locals) (hcat : (rest.map fun v => v.category).sum ≤ 8) (hcs : cells ≤ R.cells ∧ slots ≤ R.slots) (hdg : decode cc pc = .ok (.invokevirtual ix, 3)) (hp : pc + 3 = pc2) (hx : x = some (v, M1))
    (kk : OX G p l e R s m args below meth c nL cells slots Z o pc2 L (.int v :: rest) M1) : OX G p l e R s m args below meth c nL cells slots Z o pc L st M := by
  have h := x_callV C (k := fun _ _ => o) (vl := fun v => some (.int v)) As rest F hM hk hcl hst hn hR hcat hcs hdg hp (fun v' M' e => by rw [hx] at e; cases e; exact kk)
  have e : cal x (fun _ _ => o) = o := by rw [hx]; rfl
  rw [e] at h
  exact h
theorem z_callVf (C : Cx G p s m args meth c cc nL own ret) {x : Option (UInt32 × Mem)} {v : UInt32} {M1 : Mem} {ix n b ci maxL2 pc2 N : Nat} {y : MethodName} {bytes : ByteArray} {ret2 : Option FieldType} {rm : Room} {T : u_T} (As rest : List Value) (F : CLV own ix y bytes maxL2 ret2 n) (hM : ∀ q, x = some q → Met l y (Cond.code y bytes maxL2 ret2 :: TT) rm (va_Pc (rv G b :: As) (Wd G M)) (QQ G (some (.float q.1)) q.2) 0 0 (An G)) (hk : kd b = ci) (hcl : vwCl[ci]? = some (y.cls, T, N)) (hst : st = As.reverse ++ rv G b :: rest) (hn : As.length = n) (hR : rm.cells = 0 ∧ rm.slots = 0 ∧ rm.frames + 1 ≤ R.frames ∧ 8 + (maxL2 + 11) + rm.locals ≤ R.locals) (hcat : (rest.map fun v => v.category).sum ≤ 8) (hcs : cells ≤ R.cells ∧ slots ≤ R.slots) (hdg : decode cc pc = .ok (.invokevirtual ix, 3)) (hp : pc + 3 = pc2) (hx : x = some (v, M1))
    (kk : OX G p l e R s m args below meth c nL cells slots Z o pc2 L (.float v :: rest) M1) : OX G p l e R s m args below meth c nL cells slots Z o pc L st M := by
  have h := x_callV C (k := fun _ _ => o) (vl := fun v => some (.float v)) As rest F hM hk hcl hst hn hR hcat hcs hdg hp (fun v' M' e => by rw [hx] at e; cases e; exact kk)
  have e : cal x (fun _ _ => o) = o := by rw [hx]; rfl
  rw [e] at h
  exact h
/-- other names for what the locals hold -/
def LL (nL : Nat) (L : List (Nat × Value)) (G : bkG) (p : Program) (l : Launch) (e : Env) (R : Room) (s : State) (m : MethodId) (args : Array Value) (below : List Frame) (meth : Method) (c : Code) (cells slots : Nat) (Q : State → Prop) (pc : Nat) (st : List Value) (M : Mem) : Prop :=
  ∀ (H : Heap) (locs : List Loc) (ls : Array Slot), lv_has ls nL L → va_P G.2.1 vwCl (wo G M) H → va_S (An G) s.heap H locs → W p l e R s m args below meth c H locs cells slots Q (F0 m pc ls st)
end ZROWS
theorem x_lhL {G : bkG} {p : Program} {l : Launch} {e : Env} {R : Room} {s : State} {m : MethodId} {args : Array Value} {below : List Frame} {meth : Method} {c : Code} {nL cells slots pc : Nat} {Q : State → Prop} {L : List (Nat × Value)} {st : List Value} {M : Mem} (L2 : List (Option Value)) (hm : ∀ (j : Nat) (w : Value), L2[j]? = some (some w) → (j, w) ∈ L) (kk : OX (β := Unit) G p l e R s m args below meth c nL cells slots (fun _ => Q) (some ()) pc L2 st M) : LL nL L G p l e R s m args below meth c cells slots Q pc st M :=
  fun H locs ls hl hP hS => kk () rfl H locs ls ⟨hl.1, hl.2.1, fun i v hv => hl.2.2 (i, v) (hm i v hv)⟩ hP hS
/-- f2d draws; the double goes into the locals -/
theorem z_f2dst {G : bkG} {p : Program} {l : Launch} {e : Env} {R : Room} {s : State} {d : Drawn} {m : MethodId} {args : Array Value} {below : List Frame} {meth : Method} {c : Code} {nL cells slots : Nat} {Q : State → Prop} {cc : ByteArray} {own : String} {ret : Option FieldType} {pc i pc2 pc3 : Nat} {L : List (Option Value)} {M : Mem} {x : UInt32} (C : Cx G p (s.setDrawn d) m args meth c cc nL own ret) (hd : s.drawn.sameBut d lw_cs) (hdg : decode cc pc = .ok (.f2d, 1)) (hp : pc + 1 = pc2) (hdg2 : decode cc pc2 = .ok (.dstore i, 2)) (hp2 : pc2 + 2 = pc3) (hi : i + 1 < nL)
    (kk : ∀ (r : UInt64) (d' : Drawn), alike64 r (FP.f2d x) = true → s.drawn.sameBut d' lw_cs → LL nL ((i, Value.double r) :: (lh_l L).filter (fun q => !(q.1 == i) && (!(q.1 == i + 1) && !(q.1 + 1 == i && q.2.category == 2)))) G p l e R (s.setDrawn d') m args below meth c cells slots Q pc3 [] M) : OX (β := Unit) G p l e R (s.setDrawn d) m args below meth c nL cells slots (fun _ => Q) (some ()) pc L [.float x] M := by
  subst hp hp2
  intro r hr H locs ls hl hP hS
  refine lv_f2d_any hd lw_bits C.1 C.2.1 hdg (fun q d' hal hd' => ?_)
  refine lv_dstore C.1 C.2.1 hdg2 (lh_lv hl) hi rfl (fun ls2 hl2 => ?_)
  exact kk q d' hal hd' H locs ls2 hl2 hP hS
theorem z_nan {x : UInt64} (h : isNaN64 x = true) : ¬ Op.cmpValue (FP.dcmp x x) CmpOp.l = 0 := by
  have h1 : FP.dcmp x x = none := by
    refine (FP.Core.dcmp_none x x).mpr (Or.inl ?_)
    by_cases hq : FP.Core.val64 x = .nan
    · exact hq
    · exfalso
      have hq2 := (FP.Core.ne_nan x).mp hq
      rw [isNaN64_iff] at h
      rw [show (0x7fffffffffffffff : Nat) = 2 ^ 63 - 1 from rfl, Nat.and_two_pow_sub_one_eq_mod] at h
      omega
  rw [h1]
  decide
theorem z_alike {x : UInt64} {p1 p2 : UInt64} (h1 : alike64 p1 x = true) (h2 : alike64 p2 x = true) : (Op.cmpValue (FP.dcmp p1 p2) CmpOp.l = 0 ∧ True) ∨ (¬ Op.cmpValue (FP.dcmp p1 p2) CmpOp.l = 0 ∧ ¬ Op.cmpValue (FP.dcmp p1 p1) CmpOp.l = 0 ∧ ¬ Op.cmpValue (FP.dcmp p2 p2) CmpOp.l = 0) := by
  simp only [alike64, Bool.or_eq_true, decide_eq_true_eq, Bool.and_eq_true] at h1 h2
  by_cases hv : Op.cmpValue (FP.dcmp p1 p2) CmpOp.l = 0
  · exact Or.inl ⟨hv, trivial⟩
  · refine Or.inr ⟨hv, ?_⟩
    rcases h1 with rfl | ⟨n1, n2⟩
    · rcases h2 with rfl | ⟨n3, n4⟩
      · exact ⟨hv, hv⟩
      · exact ⟨z_nan n4, z_nan n3⟩
    · rcases h2 with rfl | ⟨n3, n4⟩
      · exact ⟨z_nan n1, z_nan n2⟩
      · exact ⟨z_nan n1, z_nan n3⟩

theorem bc_31 : (Int8.ofInt 31).toInt32 = (31 : Int32) := by decide
theorem cl_L_13 : CLV RL 13 yX8_build cX8_build 4 (some .int) 2 := ⟨wt2_46, wt2_47, wt2_48, wt1_1, wt2_49, ⟨by decide +kernel, by decide +kernel, by decide +kernel⟩⟩
theorem cl_L_17 : CLV RL 17 yX9_build cX9_build 5 (some .int) 2 := ⟨wt4_157, wt4_158, wt4_159, wt1_10, wt4_160, ⟨by decide +kernel, by decide +kernel, by decide +kernel⟩⟩
theorem cl_L_18 : CLV RL 18 yX8_setSign cX8_setSign 5 (some .int) 2 := ⟨wt2_112, wt2_113, wt2_114, wt1_1, wt2_115, ⟨by decide +kernel, by decide +kernel, by decide +kernel⟩⟩
theorem cl_L_22 : CLV RL 22 yX9_setSign cX9_setSign 5 (some .int) 2 := ⟨wt4_176, wt4_177, wt4_178, wt1_10, wt4_179, ⟨by decide +kernel, by decide +kernel, by decide +kernel⟩⟩
theorem cl_L_23 : CLV RL 23 yX8_setShift cX8_setShift 6 (some .int) 2 := ⟨wt2_140, wt2_141, wt2_142, wt1_1, wt2_143, ⟨by decide +kernel, by decide +kernel, by decide +kernel⟩⟩
theorem cl_L_26 : CLV RL 26 yX9_setShift cX9_setShift 5 (some .int) 2 := ⟨wt4_188, wt4_189, wt4_190, wt1_10, wt4_191, ⟨by decide +kernel, by decide +kernel, by decide +kernel⟩⟩
theorem cl_L_27 : CLV RL 27 yX8_borrow cX8_borrow 3 (some .int) 2 := ⟨wt2_155, wt2_156, wt2_157, wt1_1, wt2_158, ⟨by decide +kernel, by decide +kernel, by decide +kernel⟩⟩
theorem cl_L_31 : CLV RL 31 yX9_borrow cX9_borrow 3 (some .int) 2 := ⟨wt4_196, wt4_197, wt4_198, wt1_10, wt4_199, ⟨by decide +kernel, by decide +kernel, by decide +kernel⟩⟩
theorem cl_L_32 : CLV RL 32 yX8_set cX8_set 4 (some .int) 2 := ⟨wt2_163, wt2_164, wt2_165, wt1_1, wt2_166, ⟨by decide +kernel, by decide +kernel, by decide +kernel⟩⟩
theorem cl_L_35 : CLV RL 35 yX9_set cX9_set 6 (some .int) 2 := ⟨wt4_200, wt4_201, wt4_202, wt1_10, wt4_203, ⟨by decide +kernel, by decide +kernel, by decide +kernel⟩⟩
theorem cl_L_36 : CLV RL 36 yX8_press cX8_press 4 (some .int) 2 := ⟨wt2_187, wt2_188, wt2_189, wt1_1, wt2_190, ⟨by decide +kernel, by decide +kernel, by decide +kernel⟩⟩
theorem cl_L_39 : CLV RL 39 yX9_press cX9_press 4 (some .int) 2 := ⟨wt4_219, wt4_220, wt4_221, wt1_10, wt4_222, ⟨by decide +kernel, by decide +kernel, by decide +kernel⟩⟩
theorem cl_L_40 : CLV RL 40 yX8_release cX8_release 4 (some .int) 2 := ⟨wt2_218, wt2_219, wt2_220, wt1_1, wt2_221, ⟨by decide +kernel, by decide +kernel, by decide +kernel⟩⟩
theorem cl_L_43 : CLV RL 43 yX9_release cX9_release 4 (some .int) 2 := ⟨wt4_231, wt4_232, wt4_233, wt1_10, wt4_234, ⟨by decide +kernel, by decide +kernel, by decide +kernel⟩⟩
theorem cl_L_44 : CLV RL 44 yX8_tick cX8_tick 2 (some .int) 1 := ⟨wt2_234, wt2_235, wt2_236, wt1_1, wt2_237, ⟨by decide +kernel, by decide +kernel, by decide +kernel⟩⟩
theorem cl_L_48 : CLV RL 48 yX9_tick cX9_tick 2 (some .int) 1 := ⟨wt4_239, wt5_0, wt5_1, wt1_10, wt5_2, ⟨by decide +kernel, by decide +kernel, by decide +kernel⟩⟩
theorem cl_L_49 : CLV RL 49 yX8_settle cX8_settle 3 (some .int) 2 := ⟨wt3_139, wt3_140, wt3_141, wt1_1, wt3_142, ⟨by decide +kernel, by decide +kernel, by decide +kernel⟩⟩
theorem cl_L_52 : CLV RL 52 yX9_settle cX9_settle 4 (some .int) 2 := ⟨wt5_58, wt5_59, wt5_60, wt1_10, wt5_61, ⟨by decide +kernel, by decide +kernel, by decide +kernel⟩⟩
theorem cl_L_53 : CLV RL 53 yX8_type cX8_type 2 (some .int) 1 := ⟨wt3_165, wt3_166, wt3_167, wt1_1, wt3_168, ⟨by decide +kernel, by decide +kernel, by decide +kernel⟩⟩
theorem cl_L_57 : CLV RL 57 yX9_type cX9_type 2 (some .int) 1 := ⟨wt5_66, wt5_67, wt5_68, wt1_10, wt5_69, ⟨by decide +kernel, by decide +kernel, by decide +kernel⟩⟩
theorem cl_L_58 : CLV RL 58 yX8_clearText cX8_clearText 2 (some .int) 0 := ⟨wt3_173, wt3_174, wt3_175, wt1_1, wt3_176, ⟨by decide +kernel, by decide +kernel, by decide +kernel⟩⟩
theorem cl_L_62 : CLV RL 62 yX9_clearText cX9_clearText 2 (some .int) 0 := ⟨wt5_70, wt5_71, wt5_72, wt1_10, wt5_73, ⟨by decide +kernel, by decide +kernel, by decide +kernel⟩⟩
theorem cl_L_63 : CLV RL 63 yX8_perform cX8_perform 6 (some .int) 0 := ⟨wt3_177, wt3_178, wt3_179, wt1_1, wt3_180, ⟨by decide +kernel, by decide +kernel, by decide +kernel⟩⟩
theorem cl_L_66 : CLV RL 66 yX9_perform cX9_perform 2 (some .int) 0 := ⟨wt5_74, wt5_75, wt5_76, wt1_10, wt5_77, ⟨by decide +kernel, by decide +kernel, by decide +kernel⟩⟩
theorem cl_L_67 : CLV RL 67 yX8_undo cX8_undo 1 (some .int) 0 := ⟨wt3_209, wt3_210, wt3_211, wt1_1, wt3_212, ⟨by decide +kernel, by decide +kernel, by decide +kernel⟩⟩
theorem cl_L_70 : CLV RL 70 yX9_undo cX9_undo 2 (some .int) 0 := ⟨wt4_133, wt4_134, wt4_135, wt1_10, wt4_136, ⟨by decide +kernel, by decide +kernel, by decide +kernel⟩⟩
theorem cl_L_71 : CLV RL 71 yX8_keep cX8_keep 1 (some .int) 0 := ⟨wt3_217, wt3_218, wt3_219, wt1_1, wt3_220, ⟨by decide +kernel, by decide +kernel, by decide +kernel⟩⟩
theorem cl_L_74 : CLV RL 74 yX9_keep cX9_keep 2 (some .int) 0 := ⟨wt4_137, wt4_138, wt4_139, wt1_10, wt4_140, ⟨by decide +kernel, by decide +kernel, by decide +kernel⟩⟩
theorem cl_L_75 : CLV RL 75 yX8_restore cX8_restore 1 (some .int) 0 := ⟨wt3_221, wt3_222, wt3_223, wt1_1, wt3_224, ⟨by decide +kernel, by decide +kernel, by decide +kernel⟩⟩
theorem cl_L_78 : CLV RL 78 yX9_restore cX9_restore 2 (some .int) 0 := ⟨wt4_141, wt4_142, wt4_143, wt1_10, wt4_144, ⟨by decide +kernel, by decide +kernel, by decide +kernel⟩⟩
theorem cl_L_79 : CLV RL 79 yX8_key cX8_key 4 (some .int) 2 := ⟨wt3_225, wt3_226, wt3_227, wt1_1, wt3_228, ⟨by decide +kernel, by decide +kernel, by decide +kernel⟩⟩
theorem cl_L_82 : CLV RL 82 yX9_key cX9_key 3 (some .int) 2 := ⟨wt5_98, wt5_99, wt5_100, wt1_10, wt5_101, ⟨by decide +kernel, by decide +kernel, by decide +kernel⟩⟩
theorem cl_L_83 : CLV RL 83 yX8_typist cX8_typist 4 (some .int) 2 := ⟨wt3_239, wt4_0, wt4_1, wt1_1, wt4_2, ⟨by decide +kernel, by decide +kernel, by decide +kernel⟩⟩
theorem cl_L_86 : CLV RL 86 yX9_typist cX9_typist 3 (some .int) 2 := ⟨wt5_106, wt5_107, wt5_108, wt1_10, wt5_109, ⟨by decide +kernel, by decide +kernel, by decide +kernel⟩⟩
theorem cl_L_87 : CLV RL 87 yX8_style cX8_style 3 (some .float) 2 := ⟨wt4_4, wt4_5, wt4_6, wt1_1, wt4_7, ⟨by decide +kernel, by decide +kernel, by decide +kernel⟩⟩
theorem cl_L_91 : CLV RL 91 yX9_style cX9_style 3 (some .float) 2 := ⟨wt5_110, wt5_111, wt5_112, wt1_10, wt5_113, ⟨by decide +kernel, by decide +kernel, by decide +kernel⟩⟩
theorem cl_L_92 : CLV RL 92 yX8_hundredths cX8_hundredths 3 (some .int) 2 := ⟨wt4_16, wt4_17, wt4_18, wt1_1, wt4_19, ⟨by decide +kernel, by decide +kernel, by decide +kernel⟩⟩
theorem cl_L_95 : CLV RL 95 yX9_hundredths cX9_hundredths 3 (some .int) 2 := ⟨wt5_115, wt5_116, wt5_117, wt1_10, wt5_118, ⟨by decide +kernel, by decide +kernel, by decide +kernel⟩⟩
theorem cl_L_96 : CLV RL 96 yX8_typed cX8_typed 4 (some .int) 2 := ⟨wt4_21, wt4_22, wt4_23, wt1_1, wt4_24, ⟨by decide +kernel, by decide +kernel, by decide +kernel⟩⟩
theorem cl_L_99 : CLV RL 99 yX9_typed cX9_typed 4 (some .int) 2 := ⟨wt5_120, wt5_121, wt5_122, wt1_10, wt5_123, ⟨by decide +kernel, by decide +kernel, by decide +kernel⟩⟩
theorem cl_L_100 : CLV RL 100 yX8_stroke cX8_stroke 5 (some .int) 2 := ⟨wt4_30, wt4_31, wt4_32, wt1_1, wt4_33, ⟨by decide +kernel, by decide +kernel, by decide +kernel⟩⟩
theorem cl_L_103 : CLV RL 103 yX9_stroke cX9_stroke 4 (some .int) 2 := ⟨wt5_124, wt5_125, wt5_126, wt1_10, wt5_127, ⟨by decide +kernel, by decide +kernel, by decide +kernel⟩⟩
theorem cl_L_104 : CLV RL 104 yX8_dispute cX8_dispute 4 (some .int) 2 := ⟨wt4_38, wt4_39, wt4_40, wt1_1, wt4_41, ⟨by decide +kernel, by decide +kernel, by decide +kernel⟩⟩
theorem cl_L_107 : CLV RL 107 yX9_dispute cX9_dispute 3 (some .int) 2 := ⟨wt5_128, wt5_129, wt5_130, wt1_10, wt5_131, ⟨by decide +kernel, by decide +kernel, by decide +kernel⟩⟩
theorem cl_L_108 : CLV RL 108 yX8_distance cX8_distance 4 (some .float) 3 := ⟨wt4_42, wt4_43, wt4_44, wt1_1, wt4_45, ⟨by decide +kernel, by decide +kernel, by decide +kernel⟩⟩
theorem cl_L_112 : CLV RL 112 yX9_distance cX9_distance 4 (some .float) 3 := ⟨wt5_132, wt5_133, wt5_134, wt1_10, wt5_135, ⟨by decide +kernel, by decide +kernel, by decide +kernel⟩⟩
theorem cl_L_113 : CLV RL 113 yX8_verdict cX8_verdict 2 (some .int) 1 := ⟨wt4_47, wt4_48, wt4_49, wt1_1, wt4_50, ⟨by decide +kernel, by decide +kernel, by decide +kernel⟩⟩
theorem cl_L_116 : CLV RL 116 yX9_verdict cX9_verdict 2 (some .int) 1 := ⟨wt5_136, wt5_137, wt5_138, wt1_10, wt5_139, ⟨by decide +kernel, by decide +kernel, by decide +kernel⟩⟩
theorem cl_L_117 : CLV RL 117 yX8_ghostsBy cX8_ghostsBy 3 (some .int) 1 := ⟨wt4_52, wt4_53, wt4_54, wt1_1, wt4_55, ⟨by decide +kernel, by decide +kernel, by decide +kernel⟩⟩
theorem cl_L_120 : CLV RL 120 yX9_ghostsBy cX9_ghostsBy 8 (some .int) 1 := ⟨wt5_140, wt5_141, wt5_142, wt1_10, wt5_143, ⟨by decide +kernel, by decide +kernel, by decide +kernel⟩⟩
theorem cl_L_121 : CLV RL 121 yX8_count cX8_count 3 (some .int) 1 := ⟨wt4_62, wt4_63, wt4_64, wt1_1, wt4_65, ⟨by decide +kernel, by decide +kernel, by decide +kernel⟩⟩
theorem cl_L_124 : CLV RL 124 yX9_count cX9_count 2 (some .int) 1 := ⟨wt5_144, wt5_145, wt5_146, wt1_10, wt5_147, ⟨by decide +kernel, by decide +kernel, by decide +kernel⟩⟩
set_option maxRecDepth 100000 in
set_option maxHeartbeats 4000000 in
theorem law_c0 {G : bkG} {p : Program} {l : Launch} {e : Env} {s : State} {m : MethodId} {below : List Frame} {meth : Method} {c : Code} {b Ln : Nat} {xs : Nat → Int32} {d : Drawn} {I : Nat → Mem → Prop} {M : Mem} {n : Nat} (hC : LCx G p s m meth c b Ln xs) (hn : 4 * n + 4 ≤ Ln) (hd : s.drawn.sameBut d lw_cs) (hp : PSt I n (fX8_build 0 (xs (4 * n + 1)) (xs (4 * n + 2))) (fX9_build 235 (xs (4 * n + 1)) (xs (4 * n + 2))) M) (kk : ∀ (d2 : Drawn) (M2 : Mem), s.drawn.sameBut d2 lw_cs → I (n + 1) M2 → LX G p l e s m below meth c b d2 950 [some (.ref b), some (rv G 0), some (rv G 235), some (.int (nI (4 * n))), none, none, none, none] [] M2) : LX G p l e s m below meth c b d 152 [some (.ref b), some (rv G 0), some (rv G 235), some (.int (nI (4 * n))), none, none, none, none] [] M := by
  unfold LX at *
  obtain ⟨r, M1, M2, e1, e2, hI⟩ := hp
  refine x_aload_n (pc2 := 153) (hC.1 d) dL_law_152 rfl rfl ?_
  refine x_aload_n (pc2 := 154) (hC.1 d) dL_law_153 rfl rfl ?_
  refine x_iload_n (pc2 := 155) (hC.1 d) dL_law_154 rfl rfl ?_
  refine x_iconst (pc2 := 156) (hC.1 d) dL_law_155 rfl ic_1 ?_
  refine x_iadd (pc2 := 157) (hC.1 d) dL_law_156 rfl ?_
  refine x_scr (j := 4 * n + 1) (pc2 := 158) (hC.1 d) hC.2.1 hC.2.2.1 hC.2.2.2.1 (li_1 _) (by omega) (by have := hC.2.2.2.2; omega) dL_law_157 rfl ?_
  refine x_aload_n (pc2 := 159) (hC.1 d) dL_law_158 rfl rfl ?_
  refine x_iload_n (pc2 := 160) (hC.1 d) dL_law_159 rfl rfl ?_
  refine x_iconst (pc2 := 161) (hC.1 d) dL_law_160 rfl ic_2 ?_
  refine x_iadd (pc2 := 162) (hC.1 d) dL_law_161 rfl ?_
  refine x_scr (j := 4 * n + 2) (pc2 := 163) (hC.1 d) hC.2.1 hC.2.2.1 hC.2.2.2.1 (li_2 _) (by omega) (by have := hC.2.2.2.2; omega) dL_law_162 rfl ?_
  refine z_callVi (pc2 := 166) (hC.1 d) [.int (xs (4 * n + 1)), .int (xs (4 * n + 2))] [] cl_L_13 (fun q hq => ctX8_build kd0 q hq) kd0 rfl rfl rfl ⟨rfl, rfl, Nat.le_of_ble_eq_true rfl, Nat.le_of_ble_eq_true rfl⟩ (Nat.le_of_ble_eq_true rfl) ⟨Nat.le_refl _, Nat.le_refl _⟩ dL_law_163 rfl e1 ?_
  refine x_aload_n (pc2 := 167) (hC.1 d) dL_law_166 rfl rfl ?_
  refine x_aload_n (pc2 := 168) (hC.1 d) dL_law_167 rfl rfl ?_
  refine x_iload_n (pc2 := 169) (hC.1 d) dL_law_168 rfl rfl ?_
  refine x_iconst (pc2 := 170) (hC.1 d) dL_law_169 rfl ic_1 ?_
  refine x_iadd (pc2 := 171) (hC.1 d) dL_law_170 rfl ?_
  refine x_scr (j := 4 * n + 1) (pc2 := 172) (hC.1 d) hC.2.1 hC.2.2.1 hC.2.2.2.1 (li_1 _) (by omega) (by have := hC.2.2.2.2; omega) dL_law_171 rfl ?_
  refine x_aload_n (pc2 := 173) (hC.1 d) dL_law_172 rfl rfl ?_
  refine x_iload_n (pc2 := 174) (hC.1 d) dL_law_173 rfl rfl ?_
  refine x_iconst (pc2 := 175) (hC.1 d) dL_law_174 rfl ic_2 ?_
  refine x_iadd (pc2 := 176) (hC.1 d) dL_law_175 rfl ?_
  refine x_scr (j := 4 * n + 2) (pc2 := 177) (hC.1 d) hC.2.1 hC.2.2.1 hC.2.2.2.1 (li_2 _) (by omega) (by have := hC.2.2.2.2; omega) dL_law_176 rfl ?_
  refine z_callVi (pc2 := 180) (hC.1 d) [.int (xs (4 * n + 1)), .int (xs (4 * n + 2))] [.int r] cl_L_17 (fun q hq => ctX9_build kd235 q hq) kd235 rfl rfl rfl ⟨rfl, rfl, Nat.le_of_ble_eq_true rfl, Nat.le_of_ble_eq_true rfl⟩ (Nat.le_of_ble_eq_true rfl) ⟨Nat.le_refl _, Nat.le_refl _⟩ dL_law_177 rfl e2 ?_
  refine z_icmpeqT (tgt := 950) (hC.1 d) dL_law_180 (by decide) rfl ?_
  exact kk d M2 hd hI
set_option maxRecDepth 100000 in
set_option maxHeartbeats 4000000 in
theorem law_c1 {G : bkG} {p : Program} {l : Launch} {e : Env} {s : State} {m : MethodId} {below : List Frame} {meth : Method} {c : Code} {b Ln : Nat} {xs : Nat → Int32} {d : Drawn} {I : Nat → Mem → Prop} {M : Mem} {n : Nat} (hC : LCx G p s m meth c b Ln xs) (hn : 4 * n + 4 ≤ Ln) (hd : s.drawn.sameBut d lw_cs) (hp : PSt I n (fX8_setSign 0 (xs (4 * n + 1)) (i2cv (xs (4 * n + 2)))) (fX9_setSign 235 (xs (4 * n + 1)) (i2cv (xs (4 * n + 2)))) M) (kk : ∀ (d2 : Drawn) (M2 : Mem), s.drawn.sameBut d2 lw_cs → I (n + 1) M2 → LX G p l e s m below meth c b d2 950 [some (.ref b), some (rv G 0), some (rv G 235), some (.int (nI (4 * n))), none, none, none, none] [] M2) : LX G p l e s m below meth c b d 185 [some (.ref b), some (rv G 0), some (rv G 235), some (.int (nI (4 * n))), none, none, none, none] [] M := by
  unfold LX at *
  obtain ⟨r, M1, M2, e1, e2, hI⟩ := hp
  refine x_aload_n (pc2 := 186) (hC.1 d) dL_law_185 rfl rfl ?_
  refine x_aload_n (pc2 := 187) (hC.1 d) dL_law_186 rfl rfl ?_
  refine x_iload_n (pc2 := 188) (hC.1 d) dL_law_187 rfl rfl ?_
  refine x_iconst (pc2 := 189) (hC.1 d) dL_law_188 rfl ic_1 ?_
  refine x_iadd (pc2 := 190) (hC.1 d) dL_law_189 rfl ?_
  refine x_scr (j := 4 * n + 1) (pc2 := 191) (hC.1 d) hC.2.1 hC.2.2.1 hC.2.2.2.1 (li_1 _) (by omega) (by have := hC.2.2.2.2; omega) dL_law_190 rfl ?_
  refine x_aload_n (pc2 := 192) (hC.1 d) dL_law_191 rfl rfl ?_
  refine x_iload_n (pc2 := 193) (hC.1 d) dL_law_192 rfl rfl ?_
  refine x_iconst (pc2 := 194) (hC.1 d) dL_law_193 rfl ic_2 ?_
  refine x_iadd (pc2 := 195) (hC.1 d) dL_law_194 rfl ?_
  refine x_scr (j := 4 * n + 2) (pc2 := 196) (hC.1 d) hC.2.1 hC.2.2.1 hC.2.2.2.1 (li_2 _) (by omega) (by have := hC.2.2.2.2; omega) dL_law_195 rfl ?_
  refine x_i2c (pc2 := 197) (hC.1 d) dL_law_196 rfl ?_
  refine z_callVi (pc2 := 200) (hC.1 d) [.int (xs (4 * n + 1)), .int (i2cv (xs (4 * n + 2)))] [] cl_L_18 (fun q hq => ctX8_setSign kd0 q hq) kd0 rfl rfl rfl ⟨rfl, rfl, Nat.le_of_ble_eq_true rfl, Nat.le_of_ble_eq_true rfl⟩ (Nat.le_of_ble_eq_true rfl) ⟨Nat.le_refl _, Nat.le_refl _⟩ dL_law_197 rfl e1 ?_
  refine x_aload_n (pc2 := 201) (hC.1 d) dL_law_200 rfl rfl ?_
  refine x_aload_n (pc2 := 202) (hC.1 d) dL_law_201 rfl rfl ?_
  refine x_iload_n (pc2 := 203) (hC.1 d) dL_law_202 rfl rfl ?_
  refine x_iconst (pc2 := 204) (hC.1 d) dL_law_203 rfl ic_1 ?_
  refine x_iadd (pc2 := 205) (hC.1 d) dL_law_204 rfl ?_
  refine x_scr (j := 4 * n + 1) (pc2 := 206) (hC.1 d) hC.2.1 hC.2.2.1 hC.2.2.2.1 (li_1 _) (by omega) (by have := hC.2.2.2.2; omega) dL_law_205 rfl ?_
  refine x_aload_n (pc2 := 207) (hC.1 d) dL_law_206 rfl rfl ?_
  refine x_iload_n (pc2 := 208) (hC.1 d) dL_law_207 rfl rfl ?_
  refine x_iconst (pc2 := 209) (hC.1 d) dL_law_208 rfl ic_2 ?_
  refine x_iadd (pc2 := 210) (hC.1 d) dL_law_209 rfl ?_
  refine x_scr (j := 4 * n + 2) (pc2 := 211) (hC.1 d) hC.2.1 hC.2.2.1 hC.2.2.2.1 (li_2 _) (by omega) (by have := hC.2.2.2.2; omega) dL_law_210 rfl ?_
  refine x_i2c (pc2 := 212) (hC.1 d) dL_law_211 rfl ?_
  refine z_callVi (pc2 := 215) (hC.1 d) [.int (xs (4 * n + 1)), .int (i2cv (xs (4 * n + 2)))] [.int r] cl_L_22 (fun q hq => ctX9_setSign kd235 q hq) kd235 rfl rfl rfl ⟨rfl, rfl, Nat.le_of_ble_eq_true rfl, Nat.le_of_ble_eq_true rfl⟩ (Nat.le_of_ble_eq_true rfl) ⟨Nat.le_refl _, Nat.le_refl _⟩ dL_law_212 rfl e2 ?_
  refine z_icmpeqT (tgt := 950) (hC.1 d) dL_law_215 (by decide) rfl ?_
  exact kk d M2 hd hI
set_option maxRecDepth 100000 in
set_option maxHeartbeats 4000000 in
theorem law_c2 {G : bkG} {p : Program} {l : Launch} {e : Env} {s : State} {m : MethodId} {below : List Frame} {meth : Method} {c : Code} {b Ln : Nat} {xs : Nat → Int32} {d : Drawn} {I : Nat → Mem → Prop} {M : Mem} {n : Nat} (hC : LCx G p s m meth c b Ln xs) (hn : 4 * n + 4 ≤ Ln) (hd : s.drawn.sameBut d lw_cs) (hp : PSt I n (fX8_setShift 0 (xs (4 * n + 1)) (xs (4 * n + 2))) (fX9_setShift 235 (xs (4 * n + 1)) (xs (4 * n + 2))) M) (kk : ∀ (d2 : Drawn) (M2 : Mem), s.drawn.sameBut d2 lw_cs → I (n + 1) M2 → LX G p l e s m below meth c b d2 950 [some (.ref b), some (rv G 0), some (rv G 235), some (.int (nI (4 * n))), none, none, none, none] [] M2) : LX G p l e s m below meth c b d 220 [some (.ref b), some (rv G 0), some (rv G 235), some (.int (nI (4 * n))), none, none, none, none] [] M := by
  unfold LX at *
  obtain ⟨r, M1, M2, e1, e2, hI⟩ := hp
  refine x_aload_n (pc2 := 221) (hC.1 d) dL_law_220 rfl rfl ?_
  refine x_aload_n (pc2 := 222) (hC.1 d) dL_law_221 rfl rfl ?_
  refine x_iload_n (pc2 := 223) (hC.1 d) dL_law_222 rfl rfl ?_
  refine x_iconst (pc2 := 224) (hC.1 d) dL_law_223 rfl ic_1 ?_
  refine x_iadd (pc2 := 225) (hC.1 d) dL_law_224 rfl ?_
  refine x_scr (j := 4 * n + 1) (pc2 := 226) (hC.1 d) hC.2.1 hC.2.2.1 hC.2.2.2.1 (li_1 _) (by omega) (by have := hC.2.2.2.2; omega) dL_law_225 rfl ?_
  refine x_aload_n (pc2 := 227) (hC.1 d) dL_law_226 rfl rfl ?_
  refine x_iload_n (pc2 := 228) (hC.1 d) dL_law_227 rfl rfl ?_
  refine x_iconst (pc2 := 229) (hC.1 d) dL_law_228 rfl ic_2 ?_
  refine x_iadd (pc2 := 230) (hC.1 d) dL_law_229 rfl ?_
  refine x_scr (j := 4 * n + 2) (pc2 := 231) (hC.1 d) hC.2.1 hC.2.2.1 hC.2.2.2.1 (li_2 _) (by omega) (by have := hC.2.2.2.2; omega) dL_law_230 rfl ?_
  refine z_callVi (pc2 := 234) (hC.1 d) [.int (xs (4 * n + 1)), .int (xs (4 * n + 2))] [] cl_L_23 (fun q hq => ctX8_setShift kd0 q hq) kd0 rfl rfl rfl ⟨rfl, rfl, Nat.le_of_ble_eq_true rfl, Nat.le_of_ble_eq_true rfl⟩ (Nat.le_of_ble_eq_true rfl) ⟨Nat.le_refl _, Nat.le_refl _⟩ dL_law_231 rfl e1 ?_
  refine x_aload_n (pc2 := 235) (hC.1 d) dL_law_234 rfl rfl ?_
  refine x_aload_n (pc2 := 236) (hC.1 d) dL_law_235 rfl rfl ?_
  refine x_iload_n (pc2 := 237) (hC.1 d) dL_law_236 rfl rfl ?_
  refine x_iconst (pc2 := 238) (hC.1 d) dL_law_237 rfl ic_1 ?_
  refine x_iadd (pc2 := 239) (hC.1 d) dL_law_238 rfl ?_
  refine x_scr (j := 4 * n + 1) (pc2 := 240) (hC.1 d) hC.2.1 hC.2.2.1 hC.2.2.2.1 (li_1 _) (by omega) (by have := hC.2.2.2.2; omega) dL_law_239 rfl ?_
  refine x_aload_n (pc2 := 241) (hC.1 d) dL_law_240 rfl rfl ?_
  refine x_iload_n (pc2 := 242) (hC.1 d) dL_law_241 rfl rfl ?_
  refine x_iconst (pc2 := 243) (hC.1 d) dL_law_242 rfl ic_2 ?_
  refine x_iadd (pc2 := 244) (hC.1 d) dL_law_243 rfl ?_
  refine x_scr (j := 4 * n + 2) (pc2 := 245) (hC.1 d) hC.2.1 hC.2.2.1 hC.2.2.2.1 (li_2 _) (by omega) (by have := hC.2.2.2.2; omega) dL_law_244 rfl ?_
  refine z_callVi (pc2 := 248) (hC.1 d) [.int (xs (4 * n + 1)), .int (xs (4 * n + 2))] [.int r] cl_L_26 (fun q hq => ctX9_setShift kd235 q hq) kd235 rfl rfl rfl ⟨rfl, rfl, Nat.le_of_ble_eq_true rfl, Nat.le_of_ble_eq_true rfl⟩ (Nat.le_of_ble_eq_true rfl) ⟨Nat.le_refl _, Nat.le_refl _⟩ dL_law_245 rfl e2 ?_
  refine z_icmpeqT (tgt := 950) (hC.1 d) dL_law_248 (by decide) rfl ?_
  exact kk d M2 hd hI
set_option maxRecDepth 100000 in
set_option maxHeartbeats 4000000 in
theorem law_c3 {G : bkG} {p : Program} {l : Launch} {e : Env} {s : State} {m : MethodId} {below : List Frame} {meth : Method} {c : Code} {b Ln : Nat} {xs : Nat → Int32} {d : Drawn} {I : Nat → Mem → Prop} {M : Mem} {n : Nat} (hC : LCx G p s m meth c b Ln xs) (hn : 4 * n + 4 ≤ Ln) (hd : s.drawn.sameBut d lw_cs) (hp : ∀ z : Int32, (z = 0 ∨ z = 1) → PSt I n (fX8_borrow 0 (xs (4 * n + 1)) z) (fX9_borrow 235 (xs (4 * n + 1)) z) M) (kk : ∀ (d2 : Drawn) (M2 : Mem), s.drawn.sameBut d2 lw_cs → I (n + 1) M2 → LX G p l e s m below meth c b d2 950 [some (.ref b), some (rv G 0), some (rv G 235), some (.int (nI (4 * n))), none, none, none, none] [] M2) : LX G p l e s m below meth c b d 253 [some (.ref b), some (rv G 0), some (rv G 235), some (.int (nI (4 * n))), none, none, none, none] [] M := by
  unfold LX at *
  by_cases hz : xs (4 * n + 2) = 0
  · obtain ⟨r, M1, M2, e1, e2, hI⟩ := hp 0 (Or.inl rfl)
    refine x_aload_n (pc2 := 254) (hC.1 d) dL_law_253 rfl rfl ?_
    refine x_aload_n (pc2 := 255) (hC.1 d) dL_law_254 rfl rfl ?_
    refine x_iload_n (pc2 := 256) (hC.1 d) dL_law_255 rfl rfl ?_
    refine x_iconst (pc2 := 257) (hC.1 d) dL_law_256 rfl ic_1 ?_
    refine x_iadd (pc2 := 258) (hC.1 d) dL_law_257 rfl ?_
    refine x_scr (j := 4 * n + 1) (pc2 := 259) (hC.1 d) hC.2.1 hC.2.2.1 hC.2.2.2.1 (li_1 _) (by omega) (by have := hC.2.2.2.2; omega) dL_law_258 rfl ?_
    refine x_aload_n (pc2 := 260) (hC.1 d) dL_law_259 rfl rfl ?_
    refine x_iload_n (pc2 := 261) (hC.1 d) dL_law_260 rfl rfl ?_
    refine x_iconst (pc2 := 262) (hC.1 d) dL_law_261 rfl ic_2 ?_
    refine x_iadd (pc2 := 263) (hC.1 d) dL_law_262 rfl ?_
    refine x_scr (j := 4 * n + 2) (pc2 := 264) (hC.1 d) hC.2.1 hC.2.2.1 hC.2.2.2.1 (li_2 _) (by omega) (by have := hC.2.2.2.2; omega) dL_law_263 rfl ?_
    refine z_ifeqT (tgt := 271) (hC.1 d) dL_law_264 (by decide) hz ?_
    refine x_iconst (pc2 := 272) (hC.1 d) dL_law_271 rfl ic_0 ?_
    refine z_callVi (pc2 := 275) (hC.1 d) [.int (xs (4 * n + 1)), .int 0] [] cl_L_27 (fun q hq => ctX8_borrow kd0 q hq) kd0 rfl rfl rfl ⟨rfl, rfl, Nat.le_of_ble_eq_true rfl, Nat.le_of_ble_eq_true rfl⟩ (Nat.le_of_ble_eq_true rfl) ⟨Nat.le_refl _, Nat.le_refl _⟩ dL_law_272 rfl e1 ?_
    refine x_aload_n (pc2 := 276) (hC.1 d) dL_law_275 rfl rfl ?_
    refine x_aload_n (pc2 := 277) (hC.1 d) dL_law_276 rfl rfl ?_
    refine x_iload_n (pc2 := 278) (hC.1 d) dL_law_277 rfl rfl ?_
    refine x_iconst (pc2 := 279) (hC.1 d) dL_law_278 rfl ic_1 ?_
    refine x_iadd (pc2 := 280) (hC.1 d) dL_law_279 rfl ?_
    refine x_scr (j := 4 * n + 1) (pc2 := 281) (hC.1 d) hC.2.1 hC.2.2.1 hC.2.2.2.1 (li_1 _) (by omega) (by have := hC.2.2.2.2; omega) dL_law_280 rfl ?_
    refine x_aload_n (pc2 := 282) (hC.1 d) dL_law_281 rfl rfl ?_
    refine x_iload_n (pc2 := 283) (hC.1 d) dL_law_282 rfl rfl ?_
    refine x_iconst (pc2 := 284) (hC.1 d) dL_law_283 rfl ic_2 ?_
    refine x_iadd (pc2 := 285) (hC.1 d) dL_law_284 rfl ?_
    refine x_scr (j := 4 * n + 2) (pc2 := 286) (hC.1 d) hC.2.1 hC.2.2.1 hC.2.2.2.1 (li_2 _) (by omega) (by have := hC.2.2.2.2; omega) dL_law_285 rfl ?_
    refine z_ifeqT (tgt := 293) (hC.1 d) dL_law_286 (by decide) hz ?_
    refine x_iconst (pc2 := 294) (hC.1 d) dL_law_293 rfl ic_0 ?_
    refine z_callVi (pc2 := 297) (hC.1 d) [.int (xs (4 * n + 1)), .int 0] [.int r] cl_L_31 (fun q hq => ctX9_borrow kd235 q hq) kd235 rfl rfl rfl ⟨rfl, rfl, Nat.le_of_ble_eq_true rfl, Nat.le_of_ble_eq_true rfl⟩ (Nat.le_of_ble_eq_true rfl) ⟨Nat.le_refl _, Nat.le_refl _⟩ dL_law_294 rfl e2 ?_
    refine z_icmpeqT (tgt := 950) (hC.1 d) dL_law_297 (by decide) rfl ?_
    exact kk d M2 hd hI
  · obtain ⟨r, M1, M2, e1, e2, hI⟩ := hp 1 (Or.inr rfl)
    refine x_aload_n (pc2 := 254) (hC.1 d) dL_law_253 rfl rfl ?_
    refine x_aload_n (pc2 := 255) (hC.1 d) dL_law_254 rfl rfl ?_
    refine x_iload_n (pc2 := 256) (hC.1 d) dL_law_255 rfl rfl ?_
    refine x_iconst (pc2 := 257) (hC.1 d) dL_law_256 rfl ic_1 ?_
    refine x_iadd (pc2 := 258) (hC.1 d) dL_law_257 rfl ?_
    refine x_scr (j := 4 * n + 1) (pc2 := 259) (hC.1 d) hC.2.1 hC.2.2.1 hC.2.2.2.1 (li_1 _) (by omega) (by have := hC.2.2.2.2; omega) dL_law_258 rfl ?_
    refine x_aload_n (pc2 := 260) (hC.1 d) dL_law_259 rfl rfl ?_
    refine x_iload_n (pc2 := 261) (hC.1 d) dL_law_260 rfl rfl ?_
    refine x_iconst (pc2 := 262) (hC.1 d) dL_law_261 rfl ic_2 ?_
    refine x_iadd (pc2 := 263) (hC.1 d) dL_law_262 rfl ?_
    refine x_scr (j := 4 * n + 2) (pc2 := 264) (hC.1 d) hC.2.1 hC.2.2.1 hC.2.2.2.1 (li_2 _) (by omega) (by have := hC.2.2.2.2; omega) dL_law_263 rfl ?_
    refine z_ifeqF (pc2 := 267) (tgt := 271) (hC.1 d) dL_law_264 (by decide) hz rfl ?_
    refine x_iconst (pc2 := 268) (hC.1 d) dL_law_267 rfl ic_1 ?_
    refine x_goto (tgt := 272) (hC.1 d) dL_law_268 (by decide) ?_
    refine z_callVi (pc2 := 275) (hC.1 d) [.int (xs (4 * n + 1)), .int 1] [] cl_L_27 (fun q hq => ctX8_borrow kd0 q hq) kd0 rfl rfl rfl ⟨rfl, rfl, Nat.le_of_ble_eq_true rfl, Nat.le_of_ble_eq_true rfl⟩ (Nat.le_of_ble_eq_true rfl) ⟨Nat.le_refl _, Nat.le_refl _⟩ dL_law_272 rfl e1 ?_
    refine x_aload_n (pc2 := 276) (hC.1 d) dL_law_275 rfl rfl ?_
    refine x_aload_n (pc2 := 277) (hC.1 d) dL_law_276 rfl rfl ?_
    refine x_iload_n (pc2 := 278) (hC.1 d) dL_law_277 rfl rfl ?_
    refine x_iconst (pc2 := 279) (hC.1 d) dL_law_278 rfl ic_1 ?_
    refine x_iadd (pc2 := 280) (hC.1 d) dL_law_279 rfl ?_
    refine x_scr (j := 4 * n + 1) (pc2 := 281) (hC.1 d) hC.2.1 hC.2.2.1 hC.2.2.2.1 (li_1 _) (by omega) (by have := hC.2.2.2.2; omega) dL_law_280 rfl ?_
    refine x_aload_n (pc2 := 282) (hC.1 d) dL_law_281 rfl rfl ?_
    refine x_iload_n (pc2 := 283) (hC.1 d) dL_law_282 rfl rfl ?_
    refine x_iconst (pc2 := 284) (hC.1 d) dL_law_283 rfl ic_2 ?_
    refine x_iadd (pc2 := 285) (hC.1 d) dL_law_284 rfl ?_
    refine x_scr (j := 4 * n + 2) (pc2 := 286) (hC.1 d) hC.2.1 hC.2.2.1 hC.2.2.2.1 (li_2 _) (by omega) (by have := hC.2.2.2.2; omega) dL_law_285 rfl ?_
    refine z_ifeqF (pc2 := 289) (tgt := 293) (hC.1 d) dL_law_286 (by decide) hz rfl ?_
    refine x_iconst (pc2 := 290) (hC.1 d) dL_law_289 rfl ic_1 ?_
    refine x_goto (tgt := 294) (hC.1 d) dL_law_290 (by decide) ?_
    refine z_callVi (pc2 := 297) (hC.1 d) [.int (xs (4 * n + 1)), .int 1] [.int r] cl_L_31 (fun q hq => ctX9_borrow kd235 q hq) kd235 rfl rfl rfl ⟨rfl, rfl, Nat.le_of_ble_eq_true rfl, Nat.le_of_ble_eq_true rfl⟩ (Nat.le_of_ble_eq_true rfl) ⟨Nat.le_refl _, Nat.le_refl _⟩ dL_law_294 rfl e2 ?_
    refine z_icmpeqT (tgt := 950) (hC.1 d) dL_law_297 (by decide) rfl ?_
    exact kk d M2 hd hI
set_option maxRecDepth 100000 in
set_option maxHeartbeats 4000000 in
theorem law_c4 {G : bkG} {p : Program} {l : Launch} {e : Env} {s : State} {m : MethodId} {below : List Frame} {meth : Method} {c : Code} {b Ln : Nat} {xs : Nat → Int32} {d : Drawn} {I : Nat → Mem → Prop} {M : Mem} {n : Nat} (hC : LCx G p s m meth c b Ln xs) (hn : 4 * n + 4 ≤ Ln) (hd : s.drawn.sameBut d lw_cs) (hp : PSt I n (fX8_set 0 (xs (4 * n + 1)) (xs (4 * n + 2))) (fX9_set 235 (xs (4 * n + 1)) (xs (4 * n + 2))) M) (kk : ∀ (d2 : Drawn) (M2 : Mem), s.drawn.sameBut d2 lw_cs → I (n + 1) M2 → LX G p l e s m below meth c b d2 950 [some (.ref b), some (rv G 0), some (rv G 235), some (.int (nI (4 * n))), none, none, none, none] [] M2) : LX G p l e s m below meth c b d 302 [some (.ref b), some (rv G 0), some (rv G 235), some (.int (nI (4 * n))), none, none, none, none] [] M := by
  unfold LX at *
  obtain ⟨r, M1, M2, e1, e2, hI⟩ := hp
  refine x_aload_n (pc2 := 303) (hC.1 d) dL_law_302 rfl rfl ?_
  refine x_aload_n (pc2 := 304) (hC.1 d) dL_law_303 rfl rfl ?_
  refine x_iload_n (pc2 := 305) (hC.1 d) dL_law_304 rfl rfl ?_
  refine x_iconst (pc2 := 306) (hC.1 d) dL_law_305 rfl ic_1 ?_
  refine x_iadd (pc2 := 307) (hC.1 d) dL_law_306 rfl ?_
  refine x_scr (j := 4 * n + 1) (pc2 := 308) (hC.1 d) hC.2.1 hC.2.2.1 hC.2.2.2.1 (li_1 _) (by omega) (by have := hC.2.2.2.2; omega) dL_law_307 rfl ?_
  refine x_aload_n (pc2 := 309) (hC.1 d) dL_law_308 rfl rfl ?_
  refine x_iload_n (pc2 := 310) (hC.1 d) dL_law_309 rfl rfl ?_
  refine x_iconst (pc2 := 311) (hC.1 d) dL_law_310 rfl ic_2 ?_
  refine x_iadd (pc2 := 312) (hC.1 d) dL_law_311 rfl ?_
  refine x_scr (j := 4 * n + 2) (pc2 := 313) (hC.1 d) hC.2.1 hC.2.2.1 hC.2.2.2.1 (li_2 _) (by omega) (by have := hC.2.2.2.2; omega) dL_law_312 rfl ?_
  refine z_callVi (pc2 := 316) (hC.1 d) [.int (xs (4 * n + 1)), .int (xs (4 * n + 2))] [] cl_L_32 (fun q hq => ctX8_set kd0 q hq) kd0 rfl rfl rfl ⟨rfl, rfl, Nat.le_of_ble_eq_true rfl, Nat.le_of_ble_eq_true rfl⟩ (Nat.le_of_ble_eq_true rfl) ⟨Nat.le_refl _, Nat.le_refl _⟩ dL_law_313 rfl e1 ?_
  refine x_aload_n (pc2 := 317) (hC.1 d) dL_law_316 rfl rfl ?_
  refine x_aload_n (pc2 := 318) (hC.1 d) dL_law_317 rfl rfl ?_
  refine x_iload_n (pc2 := 319) (hC.1 d) dL_law_318 rfl rfl ?_
  refine x_iconst (pc2 := 320) (hC.1 d) dL_law_319 rfl ic_1 ?_
  refine x_iadd (pc2 := 321) (hC.1 d) dL_law_320 rfl ?_
  refine x_scr (j := 4 * n + 1) (pc2 := 322) (hC.1 d) hC.2.1 hC.2.2.1 hC.2.2.2.1 (li_1 _) (by omega) (by have := hC.2.2.2.2; omega) dL_law_321 rfl ?_
  refine x_aload_n (pc2 := 323) (hC.1 d) dL_law_322 rfl rfl ?_
  refine x_iload_n (pc2 := 324) (hC.1 d) dL_law_323 rfl rfl ?_
  refine x_iconst (pc2 := 325) (hC.1 d) dL_law_324 rfl ic_2 ?_
  refine x_iadd (pc2 := 326) (hC.1 d) dL_law_325 rfl ?_
  refine x_scr (j := 4 * n + 2) (pc2 := 327) (hC.1 d) hC.2.1 hC.2.2.1 hC.2.2.2.1 (li_2 _) (by omega) (by have := hC.2.2.2.2; omega) dL_law_326 rfl ?_
  refine z_callVi (pc2 := 330) (hC.1 d) [.int (xs (4 * n + 1)), .int (xs (4 * n + 2))] [.int r] cl_L_35 (fun q hq => ctX9_set kd235 q hq) kd235 rfl rfl rfl ⟨rfl, rfl, Nat.le_of_ble_eq_true rfl, Nat.le_of_ble_eq_true rfl⟩ (Nat.le_of_ble_eq_true rfl) ⟨Nat.le_refl _, Nat.le_refl _⟩ dL_law_327 rfl e2 ?_
  refine z_icmpeqT (tgt := 950) (hC.1 d) dL_law_330 (by decide) rfl ?_
  exact kk d M2 hd hI
set_option maxRecDepth 100000 in
set_option maxHeartbeats 4000000 in
theorem law_c5 {G : bkG} {p : Program} {l : Launch} {e : Env} {s : State} {m : MethodId} {below : List Frame} {meth : Method} {c : Code} {b Ln : Nat} {xs : Nat → Int32} {d : Drawn} {I : Nat → Mem → Prop} {M : Mem} {n : Nat} (hC : LCx G p s m meth c b Ln xs) (hn : 4 * n + 4 ≤ Ln) (hd : s.drawn.sameBut d lw_cs) (hp : PSt I n (fX8_press 0 (xs (4 * n + 1)) (xs (4 * n + 2))) (fX9_press 235 (xs (4 * n + 1)) (xs (4 * n + 2))) M) (kk : ∀ (d2 : Drawn) (M2 : Mem), s.drawn.sameBut d2 lw_cs → I (n + 1) M2 → LX G p l e s m below meth c b d2 950 [some (.ref b), some (rv G 0), some (rv G 235), some (.int (nI (4 * n))), none, none, none, none] [] M2) : LX G p l e s m below meth c b d 335 [some (.ref b), some (rv G 0), some (rv G 235), some (.int (nI (4 * n))), none, none, none, none] [] M := by
  unfold LX at *
  obtain ⟨r, M1, M2, e1, e2, hI⟩ := hp
  refine x_aload_n (pc2 := 336) (hC.1 d) dL_law_335 rfl rfl ?_
  refine x_aload_n (pc2 := 337) (hC.1 d) dL_law_336 rfl rfl ?_
  refine x_iload_n (pc2 := 338) (hC.1 d) dL_law_337 rfl rfl ?_
  refine x_iconst (pc2 := 339) (hC.1 d) dL_law_338 rfl ic_1 ?_
  refine x_iadd (pc2 := 340) (hC.1 d) dL_law_339 rfl ?_
  refine x_scr (j := 4 * n + 1) (pc2 := 341) (hC.1 d) hC.2.1 hC.2.2.1 hC.2.2.2.1 (li_1 _) (by omega) (by have := hC.2.2.2.2; omega) dL_law_340 rfl ?_
  refine x_aload_n (pc2 := 342) (hC.1 d) dL_law_341 rfl rfl ?_
  refine x_iload_n (pc2 := 343) (hC.1 d) dL_law_342 rfl rfl ?_
  refine x_iconst (pc2 := 344) (hC.1 d) dL_law_343 rfl ic_2 ?_
  refine x_iadd (pc2 := 345) (hC.1 d) dL_law_344 rfl ?_
  refine x_scr (j := 4 * n + 2) (pc2 := 346) (hC.1 d) hC.2.1 hC.2.2.1 hC.2.2.2.1 (li_2 _) (by omega) (by have := hC.2.2.2.2; omega) dL_law_345 rfl ?_
  refine z_callVi (pc2 := 349) (hC.1 d) [.int (xs (4 * n + 1)), .int (xs (4 * n + 2))] [] cl_L_36 (fun q hq => ctX8_press kd0 q hq) kd0 rfl rfl rfl ⟨rfl, rfl, Nat.le_of_ble_eq_true rfl, Nat.le_of_ble_eq_true rfl⟩ (Nat.le_of_ble_eq_true rfl) ⟨Nat.le_refl _, Nat.le_refl _⟩ dL_law_346 rfl e1 ?_
  refine x_aload_n (pc2 := 350) (hC.1 d) dL_law_349 rfl rfl ?_
  refine x_aload_n (pc2 := 351) (hC.1 d) dL_law_350 rfl rfl ?_
  refine x_iload_n (pc2 := 352) (hC.1 d) dL_law_351 rfl rfl ?_
  refine x_iconst (pc2 := 353) (hC.1 d) dL_law_352 rfl ic_1 ?_
  refine x_iadd (pc2 := 354) (hC.1 d) dL_law_353 rfl ?_
  refine x_scr (j := 4 * n + 1) (pc2 := 355) (hC.1 d) hC.2.1 hC.2.2.1 hC.2.2.2.1 (li_1 _) (by omega) (by have := hC.2.2.2.2; omega) dL_law_354 rfl ?_
  refine x_aload_n (pc2 := 356) (hC.1 d) dL_law_355 rfl rfl ?_
  refine x_iload_n (pc2 := 357) (hC.1 d) dL_law_356 rfl rfl ?_
  refine x_iconst (pc2 := 358) (hC.1 d) dL_law_357 rfl ic_2 ?_
  refine x_iadd (pc2 := 359) (hC.1 d) dL_law_358 rfl ?_
  refine x_scr (j := 4 * n + 2) (pc2 := 360) (hC.1 d) hC.2.1 hC.2.2.1 hC.2.2.2.1 (li_2 _) (by omega) (by have := hC.2.2.2.2; omega) dL_law_359 rfl ?_
  refine z_callVi (pc2 := 363) (hC.1 d) [.int (xs (4 * n + 1)), .int (xs (4 * n + 2))] [.int r] cl_L_39 (fun q hq => ctX9_press kd235 q hq) kd235 rfl rfl rfl ⟨rfl, rfl, Nat.le_of_ble_eq_true rfl, Nat.le_of_ble_eq_true rfl⟩ (Nat.le_of_ble_eq_true rfl) ⟨Nat.le_refl _, Nat.le_refl _⟩ dL_law_360 rfl e2 ?_
  refine z_icmpeqT (tgt := 950) (hC.1 d) dL_law_363 (by decide) rfl ?_
  exact kk d M2 hd hI
set_option maxRecDepth 100000 in
set_option maxHeartbeats 4000000 in
theorem law_c6 {G : bkG} {p : Program} {l : Launch} {e : Env} {s : State} {m : MethodId} {below : List Frame} {meth : Method} {c : Code} {b Ln : Nat} {xs : Nat → Int32} {d : Drawn} {I : Nat → Mem → Prop} {M : Mem} {n : Nat} (hC : LCx G p s m meth c b Ln xs) (hn : 4 * n + 4 ≤ Ln) (hd : s.drawn.sameBut d lw_cs) (hp : PSt I n (fX8_release 0 (xs (4 * n + 1)) (xs (4 * n + 2))) (fX9_release 235 (xs (4 * n + 1)) (xs (4 * n + 2))) M) (kk : ∀ (d2 : Drawn) (M2 : Mem), s.drawn.sameBut d2 lw_cs → I (n + 1) M2 → LX G p l e s m below meth c b d2 950 [some (.ref b), some (rv G 0), some (rv G 235), some (.int (nI (4 * n))), none, none, none, none] [] M2) : LX G p l e s m below meth c b d 368 [some (.ref b), some (rv G 0), some (rv G 235), some (.int (nI (4 * n))), none, none, none, none] [] M := by
  unfold LX at *
  obtain ⟨r, M1, M2, e1, e2, hI⟩ := hp
  refine x_aload_n (pc2 := 369) (hC.1 d) dL_law_368 rfl rfl ?_
  refine x_aload_n (pc2 := 370) (hC.1 d) dL_law_369 rfl rfl ?_
  refine x_iload_n (pc2 := 371) (hC.1 d) dL_law_370 rfl rfl ?_
  refine x_iconst (pc2 := 372) (hC.1 d) dL_law_371 rfl ic_1 ?_
  refine x_iadd (pc2 := 373) (hC.1 d) dL_law_372 rfl ?_
  refine x_scr (j := 4 * n + 1) (pc2 := 374) (hC.1 d) hC.2.1 hC.2.2.1 hC.2.2.2.1 (li_1 _) (by omega) (by have := hC.2.2.2.2; omega) dL_law_373 rfl ?_
  refine x_aload_n (pc2 := 375) (hC.1 d) dL_law_374 rfl rfl ?_
  refine x_iload_n (pc2 := 376) (hC.1 d) dL_law_375 rfl rfl ?_
  refine x_iconst (pc2 := 377) (hC.1 d) dL_law_376 rfl ic_2 ?_
  refine x_iadd (pc2 := 378) (hC.1 d) dL_law_377 rfl ?_
  refine x_scr (j := 4 * n + 2) (pc2 := 379) (hC.1 d) hC.2.1 hC.2.2.1 hC.2.2.2.1 (li_2 _) (by omega) (by have := hC.2.2.2.2; omega) dL_law_378 rfl ?_
  refine z_callVi (pc2 := 382) (hC.1 d) [.int (xs (4 * n + 1)), .int (xs (4 * n + 2))] [] cl_L_40 (fun q hq => ctX8_release kd0 q hq) kd0 rfl rfl rfl ⟨rfl, rfl, Nat.le_of_ble_eq_true rfl, Nat.le_of_ble_eq_true rfl⟩ (Nat.le_of_ble_eq_true rfl) ⟨Nat.le_refl _, Nat.le_refl _⟩ dL_law_379 rfl e1 ?_
  refine x_aload_n (pc2 := 383) (hC.1 d) dL_law_382 rfl rfl ?_
  refine x_aload_n (pc2 := 384) (hC.1 d) dL_law_383 rfl rfl ?_
  refine x_iload_n (pc2 := 385) (hC.1 d) dL_law_384 rfl rfl ?_
  refine x_iconst (pc2 := 386) (hC.1 d) dL_law_385 rfl ic_1 ?_
  refine x_iadd (pc2 := 387) (hC.1 d) dL_law_386 rfl ?_
  refine x_scr (j := 4 * n + 1) (pc2 := 388) (hC.1 d) hC.2.1 hC.2.2.1 hC.2.2.2.1 (li_1 _) (by omega) (by have := hC.2.2.2.2; omega) dL_law_387 rfl ?_
  refine x_aload_n (pc2 := 389) (hC.1 d) dL_law_388 rfl rfl ?_
  refine x_iload_n (pc2 := 390) (hC.1 d) dL_law_389 rfl rfl ?_
  refine x_iconst (pc2 := 391) (hC.1 d) dL_law_390 rfl ic_2 ?_
  refine x_iadd (pc2 := 392) (hC.1 d) dL_law_391 rfl ?_
  refine x_scr (j := 4 * n + 2) (pc2 := 393) (hC.1 d) hC.2.1 hC.2.2.1 hC.2.2.2.1 (li_2 _) (by omega) (by have := hC.2.2.2.2; omega) dL_law_392 rfl ?_
  refine z_callVi (pc2 := 396) (hC.1 d) [.int (xs (4 * n + 1)), .int (xs (4 * n + 2))] [.int r] cl_L_43 (fun q hq => ctX9_release kd235 q hq) kd235 rfl rfl rfl ⟨rfl, rfl, Nat.le_of_ble_eq_true rfl, Nat.le_of_ble_eq_true rfl⟩ (Nat.le_of_ble_eq_true rfl) ⟨Nat.le_refl _, Nat.le_refl _⟩ dL_law_393 rfl e2 ?_
  refine z_icmpeqT (tgt := 950) (hC.1 d) dL_law_396 (by decide) rfl ?_
  exact kk d M2 hd hI
set_option maxRecDepth 100000 in
set_option maxHeartbeats 4000000 in
theorem law_c7 {G : bkG} {p : Program} {l : Launch} {e : Env} {s : State} {m : MethodId} {below : List Frame} {meth : Method} {c : Code} {b Ln : Nat} {xs : Nat → Int32} {d : Drawn} {I : Nat → Mem → Prop} {M : Mem} {n : Nat} (hC : LCx G p s m meth c b Ln xs) (hn : 4 * n + 4 ≤ Ln) (hd : s.drawn.sameBut d lw_cs) (hp : PSt I n (fX8_tick 0 (xs (4 * n + 1))) (fX9_tick 235 (xs (4 * n + 1))) M) (kk : ∀ (d2 : Drawn) (M2 : Mem), s.drawn.sameBut d2 lw_cs → I (n + 1) M2 → LX G p l e s m below meth c b d2 950 [some (.ref b), some (rv G 0), some (rv G 235), some (.int (nI (4 * n))), none, none, none, none] [] M2) : LX G p l e s m below meth c b d 401 [some (.ref b), some (rv G 0), some (rv G 235), some (.int (nI (4 * n))), none, none, none, none] [] M := by
  unfold LX at *
  obtain ⟨r, M1, M2, e1, e2, hI⟩ := hp
  refine x_aload_n (pc2 := 402) (hC.1 d) dL_law_401 rfl rfl ?_
  refine x_aload_n (pc2 := 403) (hC.1 d) dL_law_402 rfl rfl ?_
  refine x_iload_n (pc2 := 404) (hC.1 d) dL_law_403 rfl rfl ?_
  refine x_iconst (pc2 := 405) (hC.1 d) dL_law_404 rfl ic_1 ?_
  refine x_iadd (pc2 := 406) (hC.1 d) dL_law_405 rfl ?_
  refine x_scr (j := 4 * n + 1) (pc2 := 407) (hC.1 d) hC.2.1 hC.2.2.1 hC.2.2.2.1 (li_1 _) (by omega) (by have := hC.2.2.2.2; omega) dL_law_406 rfl ?_
  refine z_callVi (pc2 := 410) (hC.1 d) [.int (xs (4 * n + 1))] [] cl_L_44 (fun q hq => ctX8_tick kd0 q hq) kd0 rfl rfl rfl ⟨rfl, rfl, Nat.le_of_ble_eq_true rfl, Nat.le_of_ble_eq_true rfl⟩ (Nat.le_of_ble_eq_true rfl) ⟨Nat.le_refl _, Nat.le_refl _⟩ dL_law_407 rfl e1 ?_
  refine x_aload_n (pc2 := 411) (hC.1 d) dL_law_410 rfl rfl ?_
  refine x_aload_n (pc2 := 412) (hC.1 d) dL_law_411 rfl rfl ?_
  refine x_iload_n (pc2 := 413) (hC.1 d) dL_law_412 rfl rfl ?_
  refine x_iconst (pc2 := 414) (hC.1 d) dL_law_413 rfl ic_1 ?_
  refine x_iadd (pc2 := 415) (hC.1 d) dL_law_414 rfl ?_
  refine x_scr (j := 4 * n + 1) (pc2 := 416) (hC.1 d) hC.2.1 hC.2.2.1 hC.2.2.2.1 (li_1 _) (by omega) (by have := hC.2.2.2.2; omega) dL_law_415 rfl ?_
  refine z_callVi (pc2 := 419) (hC.1 d) [.int (xs (4 * n + 1))] [.int r] cl_L_48 (fun q hq => ctX9_tick kd235 q hq) kd235 rfl rfl rfl ⟨rfl, rfl, Nat.le_of_ble_eq_true rfl, Nat.le_of_ble_eq_true rfl⟩ (Nat.le_of_ble_eq_true rfl) ⟨Nat.le_refl _, Nat.le_refl _⟩ dL_law_416 rfl e2 ?_
  refine z_icmpeqT (tgt := 950) (hC.1 d) dL_law_419 (by decide) rfl ?_
  exact kk d M2 hd hI
set_option maxRecDepth 100000 in
set_option maxHeartbeats 4000000 in
theorem law_c8 {G : bkG} {p : Program} {l : Launch} {e : Env} {s : State} {m : MethodId} {below : List Frame} {meth : Method} {c : Code} {b Ln : Nat} {xs : Nat → Int32} {d : Drawn} {I : Nat → Mem → Prop} {M : Mem} {n : Nat} (hC : LCx G p s m meth c b Ln xs) (hn : 4 * n + 4 ≤ Ln) (hd : s.drawn.sameBut d lw_cs) (hp : PSt I n (fX8_settle 0 (xs (4 * n + 1)) (xs (4 * n + 2))) (fX9_settle 235 (xs (4 * n + 1)) (xs (4 * n + 2))) M) (kk : ∀ (d2 : Drawn) (M2 : Mem), s.drawn.sameBut d2 lw_cs → I (n + 1) M2 → LX G p l e s m below meth c b d2 950 [some (.ref b), some (rv G 0), some (rv G 235), some (.int (nI (4 * n))), none, none, none, none] [] M2) : LX G p l e s m below meth c b d 424 [some (.ref b), some (rv G 0), some (rv G 235), some (.int (nI (4 * n))), none, none, none, none] [] M := by
  unfold LX at *
  obtain ⟨r, M1, M2, e1, e2, hI⟩ := hp
  refine x_aload_n (pc2 := 425) (hC.1 d) dL_law_424 rfl rfl ?_
  refine x_aload_n (pc2 := 426) (hC.1 d) dL_law_425 rfl rfl ?_
  refine x_iload_n (pc2 := 427) (hC.1 d) dL_law_426 rfl rfl ?_
  refine x_iconst (pc2 := 428) (hC.1 d) dL_law_427 rfl ic_1 ?_
  refine x_iadd (pc2 := 429) (hC.1 d) dL_law_428 rfl ?_
  refine x_scr (j := 4 * n + 1) (pc2 := 430) (hC.1 d) hC.2.1 hC.2.2.1 hC.2.2.2.1 (li_1 _) (by omega) (by have := hC.2.2.2.2; omega) dL_law_429 rfl ?_
  refine x_aload_n (pc2 := 431) (hC.1 d) dL_law_430 rfl rfl ?_
  refine x_iload_n (pc2 := 432) (hC.1 d) dL_law_431 rfl rfl ?_
  refine x_iconst (pc2 := 433) (hC.1 d) dL_law_432 rfl ic_2 ?_
  refine x_iadd (pc2 := 434) (hC.1 d) dL_law_433 rfl ?_
  refine x_scr (j := 4 * n + 2) (pc2 := 435) (hC.1 d) hC.2.1 hC.2.2.1 hC.2.2.2.1 (li_2 _) (by omega) (by have := hC.2.2.2.2; omega) dL_law_434 rfl ?_
  refine z_callVi (pc2 := 438) (hC.1 d) [.int (xs (4 * n + 1)), .int (xs (4 * n + 2))] [] cl_L_49 (fun q hq => ctX8_settle kd0 q hq) kd0 rfl rfl rfl ⟨rfl, rfl, Nat.le_of_ble_eq_true rfl, Nat.le_of_ble_eq_true rfl⟩ (Nat.le_of_ble_eq_true rfl) ⟨Nat.le_refl _, Nat.le_refl _⟩ dL_law_435 rfl e1 ?_
  refine x_aload_n (pc2 := 439) (hC.1 d) dL_law_438 rfl rfl ?_
  refine x_aload_n (pc2 := 440) (hC.1 d) dL_law_439 rfl rfl ?_
  refine x_iload_n (pc2 := 441) (hC.1 d) dL_law_440 rfl rfl ?_
  refine x_iconst (pc2 := 442) (hC.1 d) dL_law_441 rfl ic_1 ?_
  refine x_iadd (pc2 := 443) (hC.1 d) dL_law_442 rfl ?_
  refine x_scr (j := 4 * n + 1) (pc2 := 444) (hC.1 d) hC.2.1 hC.2.2.1 hC.2.2.2.1 (li_1 _) (by omega) (by have := hC.2.2.2.2; omega) dL_law_443 rfl ?_
  refine x_aload_n (pc2 := 445) (hC.1 d) dL_law_444 rfl rfl ?_
  refine x_iload_n (pc2 := 446) (hC.1 d) dL_law_445 rfl rfl ?_
  refine x_iconst (pc2 := 447) (hC.1 d) dL_law_446 rfl ic_2 ?_
  refine x_iadd (pc2 := 448) (hC.1 d) dL_law_447 rfl ?_
  refine x_scr (j := 4 * n + 2) (pc2 := 449) (hC.1 d) hC.2.1 hC.2.2.1 hC.2.2.2.1 (li_2 _) (by omega) (by have := hC.2.2.2.2; omega) dL_law_448 rfl ?_
  refine z_callVi (pc2 := 452) (hC.1 d) [.int (xs (4 * n + 1)), .int (xs (4 * n + 2))] [.int r] cl_L_52 (fun q hq => ctX9_settle kd235 q hq) kd235 rfl rfl rfl ⟨rfl, rfl, Nat.le_of_ble_eq_true rfl, Nat.le_of_ble_eq_true rfl⟩ (Nat.le_of_ble_eq_true rfl) ⟨Nat.le_refl _, Nat.le_refl _⟩ dL_law_449 rfl e2 ?_
  refine z_icmpeqT (tgt := 950) (hC.1 d) dL_law_452 (by decide) rfl ?_
  exact kk d M2 hd hI
set_option maxRecDepth 100000 in
set_option maxHeartbeats 4000000 in
theorem law_c9 {G : bkG} {p : Program} {l : Launch} {e : Env} {s : State} {m : MethodId} {below : List Frame} {meth : Method} {c : Code} {b Ln : Nat} {xs : Nat → Int32} {d : Drawn} {I : Nat → Mem → Prop} {M : Mem} {n : Nat} (hC : LCx G p s m meth c b Ln xs) (hn : 4 * n + 4 ≤ Ln) (hd : s.drawn.sameBut d lw_cs) (hp : PSt I n (fX8_type 0 (i2cv (xs (4 * n + 1)))) (fX9_type 235 (i2cv (xs (4 * n + 1)))) M) (kk : ∀ (d2 : Drawn) (M2 : Mem), s.drawn.sameBut d2 lw_cs → I (n + 1) M2 → LX G p l e s m below meth c b d2 950 [some (.ref b), some (rv G 0), some (rv G 235), some (.int (nI (4 * n))), none, none, none, none] [] M2) : LX G p l e s m below meth c b d 457 [some (.ref b), some (rv G 0), some (rv G 235), some (.int (nI (4 * n))), none, none, none, none] [] M := by
  unfold LX at *
  obtain ⟨r, M1, M2, e1, e2, hI⟩ := hp
  refine x_aload_n (pc2 := 458) (hC.1 d) dL_law_457 rfl rfl ?_
  refine x_aload_n (pc2 := 459) (hC.1 d) dL_law_458 rfl rfl ?_
  refine x_iload_n (pc2 := 460) (hC.1 d) dL_law_459 rfl rfl ?_
  refine x_iconst (pc2 := 461) (hC.1 d) dL_law_460 rfl ic_1 ?_
  refine x_iadd (pc2 := 462) (hC.1 d) dL_law_461 rfl ?_
  refine x_scr (j := 4 * n + 1) (pc2 := 463) (hC.1 d) hC.2.1 hC.2.2.1 hC.2.2.2.1 (li_1 _) (by omega) (by have := hC.2.2.2.2; omega) dL_law_462 rfl ?_
  refine x_i2c (pc2 := 464) (hC.1 d) dL_law_463 rfl ?_
  refine z_callVi (pc2 := 467) (hC.1 d) [.int (i2cv (xs (4 * n + 1)))] [] cl_L_53 (fun q hq => ctX8_type kd0 q hq) kd0 rfl rfl rfl ⟨rfl, rfl, Nat.le_of_ble_eq_true rfl, Nat.le_of_ble_eq_true rfl⟩ (Nat.le_of_ble_eq_true rfl) ⟨Nat.le_refl _, Nat.le_refl _⟩ dL_law_464 rfl e1 ?_
  refine x_aload_n (pc2 := 468) (hC.1 d) dL_law_467 rfl rfl ?_
  refine x_aload_n (pc2 := 469) (hC.1 d) dL_law_468 rfl rfl ?_
  refine x_iload_n (pc2 := 470) (hC.1 d) dL_law_469 rfl rfl ?_
  refine x_iconst (pc2 := 471) (hC.1 d) dL_law_470 rfl ic_1 ?_
  refine x_iadd (pc2 := 472) (hC.1 d) dL_law_471 rfl ?_
  refine x_scr (j := 4 * n + 1) (pc2 := 473) (hC.1 d) hC.2.1 hC.2.2.1 hC.2.2.2.1 (li_1 _) (by omega) (by have := hC.2.2.2.2; omega) dL_law_472 rfl ?_
  refine x_i2c (pc2 := 474) (hC.1 d) dL_law_473 rfl ?_
  refine z_callVi (pc2 := 477) (hC.1 d) [.int (i2cv (xs (4 * n + 1)))] [.int r] cl_L_57 (fun q hq => ctX9_type kd235 q hq) kd235 rfl rfl rfl ⟨rfl, rfl, Nat.le_of_ble_eq_true rfl, Nat.le_of_ble_eq_true rfl⟩ (Nat.le_of_ble_eq_true rfl) ⟨Nat.le_refl _, Nat.le_refl _⟩ dL_law_474 rfl e2 ?_
  refine z_icmpeqT (tgt := 950) (hC.1 d) dL_law_477 (by decide) rfl ?_
  exact kk d M2 hd hI
set_option maxRecDepth 100000 in
set_option maxHeartbeats 4000000 in
theorem law_c10 {G : bkG} {p : Program} {l : Launch} {e : Env} {s : State} {m : MethodId} {below : List Frame} {meth : Method} {c : Code} {b Ln : Nat} {xs : Nat → Int32} {d : Drawn} {I : Nat → Mem → Prop} {M : Mem} {n : Nat} (hC : LCx G p s m meth c b Ln xs) (hn : 4 * n + 4 ≤ Ln) (hd : s.drawn.sameBut d lw_cs) (hp : PSt I n (fX8_clearText 0) (fX9_clearText 235) M) (kk : ∀ (d2 : Drawn) (M2 : Mem), s.drawn.sameBut d2 lw_cs → I (n + 1) M2 → LX G p l e s m below meth c b d2 950 [some (.ref b), some (rv G 0), some (rv G 235), some (.int (nI (4 * n))), none, none, none, none] [] M2) : LX G p l e s m below meth c b d 482 [some (.ref b), some (rv G 0), some (rv G 235), some (.int (nI (4 * n))), none, none, none, none] [] M := by
  unfold LX at *
  obtain ⟨r, M1, M2, e1, e2, hI⟩ := hp
  refine x_aload_n (pc2 := 483) (hC.1 d) dL_law_482 rfl rfl ?_
  refine z_callVi (pc2 := 486) (hC.1 d) [] [] cl_L_58 (fun q hq => ctX8_clearText kd0 q hq) kd0 rfl rfl rfl ⟨rfl, rfl, Nat.le_of_ble_eq_true rfl, Nat.le_of_ble_eq_true rfl⟩ (Nat.le_of_ble_eq_true rfl) ⟨Nat.le_refl _, Nat.le_refl _⟩ dL_law_483 rfl e1 ?_
  refine x_aload_n (pc2 := 487) (hC.1 d) dL_law_486 rfl rfl ?_
  refine z_callVi (pc2 := 490) (hC.1 d) [] [.int r] cl_L_62 (fun q hq => ctX9_clearText kd235 q hq) kd235 rfl rfl rfl ⟨rfl, rfl, Nat.le_of_ble_eq_true rfl, Nat.le_of_ble_eq_true rfl⟩ (Nat.le_of_ble_eq_true rfl) ⟨Nat.le_refl _, Nat.le_refl _⟩ dL_law_487 rfl e2 ?_
  refine z_icmpeqT (tgt := 950) (hC.1 d) dL_law_490 (by decide) rfl ?_
  exact kk d M2 hd hI
set_option maxRecDepth 100000 in
set_option maxHeartbeats 4000000 in
theorem law_c11 {G : bkG} {p : Program} {l : Launch} {e : Env} {s : State} {m : MethodId} {below : List Frame} {meth : Method} {c : Code} {b Ln : Nat} {xs : Nat → Int32} {d : Drawn} {I : Nat → Mem → Prop} {M : Mem} {n : Nat} (hC : LCx G p s m meth c b Ln xs) (hn : 4 * n + 4 ≤ Ln) (hd : s.drawn.sameBut d lw_cs) (hp : PSt I n (fX8_perform 0) (fX9_perform 235) M) (kk : ∀ (d2 : Drawn) (M2 : Mem), s.drawn.sameBut d2 lw_cs → I (n + 1) M2 → LX G p l e s m below meth c b d2 950 [some (.ref b), some (rv G 0), some (rv G 235), some (.int (nI (4 * n))), none, none, none, none] [] M2) : LX G p l e s m below meth c b d 495 [some (.ref b), some (rv G 0), some (rv G 235), some (.int (nI (4 * n))), none, none, none, none] [] M := by
  unfold LX at *
  obtain ⟨r, M1, M2, e1, e2, hI⟩ := hp
  refine x_aload_n (pc2 := 496) (hC.1 d) dL_law_495 rfl rfl ?_
  refine z_callVi (pc2 := 499) (hC.1 d) [] [] cl_L_63 (fun q hq => ctX8_perform kd0 q hq) kd0 rfl rfl rfl ⟨rfl, rfl, Nat.le_of_ble_eq_true rfl, Nat.le_of_ble_eq_true rfl⟩ (Nat.le_of_ble_eq_true rfl) ⟨Nat.le_refl _, Nat.le_refl _⟩ dL_law_496 rfl e1 ?_
  refine x_aload_n (pc2 := 500) (hC.1 d) dL_law_499 rfl rfl ?_
  refine z_callVi (pc2 := 503) (hC.1 d) [] [.int r] cl_L_66 (fun q hq => ctX9_perform kd235 q hq) kd235 rfl rfl rfl ⟨rfl, rfl, Nat.le_of_ble_eq_true rfl, Nat.le_of_ble_eq_true rfl⟩ (Nat.le_of_ble_eq_true rfl) ⟨Nat.le_refl _, Nat.le_refl _⟩ dL_law_500 rfl e2 ?_
  refine z_icmpeqT (tgt := 950) (hC.1 d) dL_law_503 (by decide) rfl ?_
  exact kk d M2 hd hI
set_option maxRecDepth 100000 in
set_option maxHeartbeats 4000000 in
theorem law_c12 {G : bkG} {p : Program} {l : Launch} {e : Env} {s : State} {m : MethodId} {below : List Frame} {meth : Method} {c : Code} {b Ln : Nat} {xs : Nat → Int32} {d : Drawn} {I : Nat → Mem → Prop} {M : Mem} {n : Nat} (hC : LCx G p s m meth c b Ln xs) (hn : 4 * n + 4 ≤ Ln) (hd : s.drawn.sameBut d lw_cs) (hp : PSt I n (fX8_undo 0) (fX9_undo 235) M) (kk : ∀ (d2 : Drawn) (M2 : Mem), s.drawn.sameBut d2 lw_cs → I (n + 1) M2 → LX G p l e s m below meth c b d2 950 [some (.ref b), some (rv G 0), some (rv G 235), some (.int (nI (4 * n))), none, none, none, none] [] M2) : LX G p l e s m below meth c b d 508 [some (.ref b), some (rv G 0), some (rv G 235), some (.int (nI (4 * n))), none, none, none, none] [] M := by
  unfold LX at *
  obtain ⟨r, M1, M2, e1, e2, hI⟩ := hp
  refine x_aload_n (pc2 := 509) (hC.1 d) dL_law_508 rfl rfl ?_
  refine z_callVi (pc2 := 512) (hC.1 d) [] [] cl_L_67 (fun q hq => ctX8_undo kd0 q hq) kd0 rfl rfl rfl ⟨rfl, rfl, Nat.le_of_ble_eq_true rfl, Nat.le_of_ble_eq_true rfl⟩ (Nat.le_of_ble_eq_true rfl) ⟨Nat.le_refl _, Nat.le_refl _⟩ dL_law_509 rfl e1 ?_
  refine x_aload_n (pc2 := 513) (hC.1 d) dL_law_512 rfl rfl ?_
  refine z_callVi (pc2 := 516) (hC.1 d) [] [.int r] cl_L_70 (fun q hq => ctX9_undo kd235 q hq) kd235 rfl rfl rfl ⟨rfl, rfl, Nat.le_of_ble_eq_true rfl, Nat.le_of_ble_eq_true rfl⟩ (Nat.le_of_ble_eq_true rfl) ⟨Nat.le_refl _, Nat.le_refl _⟩ dL_law_513 rfl e2 ?_
  refine z_icmpeqT (tgt := 950) (hC.1 d) dL_law_516 (by decide) rfl ?_
  exact kk d M2 hd hI
set_option maxRecDepth 100000 in
set_option maxHeartbeats 4000000 in
theorem law_c13 {G : bkG} {p : Program} {l : Launch} {e : Env} {s : State} {m : MethodId} {below : List Frame} {meth : Method} {c : Code} {b Ln : Nat} {xs : Nat → Int32} {d : Drawn} {I : Nat → Mem → Prop} {M : Mem} {n : Nat} (hC : LCx G p s m meth c b Ln xs) (hn : 4 * n + 4 ≤ Ln) (hd : s.drawn.sameBut d lw_cs) (hp : PSt I n (fX8_keep 0) (fX9_keep 235) M) (kk : ∀ (d2 : Drawn) (M2 : Mem), s.drawn.sameBut d2 lw_cs → I (n + 1) M2 → LX G p l e s m below meth c b d2 950 [some (.ref b), some (rv G 0), some (rv G 235), some (.int (nI (4 * n))), none, none, none, none] [] M2) : LX G p l e s m below meth c b d 521 [some (.ref b), some (rv G 0), some (rv G 235), some (.int (nI (4 * n))), none, none, none, none] [] M := by
  unfold LX at *
  obtain ⟨r, M1, M2, e1, e2, hI⟩ := hp
  refine x_aload_n (pc2 := 522) (hC.1 d) dL_law_521 rfl rfl ?_
  refine z_callVi (pc2 := 525) (hC.1 d) [] [] cl_L_71 (fun q hq => ctX8_keep kd0 q hq) kd0 rfl rfl rfl ⟨rfl, rfl, Nat.le_of_ble_eq_true rfl, Nat.le_of_ble_eq_true rfl⟩ (Nat.le_of_ble_eq_true rfl) ⟨Nat.le_refl _, Nat.le_refl _⟩ dL_law_522 rfl e1 ?_
  refine x_aload_n (pc2 := 526) (hC.1 d) dL_law_525 rfl rfl ?_
  refine z_callVi (pc2 := 529) (hC.1 d) [] [.int r] cl_L_74 (fun q hq => ctX9_keep kd235 q hq) kd235 rfl rfl rfl ⟨rfl, rfl, Nat.le_of_ble_eq_true rfl, Nat.le_of_ble_eq_true rfl⟩ (Nat.le_of_ble_eq_true rfl) ⟨Nat.le_refl _, Nat.le_refl _⟩ dL_law_526 rfl e2 ?_
  refine z_icmpeqT (tgt := 950) (hC.1 d) dL_law_529 (by decide) rfl ?_
  exact kk d M2 hd hI
set_option maxRecDepth 100000 in
set_option maxHeartbeats 4000000 in
theorem law_c14 {G : bkG} {p : Program} {l : Launch} {e : Env} {s : State} {m : MethodId} {below : List Frame} {meth : Method} {c : Code} {b Ln : Nat} {xs : Nat → Int32} {d : Drawn} {I : Nat → Mem → Prop} {M : Mem} {n : Nat} (hC : LCx G p s m meth c b Ln xs) (hn : 4 * n + 4 ≤ Ln) (hd : s.drawn.sameBut d lw_cs) (hp : PSt I n (fX8_restore 0) (fX9_restore 235) M) (kk : ∀ (d2 : Drawn) (M2 : Mem), s.drawn.sameBut d2 lw_cs → I (n + 1) M2 → LX G p l e s m below meth c b d2 950 [some (.ref b), some (rv G 0), some (rv G 235), some (.int (nI (4 * n))), none, none, none, none] [] M2) : LX G p l e s m below meth c b d 534 [some (.ref b), some (rv G 0), some (rv G 235), some (.int (nI (4 * n))), none, none, none, none] [] M := by
  unfold LX at *
  obtain ⟨r, M1, M2, e1, e2, hI⟩ := hp
  refine x_aload_n (pc2 := 535) (hC.1 d) dL_law_534 rfl rfl ?_
  refine z_callVi (pc2 := 538) (hC.1 d) [] [] cl_L_75 (fun q hq => ctX8_restore kd0 q hq) kd0 rfl rfl rfl ⟨rfl, rfl, Nat.le_of_ble_eq_true rfl, Nat.le_of_ble_eq_true rfl⟩ (Nat.le_of_ble_eq_true rfl) ⟨Nat.le_refl _, Nat.le_refl _⟩ dL_law_535 rfl e1 ?_
  refine x_aload_n (pc2 := 539) (hC.1 d) dL_law_538 rfl rfl ?_
  refine z_callVi (pc2 := 542) (hC.1 d) [] [.int r] cl_L_78 (fun q hq => ctX9_restore kd235 q hq) kd235 rfl rfl rfl ⟨rfl, rfl, Nat.le_of_ble_eq_true rfl, Nat.le_of_ble_eq_true rfl⟩ (Nat.le_of_ble_eq_true rfl) ⟨Nat.le_refl _, Nat.le_refl _⟩ dL_law_539 rfl e2 ?_
  refine z_icmpeqT (tgt := 950) (hC.1 d) dL_law_542 (by decide) rfl ?_
  exact kk d M2 hd hI
set_option maxRecDepth 100000 in
set_option maxHeartbeats 4000000 in
theorem law_c15 {G : bkG} {p : Program} {l : Launch} {e : Env} {s : State} {m : MethodId} {below : List Frame} {meth : Method} {c : Code} {b Ln : Nat} {xs : Nat → Int32} {d : Drawn} {I : Nat → Mem → Prop} {M : Mem} {n : Nat} (hC : LCx G p s m meth c b Ln xs) (hn : 4 * n + 4 ≤ Ln) (hd : s.drawn.sameBut d lw_cs) (hp : PSt I n (fX8_key 0 (xs (4 * n + 1)) (xs (4 * n + 2))) (fX9_key 235 (xs (4 * n + 1)) (xs (4 * n + 2))) M) (kk : ∀ (d2 : Drawn) (M2 : Mem), s.drawn.sameBut d2 lw_cs → I (n + 1) M2 → LX G p l e s m below meth c b d2 950 [some (.ref b), some (rv G 0), some (rv G 235), some (.int (nI (4 * n))), none, none, none, none] [] M2) : LX G p l e s m below meth c b d 547 [some (.ref b), some (rv G 0), some (rv G 235), some (.int (nI (4 * n))), none, none, none, none] [] M := by
  unfold LX at *
  obtain ⟨r, M1, M2, e1, e2, hI⟩ := hp
  refine x_aload_n (pc2 := 548) (hC.1 d) dL_law_547 rfl rfl ?_
  refine x_aload_n (pc2 := 549) (hC.1 d) dL_law_548 rfl rfl ?_
  refine x_iload_n (pc2 := 550) (hC.1 d) dL_law_549 rfl rfl ?_
  refine x_iconst (pc2 := 551) (hC.1 d) dL_law_550 rfl ic_1 ?_
  refine x_iadd (pc2 := 552) (hC.1 d) dL_law_551 rfl ?_
  refine x_scr (j := 4 * n + 1) (pc2 := 553) (hC.1 d) hC.2.1 hC.2.2.1 hC.2.2.2.1 (li_1 _) (by omega) (by have := hC.2.2.2.2; omega) dL_law_552 rfl ?_
  refine x_aload_n (pc2 := 554) (hC.1 d) dL_law_553 rfl rfl ?_
  refine x_iload_n (pc2 := 555) (hC.1 d) dL_law_554 rfl rfl ?_
  refine x_iconst (pc2 := 556) (hC.1 d) dL_law_555 rfl ic_2 ?_
  refine x_iadd (pc2 := 557) (hC.1 d) dL_law_556 rfl ?_
  refine x_scr (j := 4 * n + 2) (pc2 := 558) (hC.1 d) hC.2.1 hC.2.2.1 hC.2.2.2.1 (li_2 _) (by omega) (by have := hC.2.2.2.2; omega) dL_law_557 rfl ?_
  refine z_callVi (pc2 := 561) (hC.1 d) [.int (xs (4 * n + 1)), .int (xs (4 * n + 2))] [] cl_L_79 (fun q hq => ctX8_key kd0 q hq) kd0 rfl rfl rfl ⟨rfl, rfl, Nat.le_of_ble_eq_true rfl, Nat.le_of_ble_eq_true rfl⟩ (Nat.le_of_ble_eq_true rfl) ⟨Nat.le_refl _, Nat.le_refl _⟩ dL_law_558 rfl e1 ?_
  refine x_aload_n (pc2 := 562) (hC.1 d) dL_law_561 rfl rfl ?_
  refine x_aload_n (pc2 := 563) (hC.1 d) dL_law_562 rfl rfl ?_
  refine x_iload_n (pc2 := 564) (hC.1 d) dL_law_563 rfl rfl ?_
  refine x_iconst (pc2 := 565) (hC.1 d) dL_law_564 rfl ic_1 ?_
  refine x_iadd (pc2 := 566) (hC.1 d) dL_law_565 rfl ?_
  refine x_scr (j := 4 * n + 1) (pc2 := 567) (hC.1 d) hC.2.1 hC.2.2.1 hC.2.2.2.1 (li_1 _) (by omega) (by have := hC.2.2.2.2; omega) dL_law_566 rfl ?_
  refine x_aload_n (pc2 := 568) (hC.1 d) dL_law_567 rfl rfl ?_
  refine x_iload_n (pc2 := 569) (hC.1 d) dL_law_568 rfl rfl ?_
  refine x_iconst (pc2 := 570) (hC.1 d) dL_law_569 rfl ic_2 ?_
  refine x_iadd (pc2 := 571) (hC.1 d) dL_law_570 rfl ?_
  refine x_scr (j := 4 * n + 2) (pc2 := 572) (hC.1 d) hC.2.1 hC.2.2.1 hC.2.2.2.1 (li_2 _) (by omega) (by have := hC.2.2.2.2; omega) dL_law_571 rfl ?_
  refine z_callVi (pc2 := 575) (hC.1 d) [.int (xs (4 * n + 1)), .int (xs (4 * n + 2))] [.int r] cl_L_82 (fun q hq => ctX9_key kd235 q hq) kd235 rfl rfl rfl ⟨rfl, rfl, Nat.le_of_ble_eq_true rfl, Nat.le_of_ble_eq_true rfl⟩ (Nat.le_of_ble_eq_true rfl) ⟨Nat.le_refl _, Nat.le_refl _⟩ dL_law_572 rfl e2 ?_
  refine z_icmpeqT (tgt := 950) (hC.1 d) dL_law_575 (by decide) rfl ?_
  exact kk d M2 hd hI
set_option maxRecDepth 100000 in
set_option maxHeartbeats 4000000 in
theorem law_c16 {G : bkG} {p : Program} {l : Launch} {e : Env} {s : State} {m : MethodId} {below : List Frame} {meth : Method} {c : Code} {b Ln : Nat} {xs : Nat → Int32} {d : Drawn} {I : Nat → Mem → Prop} {M : Mem} {n : Nat} (hC : LCx G p s m meth c b Ln xs) (hn : 4 * n + 4 ≤ Ln) (hd : s.drawn.sameBut d lw_cs) (hp : PSt I n (fX8_typist 0 (xs (4 * n + 1)) (xs (4 * n + 2))) (fX9_typist 235 (xs (4 * n + 1)) (xs (4 * n + 2))) M) (kk : ∀ (d2 : Drawn) (M2 : Mem), s.drawn.sameBut d2 lw_cs → I (n + 1) M2 → LX G p l e s m below meth c b d2 950 [some (.ref b), some (rv G 0), some (rv G 235), some (.int (nI (4 * n))), none, none, none, none] [] M2) : LX G p l e s m below meth c b d 580 [some (.ref b), some (rv G 0), some (rv G 235), some (.int (nI (4 * n))), none, none, none, none] [] M := by
  unfold LX at *
  obtain ⟨r, M1, M2, e1, e2, hI⟩ := hp
  refine x_aload_n (pc2 := 581) (hC.1 d) dL_law_580 rfl rfl ?_
  refine x_aload_n (pc2 := 582) (hC.1 d) dL_law_581 rfl rfl ?_
  refine x_iload_n (pc2 := 583) (hC.1 d) dL_law_582 rfl rfl ?_
  refine x_iconst (pc2 := 584) (hC.1 d) dL_law_583 rfl ic_1 ?_
  refine x_iadd (pc2 := 585) (hC.1 d) dL_law_584 rfl ?_
  refine x_scr (j := 4 * n + 1) (pc2 := 586) (hC.1 d) hC.2.1 hC.2.2.1 hC.2.2.2.1 (li_1 _) (by omega) (by have := hC.2.2.2.2; omega) dL_law_585 rfl ?_
  refine x_aload_n (pc2 := 587) (hC.1 d) dL_law_586 rfl rfl ?_
  refine x_iload_n (pc2 := 588) (hC.1 d) dL_law_587 rfl rfl ?_
  refine x_iconst (pc2 := 589) (hC.1 d) dL_law_588 rfl ic_2 ?_
  refine x_iadd (pc2 := 590) (hC.1 d) dL_law_589 rfl ?_
  refine x_scr (j := 4 * n + 2) (pc2 := 591) (hC.1 d) hC.2.1 hC.2.2.1 hC.2.2.2.1 (li_2 _) (by omega) (by have := hC.2.2.2.2; omega) dL_law_590 rfl ?_
  refine z_callVi (pc2 := 594) (hC.1 d) [.int (xs (4 * n + 1)), .int (xs (4 * n + 2))] [] cl_L_83 (fun q hq => ctX8_typist kd0 q hq) kd0 rfl rfl rfl ⟨rfl, rfl, Nat.le_of_ble_eq_true rfl, Nat.le_of_ble_eq_true rfl⟩ (Nat.le_of_ble_eq_true rfl) ⟨Nat.le_refl _, Nat.le_refl _⟩ dL_law_591 rfl e1 ?_
  refine x_aload_n (pc2 := 595) (hC.1 d) dL_law_594 rfl rfl ?_
  refine x_aload_n (pc2 := 596) (hC.1 d) dL_law_595 rfl rfl ?_
  refine x_iload_n (pc2 := 597) (hC.1 d) dL_law_596 rfl rfl ?_
  refine x_iconst (pc2 := 598) (hC.1 d) dL_law_597 rfl ic_1 ?_
  refine x_iadd (pc2 := 599) (hC.1 d) dL_law_598 rfl ?_
  refine x_scr (j := 4 * n + 1) (pc2 := 600) (hC.1 d) hC.2.1 hC.2.2.1 hC.2.2.2.1 (li_1 _) (by omega) (by have := hC.2.2.2.2; omega) dL_law_599 rfl ?_
  refine x_aload_n (pc2 := 601) (hC.1 d) dL_law_600 rfl rfl ?_
  refine x_iload_n (pc2 := 602) (hC.1 d) dL_law_601 rfl rfl ?_
  refine x_iconst (pc2 := 603) (hC.1 d) dL_law_602 rfl ic_2 ?_
  refine x_iadd (pc2 := 604) (hC.1 d) dL_law_603 rfl ?_
  refine x_scr (j := 4 * n + 2) (pc2 := 605) (hC.1 d) hC.2.1 hC.2.2.1 hC.2.2.2.1 (li_2 _) (by omega) (by have := hC.2.2.2.2; omega) dL_law_604 rfl ?_
  refine z_callVi (pc2 := 608) (hC.1 d) [.int (xs (4 * n + 1)), .int (xs (4 * n + 2))] [.int r] cl_L_86 (fun q hq => ctX9_typist kd235 q hq) kd235 rfl rfl rfl ⟨rfl, rfl, Nat.le_of_ble_eq_true rfl, Nat.le_of_ble_eq_true rfl⟩ (Nat.le_of_ble_eq_true rfl) ⟨Nat.le_refl _, Nat.le_refl _⟩ dL_law_605 rfl e2 ?_
  refine z_icmpeqT (tgt := 950) (hC.1 d) dL_law_608 (by decide) rfl ?_
  exact kk d M2 hd hI
set_option maxRecDepth 100000 in
set_option maxHeartbeats 4000000 in
theorem law_c17 {G : bkG} {p : Program} {l : Launch} {e : Env} {s : State} {m : MethodId} {below : List Frame} {meth : Method} {c : Code} {b Ln : Nat} {xs : Nat → Int32} {d : Drawn} {I : Nat → Mem → Prop} {M : Mem} {n : Nat} (hC : LCx G p s m meth c b Ln xs) (hn : 4 * n + 4 ≤ Ln) (hd : s.drawn.sameBut d lw_cs) (hp : PSt I n (fX8_style 0 (xs (4 * n + 1)) (xs (4 * n + 2))) (fX9_style 235 (xs (4 * n + 1)) (xs (4 * n + 2))) M) (kk : ∀ (d2 : Drawn) (M2 : Mem), s.drawn.sameBut d2 lw_cs → I (n + 1) M2 → LX G p l e s m below meth c b d2 950 [some (.ref b), some (rv G 0), some (rv G 235), some (.int (nI (4 * n))), none, none, none, none] [] M2) : LX G p l e s m below meth c b d 613 [some (.ref b), some (rv G 0), some (rv G 235), some (.int (nI (4 * n))), none, none, none, none] [] M := by
  unfold LX at *
  obtain ⟨r, M1, M2, e1, e2, hI⟩ := hp
  refine x_aload_n (pc2 := 614) (hC.1 d) dL_law_613 rfl rfl ?_
  refine x_aload_n (pc2 := 615) (hC.1 d) dL_law_614 rfl rfl ?_
  refine x_iload_n (pc2 := 616) (hC.1 d) dL_law_615 rfl rfl ?_
  refine x_iconst (pc2 := 617) (hC.1 d) dL_law_616 rfl ic_1 ?_
  refine x_iadd (pc2 := 618) (hC.1 d) dL_law_617 rfl ?_
  refine x_scr (j := 4 * n + 1) (pc2 := 619) (hC.1 d) hC.2.1 hC.2.2.1 hC.2.2.2.1 (li_1 _) (by omega) (by have := hC.2.2.2.2; omega) dL_law_618 rfl ?_
  refine x_aload_n (pc2 := 620) (hC.1 d) dL_law_619 rfl rfl ?_
  refine x_iload_n (pc2 := 621) (hC.1 d) dL_law_620 rfl rfl ?_
  refine x_iconst (pc2 := 622) (hC.1 d) dL_law_621 rfl ic_2 ?_
  refine x_iadd (pc2 := 623) (hC.1 d) dL_law_622 rfl ?_
  refine x_scr (j := 4 * n + 2) (pc2 := 624) (hC.1 d) hC.2.1 hC.2.2.1 hC.2.2.2.1 (li_2 _) (by omega) (by have := hC.2.2.2.2; omega) dL_law_623 rfl ?_
  refine z_callVf (pc2 := 627) (hC.1 d) [.int (xs (4 * n + 1)), .int (xs (4 * n + 2))] [] cl_L_87 (fun q hq => ctX8_style kd0 q hq) kd0 rfl rfl rfl ⟨rfl, rfl, Nat.le_of_ble_eq_true rfl, Nat.le_of_ble_eq_true rfl⟩ (Nat.le_of_ble_eq_true rfl) ⟨Nat.le_refl _, Nat.le_refl _⟩ dL_law_624 rfl e1 ?_
  refine z_f2dst (i := 4) (pc2 := 628) (pc3 := 630) (hC.1 d) hd dL_law_627 rfl dL_law_628 rfl (by decide) (fun p1 d1 ha1 hd1 => ?_)
  refine x_lhL [some (.ref b), some (rv G 0), some (rv G 235), some (.int (nI (4 * n))), some (.double p1), none, none, none] (by intro j w hj; rcases j with _ | _ | _ | _ | _ | _ | _ | _ | j <;> simp at hj <;> subst hj <;> simp [lh_l, Value.category]) ?_
  refine x_aload_n (pc2 := 631) (hC.1 d1) dL_law_630 rfl rfl ?_
  refine x_aload_n (pc2 := 632) (hC.1 d1) dL_law_631 rfl rfl ?_
  refine x_iload_n (pc2 := 633) (hC.1 d1) dL_law_632 rfl rfl ?_
  refine x_iconst (pc2 := 634) (hC.1 d1) dL_law_633 rfl ic_1 ?_
  refine x_iadd (pc2 := 635) (hC.1 d1) dL_law_634 rfl ?_
  refine x_scr (j := 4 * n + 1) (pc2 := 636) (hC.1 d1) hC.2.1 hC.2.2.1 hC.2.2.2.1 (li_1 _) (by omega) (by have := hC.2.2.2.2; omega) dL_law_635 rfl ?_
  refine x_aload_n (pc2 := 637) (hC.1 d1) dL_law_636 rfl rfl ?_
  refine x_iload_n (pc2 := 638) (hC.1 d1) dL_law_637 rfl rfl ?_
  refine x_iconst (pc2 := 639) (hC.1 d1) dL_law_638 rfl ic_2 ?_
  refine x_iadd (pc2 := 640) (hC.1 d1) dL_law_639 rfl ?_
  refine x_scr (j := 4 * n + 2) (pc2 := 641) (hC.1 d1) hC.2.1 hC.2.2.1 hC.2.2.2.1 (li_2 _) (by omega) (by have := hC.2.2.2.2; omega) dL_law_640 rfl ?_
  refine z_callVf (pc2 := 644) (hC.1 d1) [.int (xs (4 * n + 1)), .int (xs (4 * n + 2))] [] cl_L_91 (fun q hq => ctX9_style kd235 q hq) kd235 rfl rfl rfl ⟨rfl, rfl, Nat.le_of_ble_eq_true rfl, Nat.le_of_ble_eq_true rfl⟩ (Nat.le_of_ble_eq_true rfl) ⟨Nat.le_refl _, Nat.le_refl _⟩ dL_law_641 rfl e2 ?_
  refine z_f2dst (i := 6) (pc2 := 645) (pc3 := 647) (hC.1 d1) hd1 dL_law_644 rfl dL_law_645 rfl (by decide) (fun p2 d2 ha2 hd2 => ?_)
  refine x_lhL [some (.ref b), some (rv G 0), some (rv G 235), some (.int (nI (4 * n))), some (.double p1), none, some (.double p2), none] (by intro j w hj; rcases j with _ | _ | _ | _ | _ | _ | _ | _ | j <;> simp at hj <;> subst hj <;> simp [lh_l, Value.category]) ?_
  refine x_dload (pc2 := 649) (hC.1 d2) dL_law_647 rfl rfl ?_
  refine x_dload (pc2 := 651) (hC.1 d2) dL_law_649 rfl rfl ?_
  refine x_dcmpl (pc2 := 652) (hC.1 d2) dL_law_651 rfl ?_
  rcases z_alike ha1 ha2 with ⟨hv, -⟩ | ⟨hv, hv1, hv2⟩
  · refine z_ifeqT (tgt := 673) (hC.1 d2) dL_law_652 (by decide) hv ?_
    refine x_goto (tgt := 950) (hC.1 d2) dL_law_673 (by decide) ?_
    refine x_wk [some (.ref b), some (rv G 0), some (rv G 235), some (.int (nI (4 * n))), none, none, none, none] ⟨Or.inr rfl, Or.inr rfl, Or.inr rfl, Or.inr rfl, Or.inl rfl, Or.inl rfl, Or.inl rfl, Or.inl rfl, trivial⟩ ?_
    exact kk d2 M2 hd2 hI
  · refine z_ifeqF (pc2 := 655) (tgt := 673) (hC.1 d2) dL_law_652 (by decide) hv rfl ?_
    refine x_dload (pc2 := 657) (hC.1 d2) dL_law_655 rfl rfl ?_
    refine x_dload (pc2 := 659) (hC.1 d2) dL_law_657 rfl rfl ?_
    refine x_dcmpl (pc2 := 660) (hC.1 d2) dL_law_659 rfl ?_
    refine z_ifeqF (pc2 := 663) (tgt := 671) (hC.1 d2) dL_law_660 (by decide) hv1 rfl ?_
    refine x_dload (pc2 := 665) (hC.1 d2) dL_law_663 rfl rfl ?_
    refine x_dload (pc2 := 667) (hC.1 d2) dL_law_665 rfl rfl ?_
    refine x_dcmpl (pc2 := 668) (hC.1 d2) dL_law_667 rfl ?_
    refine z_ifneT (tgt := 673) (hC.1 d2) dL_law_668 (by decide) hv2 ?_
    refine x_goto (tgt := 950) (hC.1 d2) dL_law_673 (by decide) ?_
    refine x_wk [some (.ref b), some (rv G 0), some (rv G 235), some (.int (nI (4 * n))), none, none, none, none] ⟨Or.inr rfl, Or.inr rfl, Or.inr rfl, Or.inr rfl, Or.inl rfl, Or.inl rfl, Or.inl rfl, Or.inl rfl, trivial⟩ ?_
    exact kk d2 M2 hd2 hI
set_option maxRecDepth 100000 in
set_option maxHeartbeats 4000000 in
theorem law_c18 {G : bkG} {p : Program} {l : Launch} {e : Env} {s : State} {m : MethodId} {below : List Frame} {meth : Method} {c : Code} {b Ln : Nat} {xs : Nat → Int32} {d : Drawn} {I : Nat → Mem → Prop} {M : Mem} {n : Nat} (hC : LCx G p s m meth c b Ln xs) (hn : 4 * n + 4 ≤ Ln) (hd : s.drawn.sameBut d lw_cs) (hp : PSt I n (fX8_hundredths 0 (xs (4 * n + 1)) (xs (4 * n + 2))) (fX9_hundredths 235 (xs (4 * n + 1)) (xs (4 * n + 2))) M) (kk : ∀ (d2 : Drawn) (M2 : Mem), s.drawn.sameBut d2 lw_cs → I (n + 1) M2 → LX G p l e s m below meth c b d2 950 [some (.ref b), some (rv G 0), some (rv G 235), some (.int (nI (4 * n))), none, none, none, none] [] M2) : LX G p l e s m below meth c b d 676 [some (.ref b), some (rv G 0), some (rv G 235), some (.int (nI (4 * n))), none, none, none, none] [] M := by
  unfold LX at *
  obtain ⟨r, M1, M2, e1, e2, hI⟩ := hp
  refine x_aload_n (pc2 := 677) (hC.1 d) dL_law_676 rfl rfl ?_
  refine x_aload_n (pc2 := 678) (hC.1 d) dL_law_677 rfl rfl ?_
  refine x_iload_n (pc2 := 679) (hC.1 d) dL_law_678 rfl rfl ?_
  refine x_iconst (pc2 := 680) (hC.1 d) dL_law_679 rfl ic_1 ?_
  refine x_iadd (pc2 := 681) (hC.1 d) dL_law_680 rfl ?_
  refine x_scr (j := 4 * n + 1) (pc2 := 682) (hC.1 d) hC.2.1 hC.2.2.1 hC.2.2.2.1 (li_1 _) (by omega) (by have := hC.2.2.2.2; omega) dL_law_681 rfl ?_
  refine x_aload_n (pc2 := 683) (hC.1 d) dL_law_682 rfl rfl ?_
  refine x_iload_n (pc2 := 684) (hC.1 d) dL_law_683 rfl rfl ?_
  refine x_iconst (pc2 := 685) (hC.1 d) dL_law_684 rfl ic_2 ?_
  refine x_iadd (pc2 := 686) (hC.1 d) dL_law_685 rfl ?_
  refine x_scr (j := 4 * n + 2) (pc2 := 687) (hC.1 d) hC.2.1 hC.2.2.1 hC.2.2.2.1 (li_2 _) (by omega) (by have := hC.2.2.2.2; omega) dL_law_686 rfl ?_
  refine z_callVi (pc2 := 690) (hC.1 d) [.int (xs (4 * n + 1)), .int (xs (4 * n + 2))] [] cl_L_92 (fun q hq => ctX8_hundredths kd0 q hq) kd0 rfl rfl rfl ⟨rfl, rfl, Nat.le_of_ble_eq_true rfl, Nat.le_of_ble_eq_true rfl⟩ (Nat.le_of_ble_eq_true rfl) ⟨Nat.le_refl _, Nat.le_refl _⟩ dL_law_687 rfl e1 ?_
  refine x_aload_n (pc2 := 691) (hC.1 d) dL_law_690 rfl rfl ?_
  refine x_aload_n (pc2 := 692) (hC.1 d) dL_law_691 rfl rfl ?_
  refine x_iload_n (pc2 := 693) (hC.1 d) dL_law_692 rfl rfl ?_
  refine x_iconst (pc2 := 694) (hC.1 d) dL_law_693 rfl ic_1 ?_
  refine x_iadd (pc2 := 695) (hC.1 d) dL_law_694 rfl ?_
  refine x_scr (j := 4 * n + 1) (pc2 := 696) (hC.1 d) hC.2.1 hC.2.2.1 hC.2.2.2.1 (li_1 _) (by omega) (by have := hC.2.2.2.2; omega) dL_law_695 rfl ?_
  refine x_aload_n (pc2 := 697) (hC.1 d) dL_law_696 rfl rfl ?_
  refine x_iload_n (pc2 := 698) (hC.1 d) dL_law_697 rfl rfl ?_
  refine x_iconst (pc2 := 699) (hC.1 d) dL_law_698 rfl ic_2 ?_
  refine x_iadd (pc2 := 700) (hC.1 d) dL_law_699 rfl ?_
  refine x_scr (j := 4 * n + 2) (pc2 := 701) (hC.1 d) hC.2.1 hC.2.2.1 hC.2.2.2.1 (li_2 _) (by omega) (by have := hC.2.2.2.2; omega) dL_law_700 rfl ?_
  refine z_callVi (pc2 := 704) (hC.1 d) [.int (xs (4 * n + 1)), .int (xs (4 * n + 2))] [.int r] cl_L_95 (fun q hq => ctX9_hundredths kd235 q hq) kd235 rfl rfl rfl ⟨rfl, rfl, Nat.le_of_ble_eq_true rfl, Nat.le_of_ble_eq_true rfl⟩ (Nat.le_of_ble_eq_true rfl) ⟨Nat.le_refl _, Nat.le_refl _⟩ dL_law_701 rfl e2 ?_
  refine z_icmpeqT (tgt := 950) (hC.1 d) dL_law_704 (by decide) rfl ?_
  exact kk d M2 hd hI
set_option maxRecDepth 100000 in
set_option maxHeartbeats 4000000 in
theorem law_c19 {G : bkG} {p : Program} {l : Launch} {e : Env} {s : State} {m : MethodId} {below : List Frame} {meth : Method} {c : Code} {b Ln : Nat} {xs : Nat → Int32} {d : Drawn} {I : Nat → Mem → Prop} {M : Mem} {n : Nat} (hC : LCx G p s m meth c b Ln xs) (hn : 4 * n + 4 ≤ Ln) (hd : s.drawn.sameBut d lw_cs) (hp : PSt I n (fX8_typed 0 (xs (4 * n + 1)) (xs (4 * n + 2))) (fX9_typed 235 (xs (4 * n + 1)) (xs (4 * n + 2))) M) (kk : ∀ (d2 : Drawn) (M2 : Mem), s.drawn.sameBut d2 lw_cs → I (n + 1) M2 → LX G p l e s m below meth c b d2 950 [some (.ref b), some (rv G 0), some (rv G 235), some (.int (nI (4 * n))), none, none, none, none] [] M2) : LX G p l e s m below meth c b d 709 [some (.ref b), some (rv G 0), some (rv G 235), some (.int (nI (4 * n))), none, none, none, none] [] M := by
  unfold LX at *
  obtain ⟨r, M1, M2, e1, e2, hI⟩ := hp
  refine x_aload_n (pc2 := 710) (hC.1 d) dL_law_709 rfl rfl ?_
  refine x_aload_n (pc2 := 711) (hC.1 d) dL_law_710 rfl rfl ?_
  refine x_iload_n (pc2 := 712) (hC.1 d) dL_law_711 rfl rfl ?_
  refine x_iconst (pc2 := 713) (hC.1 d) dL_law_712 rfl ic_1 ?_
  refine x_iadd (pc2 := 714) (hC.1 d) dL_law_713 rfl ?_
  refine x_scr (j := 4 * n + 1) (pc2 := 715) (hC.1 d) hC.2.1 hC.2.2.1 hC.2.2.2.1 (li_1 _) (by omega) (by have := hC.2.2.2.2; omega) dL_law_714 rfl ?_
  refine x_aload_n (pc2 := 716) (hC.1 d) dL_law_715 rfl rfl ?_
  refine x_iload_n (pc2 := 717) (hC.1 d) dL_law_716 rfl rfl ?_
  refine x_iconst (pc2 := 718) (hC.1 d) dL_law_717 rfl ic_2 ?_
  refine x_iadd (pc2 := 719) (hC.1 d) dL_law_718 rfl ?_
  refine x_scr (j := 4 * n + 2) (pc2 := 720) (hC.1 d) hC.2.1 hC.2.2.1 hC.2.2.2.1 (li_2 _) (by omega) (by have := hC.2.2.2.2; omega) dL_law_719 rfl ?_
  refine z_callVi (pc2 := 723) (hC.1 d) [.int (xs (4 * n + 1)), .int (xs (4 * n + 2))] [] cl_L_96 (fun q hq => ctX8_typed kd0 q hq) kd0 rfl rfl rfl ⟨rfl, rfl, Nat.le_of_ble_eq_true rfl, Nat.le_of_ble_eq_true rfl⟩ (Nat.le_of_ble_eq_true rfl) ⟨Nat.le_refl _, Nat.le_refl _⟩ dL_law_720 rfl e1 ?_
  refine x_aload_n (pc2 := 724) (hC.1 d) dL_law_723 rfl rfl ?_
  refine x_aload_n (pc2 := 725) (hC.1 d) dL_law_724 rfl rfl ?_
  refine x_iload_n (pc2 := 726) (hC.1 d) dL_law_725 rfl rfl ?_
  refine x_iconst (pc2 := 727) (hC.1 d) dL_law_726 rfl ic_1 ?_
  refine x_iadd (pc2 := 728) (hC.1 d) dL_law_727 rfl ?_
  refine x_scr (j := 4 * n + 1) (pc2 := 729) (hC.1 d) hC.2.1 hC.2.2.1 hC.2.2.2.1 (li_1 _) (by omega) (by have := hC.2.2.2.2; omega) dL_law_728 rfl ?_
  refine x_aload_n (pc2 := 730) (hC.1 d) dL_law_729 rfl rfl ?_
  refine x_iload_n (pc2 := 731) (hC.1 d) dL_law_730 rfl rfl ?_
  refine x_iconst (pc2 := 732) (hC.1 d) dL_law_731 rfl ic_2 ?_
  refine x_iadd (pc2 := 733) (hC.1 d) dL_law_732 rfl ?_
  refine x_scr (j := 4 * n + 2) (pc2 := 734) (hC.1 d) hC.2.1 hC.2.2.1 hC.2.2.2.1 (li_2 _) (by omega) (by have := hC.2.2.2.2; omega) dL_law_733 rfl ?_
  refine z_callVi (pc2 := 737) (hC.1 d) [.int (xs (4 * n + 1)), .int (xs (4 * n + 2))] [.int r] cl_L_99 (fun q hq => ctX9_typed kd235 q hq) kd235 rfl rfl rfl ⟨rfl, rfl, Nat.le_of_ble_eq_true rfl, Nat.le_of_ble_eq_true rfl⟩ (Nat.le_of_ble_eq_true rfl) ⟨Nat.le_refl _, Nat.le_refl _⟩ dL_law_734 rfl e2 ?_
  refine z_icmpeqT (tgt := 950) (hC.1 d) dL_law_737 (by decide) rfl ?_
  exact kk d M2 hd hI
set_option maxRecDepth 100000 in
set_option maxHeartbeats 4000000 in
theorem law_c20 {G : bkG} {p : Program} {l : Launch} {e : Env} {s : State} {m : MethodId} {below : List Frame} {meth : Method} {c : Code} {b Ln : Nat} {xs : Nat → Int32} {d : Drawn} {I : Nat → Mem → Prop} {M : Mem} {n : Nat} (hC : LCx G p s m meth c b Ln xs) (hn : 4 * n + 4 ≤ Ln) (hd : s.drawn.sameBut d lw_cs) (hp : PSt I n (fX8_stroke 0 (xs (4 * n + 1)) (xs (4 * n + 2))) (fX9_stroke 235 (xs (4 * n + 1)) (xs (4 * n + 2))) M) (kk : ∀ (d2 : Drawn) (M2 : Mem), s.drawn.sameBut d2 lw_cs → I (n + 1) M2 → LX G p l e s m below meth c b d2 950 [some (.ref b), some (rv G 0), some (rv G 235), some (.int (nI (4 * n))), none, none, none, none] [] M2) : LX G p l e s m below meth c b d 742 [some (.ref b), some (rv G 0), some (rv G 235), some (.int (nI (4 * n))), none, none, none, none] [] M := by
  unfold LX at *
  obtain ⟨r, M1, M2, e1, e2, hI⟩ := hp
  refine x_aload_n (pc2 := 743) (hC.1 d) dL_law_742 rfl rfl ?_
  refine x_aload_n (pc2 := 744) (hC.1 d) dL_law_743 rfl rfl ?_
  refine x_iload_n (pc2 := 745) (hC.1 d) dL_law_744 rfl rfl ?_
  refine x_iconst (pc2 := 746) (hC.1 d) dL_law_745 rfl ic_1 ?_
  refine x_iadd (pc2 := 747) (hC.1 d) dL_law_746 rfl ?_
  refine x_scr (j := 4 * n + 1) (pc2 := 748) (hC.1 d) hC.2.1 hC.2.2.1 hC.2.2.2.1 (li_1 _) (by omega) (by have := hC.2.2.2.2; omega) dL_law_747 rfl ?_
  refine x_aload_n (pc2 := 749) (hC.1 d) dL_law_748 rfl rfl ?_
  refine x_iload_n (pc2 := 750) (hC.1 d) dL_law_749 rfl rfl ?_
  refine x_iconst (pc2 := 751) (hC.1 d) dL_law_750 rfl ic_2 ?_
  refine x_iadd (pc2 := 752) (hC.1 d) dL_law_751 rfl ?_
  refine x_scr (j := 4 * n + 2) (pc2 := 753) (hC.1 d) hC.2.1 hC.2.2.1 hC.2.2.2.1 (li_2 _) (by omega) (by have := hC.2.2.2.2; omega) dL_law_752 rfl ?_
  refine z_callVi (pc2 := 756) (hC.1 d) [.int (xs (4 * n + 1)), .int (xs (4 * n + 2))] [] cl_L_100 (fun q hq => ctX8_stroke kd0 q hq) kd0 rfl rfl rfl ⟨rfl, rfl, Nat.le_of_ble_eq_true rfl, Nat.le_of_ble_eq_true rfl⟩ (Nat.le_of_ble_eq_true rfl) ⟨Nat.le_refl _, Nat.le_refl _⟩ dL_law_753 rfl e1 ?_
  refine x_aload_n (pc2 := 757) (hC.1 d) dL_law_756 rfl rfl ?_
  refine x_aload_n (pc2 := 758) (hC.1 d) dL_law_757 rfl rfl ?_
  refine x_iload_n (pc2 := 759) (hC.1 d) dL_law_758 rfl rfl ?_
  refine x_iconst (pc2 := 760) (hC.1 d) dL_law_759 rfl ic_1 ?_
  refine x_iadd (pc2 := 761) (hC.1 d) dL_law_760 rfl ?_
  refine x_scr (j := 4 * n + 1) (pc2 := 762) (hC.1 d) hC.2.1 hC.2.2.1 hC.2.2.2.1 (li_1 _) (by omega) (by have := hC.2.2.2.2; omega) dL_law_761 rfl ?_
  refine x_aload_n (pc2 := 763) (hC.1 d) dL_law_762 rfl rfl ?_
  refine x_iload_n (pc2 := 764) (hC.1 d) dL_law_763 rfl rfl ?_
  refine x_iconst (pc2 := 765) (hC.1 d) dL_law_764 rfl ic_2 ?_
  refine x_iadd (pc2 := 766) (hC.1 d) dL_law_765 rfl ?_
  refine x_scr (j := 4 * n + 2) (pc2 := 767) (hC.1 d) hC.2.1 hC.2.2.1 hC.2.2.2.1 (li_2 _) (by omega) (by have := hC.2.2.2.2; omega) dL_law_766 rfl ?_
  refine z_callVi (pc2 := 770) (hC.1 d) [.int (xs (4 * n + 1)), .int (xs (4 * n + 2))] [.int r] cl_L_103 (fun q hq => ctX9_stroke kd235 q hq) kd235 rfl rfl rfl ⟨rfl, rfl, Nat.le_of_ble_eq_true rfl, Nat.le_of_ble_eq_true rfl⟩ (Nat.le_of_ble_eq_true rfl) ⟨Nat.le_refl _, Nat.le_refl _⟩ dL_law_767 rfl e2 ?_
  refine z_icmpeqT (tgt := 950) (hC.1 d) dL_law_770 (by decide) rfl ?_
  exact kk d M2 hd hI
set_option maxRecDepth 100000 in
set_option maxHeartbeats 4000000 in
theorem law_c21 {G : bkG} {p : Program} {l : Launch} {e : Env} {s : State} {m : MethodId} {below : List Frame} {meth : Method} {c : Code} {b Ln : Nat} {xs : Nat → Int32} {d : Drawn} {I : Nat → Mem → Prop} {M : Mem} {n : Nat} (hC : LCx G p s m meth c b Ln xs) (hn : 4 * n + 4 ≤ Ln) (hd : s.drawn.sameBut d lw_cs) (hp : PSt I n (fX8_dispute 0 (xs (4 * n + 1)) (xs (4 * n + 2))) (fX9_dispute 235 (xs (4 * n + 1)) (xs (4 * n + 2))) M) (kk : ∀ (d2 : Drawn) (M2 : Mem), s.drawn.sameBut d2 lw_cs → I (n + 1) M2 → LX G p l e s m below meth c b d2 950 [some (.ref b), some (rv G 0), some (rv G 235), some (.int (nI (4 * n))), none, none, none, none] [] M2) : LX G p l e s m below meth c b d 775 [some (.ref b), some (rv G 0), some (rv G 235), some (.int (nI (4 * n))), none, none, none, none] [] M := by
  unfold LX at *
  obtain ⟨r, M1, M2, e1, e2, hI⟩ := hp
  refine x_aload_n (pc2 := 776) (hC.1 d) dL_law_775 rfl rfl ?_
  refine x_aload_n (pc2 := 777) (hC.1 d) dL_law_776 rfl rfl ?_
  refine x_iload_n (pc2 := 778) (hC.1 d) dL_law_777 rfl rfl ?_
  refine x_iconst (pc2 := 779) (hC.1 d) dL_law_778 rfl ic_1 ?_
  refine x_iadd (pc2 := 780) (hC.1 d) dL_law_779 rfl ?_
  refine x_scr (j := 4 * n + 1) (pc2 := 781) (hC.1 d) hC.2.1 hC.2.2.1 hC.2.2.2.1 (li_1 _) (by omega) (by have := hC.2.2.2.2; omega) dL_law_780 rfl ?_
  refine x_aload_n (pc2 := 782) (hC.1 d) dL_law_781 rfl rfl ?_
  refine x_iload_n (pc2 := 783) (hC.1 d) dL_law_782 rfl rfl ?_
  refine x_iconst (pc2 := 784) (hC.1 d) dL_law_783 rfl ic_2 ?_
  refine x_iadd (pc2 := 785) (hC.1 d) dL_law_784 rfl ?_
  refine x_scr (j := 4 * n + 2) (pc2 := 786) (hC.1 d) hC.2.1 hC.2.2.1 hC.2.2.2.1 (li_2 _) (by omega) (by have := hC.2.2.2.2; omega) dL_law_785 rfl ?_
  refine z_callVi (pc2 := 789) (hC.1 d) [.int (xs (4 * n + 1)), .int (xs (4 * n + 2))] [] cl_L_104 (fun q hq => ctX8_dispute kd0 q hq) kd0 rfl rfl rfl ⟨rfl, rfl, Nat.le_of_ble_eq_true rfl, Nat.le_of_ble_eq_true rfl⟩ (Nat.le_of_ble_eq_true rfl) ⟨Nat.le_refl _, Nat.le_refl _⟩ dL_law_786 rfl e1 ?_
  refine x_aload_n (pc2 := 790) (hC.1 d) dL_law_789 rfl rfl ?_
  refine x_aload_n (pc2 := 791) (hC.1 d) dL_law_790 rfl rfl ?_
  refine x_iload_n (pc2 := 792) (hC.1 d) dL_law_791 rfl rfl ?_
  refine x_iconst (pc2 := 793) (hC.1 d) dL_law_792 rfl ic_1 ?_
  refine x_iadd (pc2 := 794) (hC.1 d) dL_law_793 rfl ?_
  refine x_scr (j := 4 * n + 1) (pc2 := 795) (hC.1 d) hC.2.1 hC.2.2.1 hC.2.2.2.1 (li_1 _) (by omega) (by have := hC.2.2.2.2; omega) dL_law_794 rfl ?_
  refine x_aload_n (pc2 := 796) (hC.1 d) dL_law_795 rfl rfl ?_
  refine x_iload_n (pc2 := 797) (hC.1 d) dL_law_796 rfl rfl ?_
  refine x_iconst (pc2 := 798) (hC.1 d) dL_law_797 rfl ic_2 ?_
  refine x_iadd (pc2 := 799) (hC.1 d) dL_law_798 rfl ?_
  refine x_scr (j := 4 * n + 2) (pc2 := 800) (hC.1 d) hC.2.1 hC.2.2.1 hC.2.2.2.1 (li_2 _) (by omega) (by have := hC.2.2.2.2; omega) dL_law_799 rfl ?_
  refine z_callVi (pc2 := 803) (hC.1 d) [.int (xs (4 * n + 1)), .int (xs (4 * n + 2))] [.int r] cl_L_107 (fun q hq => ctX9_dispute kd235 q hq) kd235 rfl rfl rfl ⟨rfl, rfl, Nat.le_of_ble_eq_true rfl, Nat.le_of_ble_eq_true rfl⟩ (Nat.le_of_ble_eq_true rfl) ⟨Nat.le_refl _, Nat.le_refl _⟩ dL_law_800 rfl e2 ?_
  refine z_icmpeqT (tgt := 950) (hC.1 d) dL_law_803 (by decide) rfl ?_
  exact kk d M2 hd hI
set_option maxRecDepth 100000 in
set_option maxHeartbeats 4000000 in
theorem law_c22 {G : bkG} {p : Program} {l : Launch} {e : Env} {s : State} {m : MethodId} {below : List Frame} {meth : Method} {c : Code} {b Ln : Nat} {xs : Nat → Int32} {d : Drawn} {I : Nat → Mem → Prop} {M : Mem} {n : Nat} (hC : LCx G p s m meth c b Ln xs) (hn : 4 * n + 4 ≤ Ln) (hd : s.drawn.sameBut d lw_cs) (hp : PSt I n (fX8_distance 0 (xs (4 * n + 1)) (xs (4 * n + 2)) (xs (4 * n + 3))) (fX9_distance 235 (xs (4 * n + 1)) (xs (4 * n + 2)) (xs (4 * n + 3))) M) (kk : ∀ (d2 : Drawn) (M2 : Mem), s.drawn.sameBut d2 lw_cs → I (n + 1) M2 → LX G p l e s m below meth c b d2 950 [some (.ref b), some (rv G 0), some (rv G 235), some (.int (nI (4 * n))), none, none, none, none] [] M2) : LX G p l e s m below meth c b d 808 [some (.ref b), some (rv G 0), some (rv G 235), some (.int (nI (4 * n))), none, none, none, none] [] M := by
  unfold LX at *
  obtain ⟨r, M1, M2, e1, e2, hI⟩ := hp
  refine x_aload_n (pc2 := 809) (hC.1 d) dL_law_808 rfl rfl ?_
  refine x_aload_n (pc2 := 810) (hC.1 d) dL_law_809 rfl rfl ?_
  refine x_iload_n (pc2 := 811) (hC.1 d) dL_law_810 rfl rfl ?_
  refine x_iconst (pc2 := 812) (hC.1 d) dL_law_811 rfl ic_1 ?_
  refine x_iadd (pc2 := 813) (hC.1 d) dL_law_812 rfl ?_
  refine x_scr (j := 4 * n + 1) (pc2 := 814) (hC.1 d) hC.2.1 hC.2.2.1 hC.2.2.2.1 (li_1 _) (by omega) (by have := hC.2.2.2.2; omega) dL_law_813 rfl ?_
  refine x_aload_n (pc2 := 815) (hC.1 d) dL_law_814 rfl rfl ?_
  refine x_iload_n (pc2 := 816) (hC.1 d) dL_law_815 rfl rfl ?_
  refine x_iconst (pc2 := 817) (hC.1 d) dL_law_816 rfl ic_2 ?_
  refine x_iadd (pc2 := 818) (hC.1 d) dL_law_817 rfl ?_
  refine x_scr (j := 4 * n + 2) (pc2 := 819) (hC.1 d) hC.2.1 hC.2.2.1 hC.2.2.2.1 (li_2 _) (by omega) (by have := hC.2.2.2.2; omega) dL_law_818 rfl ?_
  refine x_aload_n (pc2 := 820) (hC.1 d) dL_law_819 rfl rfl ?_
  refine x_iload_n (pc2 := 821) (hC.1 d) dL_law_820 rfl rfl ?_
  refine x_iconst (pc2 := 822) (hC.1 d) dL_law_821 rfl ic_3 ?_
  refine x_iadd (pc2 := 823) (hC.1 d) dL_law_822 rfl ?_
  refine x_scr (j := 4 * n + 3) (pc2 := 824) (hC.1 d) hC.2.1 hC.2.2.1 hC.2.2.2.1 (li_3 _) (by omega) (by have := hC.2.2.2.2; omega) dL_law_823 rfl ?_
  refine z_callVf (pc2 := 827) (hC.1 d) [.int (xs (4 * n + 1)), .int (xs (4 * n + 2)), .int (xs (4 * n + 3))] [] cl_L_108 (fun q hq => ctX8_distance kd0 q hq) kd0 rfl rfl rfl ⟨rfl, rfl, Nat.le_of_ble_eq_true rfl, Nat.le_of_ble_eq_true rfl⟩ (Nat.le_of_ble_eq_true rfl) ⟨Nat.le_refl _, Nat.le_refl _⟩ dL_law_824 rfl e1 ?_
  refine z_f2dst (i := 4) (pc2 := 828) (pc3 := 830) (hC.1 d) hd dL_law_827 rfl dL_law_828 rfl (by decide) (fun p1 d1 ha1 hd1 => ?_)
  refine x_lhL [some (.ref b), some (rv G 0), some (rv G 235), some (.int (nI (4 * n))), some (.double p1), none, none, none] (by intro j w hj; rcases j with _ | _ | _ | _ | _ | _ | _ | _ | j <;> simp at hj <;> subst hj <;> simp [lh_l, Value.category]) ?_
  refine x_aload_n (pc2 := 831) (hC.1 d1) dL_law_830 rfl rfl ?_
  refine x_aload_n (pc2 := 832) (hC.1 d1) dL_law_831 rfl rfl ?_
  refine x_iload_n (pc2 := 833) (hC.1 d1) dL_law_832 rfl rfl ?_
  refine x_iconst (pc2 := 834) (hC.1 d1) dL_law_833 rfl ic_1 ?_
  refine x_iadd (pc2 := 835) (hC.1 d1) dL_law_834 rfl ?_
  refine x_scr (j := 4 * n + 1) (pc2 := 836) (hC.1 d1) hC.2.1 hC.2.2.1 hC.2.2.2.1 (li_1 _) (by omega) (by have := hC.2.2.2.2; omega) dL_law_835 rfl ?_
  refine x_aload_n (pc2 := 837) (hC.1 d1) dL_law_836 rfl rfl ?_
  refine x_iload_n (pc2 := 838) (hC.1 d1) dL_law_837 rfl rfl ?_
  refine x_iconst (pc2 := 839) (hC.1 d1) dL_law_838 rfl ic_2 ?_
  refine x_iadd (pc2 := 840) (hC.1 d1) dL_law_839 rfl ?_
  refine x_scr (j := 4 * n + 2) (pc2 := 841) (hC.1 d1) hC.2.1 hC.2.2.1 hC.2.2.2.1 (li_2 _) (by omega) (by have := hC.2.2.2.2; omega) dL_law_840 rfl ?_
  refine x_aload_n (pc2 := 842) (hC.1 d1) dL_law_841 rfl rfl ?_
  refine x_iload_n (pc2 := 843) (hC.1 d1) dL_law_842 rfl rfl ?_
  refine x_iconst (pc2 := 844) (hC.1 d1) dL_law_843 rfl ic_3 ?_
  refine x_iadd (pc2 := 845) (hC.1 d1) dL_law_844 rfl ?_
  refine x_scr (j := 4 * n + 3) (pc2 := 846) (hC.1 d1) hC.2.1 hC.2.2.1 hC.2.2.2.1 (li_3 _) (by omega) (by have := hC.2.2.2.2; omega) dL_law_845 rfl ?_
  refine z_callVf (pc2 := 849) (hC.1 d1) [.int (xs (4 * n + 1)), .int (xs (4 * n + 2)), .int (xs (4 * n + 3))] [] cl_L_112 (fun q hq => ctX9_distance kd235 q hq) kd235 rfl rfl rfl ⟨rfl, rfl, Nat.le_of_ble_eq_true rfl, Nat.le_of_ble_eq_true rfl⟩ (Nat.le_of_ble_eq_true rfl) ⟨Nat.le_refl _, Nat.le_refl _⟩ dL_law_846 rfl e2 ?_
  refine z_f2dst (i := 6) (pc2 := 850) (pc3 := 852) (hC.1 d1) hd1 dL_law_849 rfl dL_law_850 rfl (by decide) (fun p2 d2 ha2 hd2 => ?_)
  refine x_lhL [some (.ref b), some (rv G 0), some (rv G 235), some (.int (nI (4 * n))), some (.double p1), none, some (.double p2), none] (by intro j w hj; rcases j with _ | _ | _ | _ | _ | _ | _ | _ | j <;> simp at hj <;> subst hj <;> simp [lh_l, Value.category]) ?_
  refine x_dload (pc2 := 854) (hC.1 d2) dL_law_852 rfl rfl ?_
  refine x_dload (pc2 := 856) (hC.1 d2) dL_law_854 rfl rfl ?_
  refine x_dcmpl (pc2 := 857) (hC.1 d2) dL_law_856 rfl ?_
  rcases z_alike ha1 ha2 with ⟨hv, -⟩ | ⟨hv, hv1, hv2⟩
  · refine z_ifeqT (tgt := 878) (hC.1 d2) dL_law_857 (by decide) hv ?_
    refine x_goto (tgt := 950) (hC.1 d2) dL_law_878 (by decide) ?_
    refine x_wk [some (.ref b), some (rv G 0), some (rv G 235), some (.int (nI (4 * n))), none, none, none, none] ⟨Or.inr rfl, Or.inr rfl, Or.inr rfl, Or.inr rfl, Or.inl rfl, Or.inl rfl, Or.inl rfl, Or.inl rfl, trivial⟩ ?_
    exact kk d2 M2 hd2 hI
  · refine z_ifeqF (pc2 := 860) (tgt := 878) (hC.1 d2) dL_law_857 (by decide) hv rfl ?_
    refine x_dload (pc2 := 862) (hC.1 d2) dL_law_860 rfl rfl ?_
    refine x_dload (pc2 := 864) (hC.1 d2) dL_law_862 rfl rfl ?_
    refine x_dcmpl (pc2 := 865) (hC.1 d2) dL_law_864 rfl ?_
    refine z_ifeqF (pc2 := 868) (tgt := 876) (hC.1 d2) dL_law_865 (by decide) hv1 rfl ?_
    refine x_dload (pc2 := 870) (hC.1 d2) dL_law_868 rfl rfl ?_
    refine x_dload (pc2 := 872) (hC.1 d2) dL_law_870 rfl rfl ?_
    refine x_dcmpl (pc2 := 873) (hC.1 d2) dL_law_872 rfl ?_
    refine z_ifneT (tgt := 878) (hC.1 d2) dL_law_873 (by decide) hv2 ?_
    refine x_goto (tgt := 950) (hC.1 d2) dL_law_878 (by decide) ?_
    refine x_wk [some (.ref b), some (rv G 0), some (rv G 235), some (.int (nI (4 * n))), none, none, none, none] ⟨Or.inr rfl, Or.inr rfl, Or.inr rfl, Or.inr rfl, Or.inl rfl, Or.inl rfl, Or.inl rfl, Or.inl rfl, trivial⟩ ?_
    exact kk d2 M2 hd2 hI
set_option maxRecDepth 100000 in
set_option maxHeartbeats 4000000 in
theorem law_c23 {G : bkG} {p : Program} {l : Launch} {e : Env} {s : State} {m : MethodId} {below : List Frame} {meth : Method} {c : Code} {b Ln : Nat} {xs : Nat → Int32} {d : Drawn} {I : Nat → Mem → Prop} {M : Mem} {n : Nat} (hC : LCx G p s m meth c b Ln xs) (hn : 4 * n + 4 ≤ Ln) (hd : s.drawn.sameBut d lw_cs) (hp : PSt I n (fX8_verdict 0 (xs (4 * n + 1))) (fX9_verdict 235 (xs (4 * n + 1))) M) (kk : ∀ (d2 : Drawn) (M2 : Mem), s.drawn.sameBut d2 lw_cs → I (n + 1) M2 → LX G p l e s m below meth c b d2 950 [some (.ref b), some (rv G 0), some (rv G 235), some (.int (nI (4 * n))), none, none, none, none] [] M2) : LX G p l e s m below meth c b d 881 [some (.ref b), some (rv G 0), some (rv G 235), some (.int (nI (4 * n))), none, none, none, none] [] M := by
  unfold LX at *
  obtain ⟨r, M1, M2, e1, e2, hI⟩ := hp
  refine x_aload_n (pc2 := 882) (hC.1 d) dL_law_881 rfl rfl ?_
  refine x_aload_n (pc2 := 883) (hC.1 d) dL_law_882 rfl rfl ?_
  refine x_iload_n (pc2 := 884) (hC.1 d) dL_law_883 rfl rfl ?_
  refine x_iconst (pc2 := 885) (hC.1 d) dL_law_884 rfl ic_1 ?_
  refine x_iadd (pc2 := 886) (hC.1 d) dL_law_885 rfl ?_
  refine x_scr (j := 4 * n + 1) (pc2 := 887) (hC.1 d) hC.2.1 hC.2.2.1 hC.2.2.2.1 (li_1 _) (by omega) (by have := hC.2.2.2.2; omega) dL_law_886 rfl ?_
  refine z_callVi (pc2 := 890) (hC.1 d) [.int (xs (4 * n + 1))] [] cl_L_113 (fun q hq => ctX8_verdict kd0 q hq) kd0 rfl rfl rfl ⟨rfl, rfl, Nat.le_of_ble_eq_true rfl, Nat.le_of_ble_eq_true rfl⟩ (Nat.le_of_ble_eq_true rfl) ⟨Nat.le_refl _, Nat.le_refl _⟩ dL_law_887 rfl e1 ?_
  refine x_aload_n (pc2 := 891) (hC.1 d) dL_law_890 rfl rfl ?_
  refine x_aload_n (pc2 := 892) (hC.1 d) dL_law_891 rfl rfl ?_
  refine x_iload_n (pc2 := 893) (hC.1 d) dL_law_892 rfl rfl ?_
  refine x_iconst (pc2 := 894) (hC.1 d) dL_law_893 rfl ic_1 ?_
  refine x_iadd (pc2 := 895) (hC.1 d) dL_law_894 rfl ?_
  refine x_scr (j := 4 * n + 1) (pc2 := 896) (hC.1 d) hC.2.1 hC.2.2.1 hC.2.2.2.1 (li_1 _) (by omega) (by have := hC.2.2.2.2; omega) dL_law_895 rfl ?_
  refine z_callVi (pc2 := 899) (hC.1 d) [.int (xs (4 * n + 1))] [.int r] cl_L_116 (fun q hq => ctX9_verdict kd235 q hq) kd235 rfl rfl rfl ⟨rfl, rfl, Nat.le_of_ble_eq_true rfl, Nat.le_of_ble_eq_true rfl⟩ (Nat.le_of_ble_eq_true rfl) ⟨Nat.le_refl _, Nat.le_refl _⟩ dL_law_896 rfl e2 ?_
  refine z_icmpeqT (tgt := 950) (hC.1 d) dL_law_899 (by decide) rfl ?_
  exact kk d M2 hd hI
set_option maxRecDepth 100000 in
set_option maxHeartbeats 4000000 in
theorem law_c24 {G : bkG} {p : Program} {l : Launch} {e : Env} {s : State} {m : MethodId} {below : List Frame} {meth : Method} {c : Code} {b Ln : Nat} {xs : Nat → Int32} {d : Drawn} {I : Nat → Mem → Prop} {M : Mem} {n : Nat} (hC : LCx G p s m meth c b Ln xs) (hn : 4 * n + 4 ≤ Ln) (hd : s.drawn.sameBut d lw_cs) (hp : PSt I n (fX8_ghostsBy 0 (xs (4 * n + 1))) (fX9_ghostsBy 235 (xs (4 * n + 1))) M) (kk : ∀ (d2 : Drawn) (M2 : Mem), s.drawn.sameBut d2 lw_cs → I (n + 1) M2 → LX G p l e s m below meth c b d2 950 [some (.ref b), some (rv G 0), some (rv G 235), some (.int (nI (4 * n))), none, none, none, none] [] M2) : LX G p l e s m below meth c b d 904 [some (.ref b), some (rv G 0), some (rv G 235), some (.int (nI (4 * n))), none, none, none, none] [] M := by
  unfold LX at *
  obtain ⟨r, M1, M2, e1, e2, hI⟩ := hp
  refine x_aload_n (pc2 := 905) (hC.1 d) dL_law_904 rfl rfl ?_
  refine x_aload_n (pc2 := 906) (hC.1 d) dL_law_905 rfl rfl ?_
  refine x_iload_n (pc2 := 907) (hC.1 d) dL_law_906 rfl rfl ?_
  refine x_iconst (pc2 := 908) (hC.1 d) dL_law_907 rfl ic_1 ?_
  refine x_iadd (pc2 := 909) (hC.1 d) dL_law_908 rfl ?_
  refine x_scr (j := 4 * n + 1) (pc2 := 910) (hC.1 d) hC.2.1 hC.2.2.1 hC.2.2.2.1 (li_1 _) (by omega) (by have := hC.2.2.2.2; omega) dL_law_909 rfl ?_
  refine z_callVi (pc2 := 913) (hC.1 d) [.int (xs (4 * n + 1))] [] cl_L_117 (fun q hq => ctX8_ghostsBy kd0 q hq) kd0 rfl rfl rfl ⟨rfl, rfl, Nat.le_of_ble_eq_true rfl, Nat.le_of_ble_eq_true rfl⟩ (Nat.le_of_ble_eq_true rfl) ⟨Nat.le_refl _, Nat.le_refl _⟩ dL_law_910 rfl e1 ?_
  refine x_aload_n (pc2 := 914) (hC.1 d) dL_law_913 rfl rfl ?_
  refine x_aload_n (pc2 := 915) (hC.1 d) dL_law_914 rfl rfl ?_
  refine x_iload_n (pc2 := 916) (hC.1 d) dL_law_915 rfl rfl ?_
  refine x_iconst (pc2 := 917) (hC.1 d) dL_law_916 rfl ic_1 ?_
  refine x_iadd (pc2 := 918) (hC.1 d) dL_law_917 rfl ?_
  refine x_scr (j := 4 * n + 1) (pc2 := 919) (hC.1 d) hC.2.1 hC.2.2.1 hC.2.2.2.1 (li_1 _) (by omega) (by have := hC.2.2.2.2; omega) dL_law_918 rfl ?_
  refine z_callVi (pc2 := 922) (hC.1 d) [.int (xs (4 * n + 1))] [.int r] cl_L_120 (fun q hq => ctX9_ghostsBy kd235 q hq) kd235 rfl rfl rfl ⟨rfl, rfl, Nat.le_of_ble_eq_true rfl, Nat.le_of_ble_eq_true rfl⟩ (Nat.le_of_ble_eq_true rfl) ⟨Nat.le_refl _, Nat.le_refl _⟩ dL_law_919 rfl e2 ?_
  refine z_icmpeqT (tgt := 950) (hC.1 d) dL_law_922 (by decide) rfl ?_
  exact kk d M2 hd hI
set_option maxRecDepth 100000 in
set_option maxHeartbeats 4000000 in
theorem law_c25 {G : bkG} {p : Program} {l : Launch} {e : Env} {s : State} {m : MethodId} {below : List Frame} {meth : Method} {c : Code} {b Ln : Nat} {xs : Nat → Int32} {d : Drawn} {I : Nat → Mem → Prop} {M : Mem} {n : Nat} (hC : LCx G p s m meth c b Ln xs) (hn : 4 * n + 4 ≤ Ln) (hd : s.drawn.sameBut d lw_cs) (hp : PSt I n (fX8_count 0 (xs (4 * n + 1))) (fX9_count 235 (xs (4 * n + 1))) M) (kk : ∀ (d2 : Drawn) (M2 : Mem), s.drawn.sameBut d2 lw_cs → I (n + 1) M2 → LX G p l e s m below meth c b d2 950 [some (.ref b), some (rv G 0), some (rv G 235), some (.int (nI (4 * n))), none, none, none, none] [] M2) : LX G p l e s m below meth c b d 927 [some (.ref b), some (rv G 0), some (rv G 235), some (.int (nI (4 * n))), none, none, none, none] [] M := by
  unfold LX at *
  obtain ⟨r, M1, M2, e1, e2, hI⟩ := hp
  refine x_aload_n (pc2 := 928) (hC.1 d) dL_law_927 rfl rfl ?_
  refine x_aload_n (pc2 := 929) (hC.1 d) dL_law_928 rfl rfl ?_
  refine x_iload_n (pc2 := 930) (hC.1 d) dL_law_929 rfl rfl ?_
  refine x_iconst (pc2 := 931) (hC.1 d) dL_law_930 rfl ic_1 ?_
  refine x_iadd (pc2 := 932) (hC.1 d) dL_law_931 rfl ?_
  refine x_scr (j := 4 * n + 1) (pc2 := 933) (hC.1 d) hC.2.1 hC.2.2.1 hC.2.2.2.1 (li_1 _) (by omega) (by have := hC.2.2.2.2; omega) dL_law_932 rfl ?_
  refine z_callVi (pc2 := 936) (hC.1 d) [.int (xs (4 * n + 1))] [] cl_L_121 (fun q hq => ctX8_count kd0 q hq) kd0 rfl rfl rfl ⟨rfl, rfl, Nat.le_of_ble_eq_true rfl, Nat.le_of_ble_eq_true rfl⟩ (Nat.le_of_ble_eq_true rfl) ⟨Nat.le_refl _, Nat.le_refl _⟩ dL_law_933 rfl e1 ?_
  refine x_aload_n (pc2 := 937) (hC.1 d) dL_law_936 rfl rfl ?_
  refine x_aload_n (pc2 := 938) (hC.1 d) dL_law_937 rfl rfl ?_
  refine x_iload_n (pc2 := 939) (hC.1 d) dL_law_938 rfl rfl ?_
  refine x_iconst (pc2 := 940) (hC.1 d) dL_law_939 rfl ic_1 ?_
  refine x_iadd (pc2 := 941) (hC.1 d) dL_law_940 rfl ?_
  refine x_scr (j := 4 * n + 1) (pc2 := 942) (hC.1 d) hC.2.1 hC.2.2.1 hC.2.2.2.1 (li_1 _) (by omega) (by have := hC.2.2.2.2; omega) dL_law_941 rfl ?_
  refine z_callVi (pc2 := 945) (hC.1 d) [.int (xs (4 * n + 1))] [.int r] cl_L_124 (fun q hq => ctX9_count kd235 q hq) kd235 rfl rfl rfl ⟨rfl, rfl, Nat.le_of_ble_eq_true rfl, Nat.le_of_ble_eq_true rfl⟩ (Nat.le_of_ble_eq_true rfl) ⟨Nat.le_refl _, Nat.le_refl _⟩ dL_law_942 rfl e2 ?_
  refine z_icmpeqT (tgt := 950) (hC.1 d) dL_law_945 (by decide) rfl ?_
  exact kk d M2 hd hI
theorem z_slen {β : Type} {G : bkG} {p : Program} {l : Launch} {e : Env} {R : Room} {s : State} {m : MethodId} {args : Array Value} {below : List Frame} {meth : Method} {c : Code} {nL cells slots : Nat} {Z : β → State → Prop} {cc : ByteArray} {own : String} {ret : Option FieldType} {o : Option β} {pc : Nat} {L : List (Option Value)} {st : List Value} {M : Mem} (C : Cx G p s m args meth c cc nL own ret) {b Ln pc2 : Nat} {xs : Nat → Int32} (hX : va_X b Ln xs s s.heap) (hbl : b < s.heap.size) (hbA : ¬ An G b) (hdg : decode cc pc = .ok (.arraylength, 1)) (hp : pc + 1 = pc2) (kk : OX G p l e R s m args below meth c nL cells slots Z o pc2 L (.int (nI Ln) :: st) M) : OX G p l e R s m args below meth c nL cells slots Z o pc L (.ref b :: st) M := by
  subst hp
  exact fun r hr H locs ls hl hP hS => va_slen C.1 C.2.1 hX hbl hbA hS hdg (kk r hr H locs ls hl hP hS)
set_option maxRecDepth 100000 in
set_option maxHeartbeats 4000000 in
/-- the loop's head, when there is one more call -/
theorem law_head {G : bkG} {p : Program} {l : Launch} {e : Env} {s : State} {m : MethodId} {below : List Frame} {meth : Method} {c : Code} {b Ln : Nat} {xs : Nat → Int32} {d : Drawn} {M : Mem} {n : Nat} (hC : LCx G p s m meth c b Ln xs) (hn : 4 * n + 4 ≤ Ln) (kk : LX G p l e s m below meth c b d 32 [some (.ref b), some (rv G 0), some (rv G 235), some (.int (nI (4 * n))), none, none, none, none] [.int (xs (4 * n) &&& 31)] M) : LX G p l e s m below meth c b d 18 [some (.ref b), some (rv G 0), some (rv G 235), some (.int (nI (4 * n))), none, none, none, none] [] M := by
  unfold LX at *
  have hL := hC.2.2.2.2
  refine x_iload_n (pc2 := 19) (hC.1 d) dL_law_18 rfl rfl ?_
  refine x_aload_n (pc2 := 20) (hC.1 d) dL_law_19 rfl rfl ?_
  refine z_slen (pc2 := 21) (hC.1 d) hC.2.1 hC.2.2.1 hC.2.2.2.1 dL_law_20 rfl ?_
  refine x_iconst (pc2 := 22) (hC.1 d) dL_law_21 rfl ic_4 ?_
  refine x_isub (pc2 := 23) (hC.1 d) dL_law_22 rfl ?_
  have e4 : nI Ln - 4 = nI (Ln - 4) := by rw [show (4 : Int32) = nI 4 from by decide]; exact pk_sub (by omega)
  rw [e4]
  refine z_icmpgtF (pc2 := 26) (tgt := 956) (hC.1 d) dL_law_23 (by decide) (nI_nlt (by omega) (by omega)) rfl ?_
  refine x_aload_n (pc2 := 27) (hC.1 d) dL_law_26 rfl rfl ?_
  refine x_iload_n (pc2 := 28) (hC.1 d) dL_law_27 rfl rfl ?_
  refine x_scr (j := 4 * n) (pc2 := 29) (hC.1 d) hC.2.1 hC.2.2.1 hC.2.2.2.1 rfl (by omega) (by omega) dL_law_28 rfl ?_
  refine x_bipush (pc2 := 31) (hC.1 d) dL_law_29 rfl bc_31 ?_
  refine x_iand (pc2 := 32) (hC.1 d) dL_law_31 rfl ?_
  exact kk
set_option maxRecDepth 100000 in
/-- the end: no more calls -/
theorem law_end {G : bkG} {p : Program} {l : Launch} {e : Env} {s : State} {m : MethodId} {below : List Frame} {meth : Method} {c : Code} {b Ln : Nat} {xs : Nat → Int32} {d : Drawn} {M : Mem} {n : Nat} (hC : LCx G p s m meth c b Ln xs) (hG : G.1 = s.heap.size) (hd : s.drawn.sameBut d lw_cs) (hn : ¬ 4 * n + 4 ≤ Ln) (hn5 : n ≤ 512) : LX G p l e s m below meth c b d 18 [some (.ref b), some (rv G 0), some (rv G 235), some (.int (nI (4 * n))), none, none, none, none] [] M := by
  unfold LX
  have hL := hC.2.2.2.2
  refine x_iload_n (pc2 := 19) (hC.1 d) dL_law_18 rfl rfl ?_
  refine x_aload_n (pc2 := 20) (hC.1 d) dL_law_19 rfl rfl ?_
  refine z_slen (pc2 := 21) (hC.1 d) hC.2.1 hC.2.2.1 hC.2.2.2.1 dL_law_20 rfl ?_
  refine x_iconst (pc2 := 22) (hC.1 d) dL_law_21 rfl ic_4 ?_
  refine x_isub (pc2 := 23) (hC.1 d) dL_law_22 rfl ?_
  refine z_icmpgtT (tgt := 956) (hC.1 d) dL_law_23 (by decide) ?_ ?_
  · rw [show (4 : Int32) = nI 4 from by decide, Int32.lt_iff_toInt_lt, pk_sub_toInt (by omega) (by omega), nI_toInt (by omega)]
    omega
  · refine x_iconst (pc2 := 957) (hC.1 d) dL_law_956 rfl ic_1 ?_
    intro r hr H locs ls hl hP hS
    refine va_forget (fun q hq => by have h3 : G.1 ≤ q.base := hS.2.2 q hq; rw [hG] at h3; exact h3) ?_
    exact lw_ret hd (hC.1 d).1 (hC.1 d).2.1 (hC.1 d).2.2.2.2.2.2.2.2.1 (hC.1 d).2.2.2.2.2.2.2.2.2 dL_law_957
set_option maxRecDepth 100000 in
/-- to the next call -/
theorem law_next {G : bkG} {p : Program} {l : Launch} {e : Env} {s : State} {m : MethodId} {below : List Frame} {meth : Method} {c : Code} {b Ln : Nat} {xs : Nat → Int32} {d : Drawn} {M : Mem} {n : Nat} (hC : LCx G p s m meth c b Ln xs) (kk : LX G p l e s m below meth c b d 18 [some (.ref b), some (rv G 0), some (rv G 235), some (.int (nI (4 * (n + 1)))), none, none, none, none] [] M) : LX G p l e s m below meth c b d 950 [some (.ref b), some (rv G 0), some (rv G 235), some (.int (nI (4 * n))), none, none, none, none] [] M := by
  unfold LX at *
  refine x_iinc (pc2 := 953) (v := nI (4 * (n + 1))) (hC.1 d) dL_law_950 rfl rfl 4 ic_4 (by rw [show (4 : Int32) = nI 4 from by decide, nI_add]; rfl) [some (.ref b), some (rv G 0), some (rv G 235), some (.int (nI (4 * (n + 1)))), none, none, none, none] rfl rfl ?_
  exact x_goto (tgt := 18) (hC.1 d) dL_law_953 (by decide) kk
/-- WHAT IS OWED of the functions: from the start on, call by call, the class and the reference answer the same -/
def PURE : Prop := ∃ (M0 : Mem) (I : Nat → Mem → Prop), fX9_initB 235 Mz = some ((), M0) ∧ I 0 M0 ∧ ∀ (n : Nat) (M : Mem), n < 512 → I n M → I (n + 1) M ∧ (∀ (a1 a2 : Int32), PSt I n (fX8_build 0 a1 a2) (fX9_build 235 a1 a2) M) ∧ (∀ (a1 a2 : Int32), PSt I n (fX8_setSign 0 a1 (i2cv a2)) (fX9_setSign 235 a1 (i2cv a2)) M) ∧ (∀ (a1 a2 : Int32), PSt I n (fX8_setShift 0 a1 a2) (fX9_setShift 235 a1 a2) M) ∧ (∀ (a1 a2 : Int32), (a2 = 0 ∨ a2 = 1) → PSt I n (fX8_borrow 0 a1 a2) (fX9_borrow 235 a1 a2) M) ∧ (∀ (a1 a2 : Int32), PSt I n (fX8_set 0 a1 a2) (fX9_set 235 a1 a2) M) ∧ (∀ (a1 a2 : Int32), PSt I n (fX8_press 0 a1 a2) (fX9_press 235 a1 a2) M) ∧ (∀ (a1 a2 : Int32), PSt I n (fX8_release 0 a1 a2) (fX9_release 235 a1 a2) M) ∧ (∀ (a1 : Int32), PSt I n (fX8_tick 0 a1) (fX9_tick 235 a1) M) ∧ (∀ (a1 a2 : Int32), PSt I n (fX8_settle 0 a1 a2) (fX9_settle 235 a1 a2) M) ∧ (∀ (a1 : Int32), PSt I n (fX8_type 0 (i2cv a1)) (fX9_type 235 (i2cv a1)) M) ∧ (PSt I n (fX8_clearText 0) (fX9_clearText 235) M) ∧ (PSt I n (fX8_perform 0) (fX9_perform 235) M) ∧ (PSt I n (fX8_undo 0) (fX9_undo 235) M) ∧ (PSt I n (fX8_keep 0) (fX9_keep 235) M) ∧ (PSt I n (fX8_restore 0) (fX9_restore 235) M) ∧ (∀ (a1 a2 : Int32), PSt I n (fX8_key 0 a1 a2) (fX9_key 235 a1 a2) M) ∧ (∀ (a1 a2 : Int32), PSt I n (fX8_typist 0 a1 a2) (fX9_typist 235 a1 a2) M) ∧ (∀ (a1 a2 : Int32), PSt I n (fX8_style 0 a1 a2) (fX9_style 235 a1 a2) M) ∧ (∀ (a1 a2 : Int32), PSt I n (fX8_hundredths 0 a1 a2) (fX9_hundredths 235 a1 a2) M) ∧ (∀ (a1 a2 : Int32), PSt I n (fX8_typed 0 a1 a2) (fX9_typed 235 a1 a2) M) ∧ (∀ (a1 a2 : Int32), PSt I n (fX8_stroke 0 a1 a2) (fX9_stroke 235 a1 a2) M) ∧ (∀ (a1 a2 : Int32), PSt I n (fX8_dispute 0 a1 a2) (fX9_dispute 235 a1 a2) M) ∧ (∀ (a1 a2 a3 : Int32), PSt I n (fX8_distance 0 a1 a2 a3) (fX9_distance 235 a1 a2 a3) M) ∧ (∀ (a1 : Int32), PSt I n (fX8_verdict 0 a1) (fX9_verdict 235 a1) M) ∧ (∀ (a1 : Int32), PSt I n (fX8_ghostsBy 0 a1) (fX9_ghostsBy 235 a1) M) ∧ (∀ (a1 : Int32), PSt I n (fX8_count 0 a1) (fX9_count 235 a1) M)
set_option maxRecDepth 100000 in
set_option maxHeartbeats 4000000 in
theorem law_loop {G : bkG} {p : Program} {l : Launch} {e : Env} {s : State} {m : MethodId} {below : List Frame} {meth : Method} {c : Code} {b Ln : Nat} {xs : Nat → Int32} {I : Nat → Mem → Prop} (hC : LCx G p s m meth c b Ln xs) (hG : G.1 = s.heap.size) (hI : ∀ (n : Nat) (M : Mem), n < 512 → I n M → I (n + 1) M ∧ (∀ (a1 a2 : Int32), PSt I n (fX8_build 0 a1 a2) (fX9_build 235 a1 a2) M) ∧ (∀ (a1 a2 : Int32), PSt I n (fX8_setSign 0 a1 (i2cv a2)) (fX9_setSign 235 a1 (i2cv a2)) M) ∧ (∀ (a1 a2 : Int32), PSt I n (fX8_setShift 0 a1 a2) (fX9_setShift 235 a1 a2) M) ∧ (∀ (a1 a2 : Int32), (a2 = 0 ∨ a2 = 1) → PSt I n (fX8_borrow 0 a1 a2) (fX9_borrow 235 a1 a2) M) ∧ (∀ (a1 a2 : Int32), PSt I n (fX8_set 0 a1 a2) (fX9_set 235 a1 a2) M) ∧ (∀ (a1 a2 : Int32), PSt I n (fX8_press 0 a1 a2) (fX9_press 235 a1 a2) M) ∧ (∀ (a1 a2 : Int32), PSt I n (fX8_release 0 a1 a2) (fX9_release 235 a1 a2) M) ∧ (∀ (a1 : Int32), PSt I n (fX8_tick 0 a1) (fX9_tick 235 a1) M) ∧ (∀ (a1 a2 : Int32), PSt I n (fX8_settle 0 a1 a2) (fX9_settle 235 a1 a2) M) ∧ (∀ (a1 : Int32), PSt I n (fX8_type 0 (i2cv a1)) (fX9_type 235 (i2cv a1)) M) ∧ (PSt I n (fX8_clearText 0) (fX9_clearText 235) M) ∧ (PSt I n (fX8_perform 0) (fX9_perform 235) M) ∧ (PSt I n (fX8_undo 0) (fX9_undo 235) M) ∧ (PSt I n (fX8_keep 0) (fX9_keep 235) M) ∧ (PSt I n (fX8_restore 0) (fX9_restore 235) M) ∧ (∀ (a1 a2 : Int32), PSt I n (fX8_key 0 a1 a2) (fX9_key 235 a1 a2) M) ∧ (∀ (a1 a2 : Int32), PSt I n (fX8_typist 0 a1 a2) (fX9_typist 235 a1 a2) M) ∧ (∀ (a1 a2 : Int32), PSt I n (fX8_style 0 a1 a2) (fX9_style 235 a1 a2) M) ∧ (∀ (a1 a2 : Int32), PSt I n (fX8_hundredths 0 a1 a2) (fX9_hundredths 235 a1 a2) M) ∧ (∀ (a1 a2 : Int32), PSt I n (fX8_typed 0 a1 a2) (fX9_typed 235 a1 a2) M) ∧ (∀ (a1 a2 : Int32), PSt I n (fX8_stroke 0 a1 a2) (fX9_stroke 235 a1 a2) M) ∧ (∀ (a1 a2 : Int32), PSt I n (fX8_dispute 0 a1 a2) (fX9_dispute 235 a1 a2) M) ∧ (∀ (a1 a2 a3 : Int32), PSt I n (fX8_distance 0 a1 a2 a3) (fX9_distance 235 a1 a2 a3) M) ∧ (∀ (a1 : Int32), PSt I n (fX8_verdict 0 a1) (fX9_verdict 235 a1) M) ∧ (∀ (a1 : Int32), PSt I n (fX8_ghostsBy 0 a1) (fX9_ghostsBy 235 a1) M) ∧ (∀ (a1 : Int32), PSt I n (fX8_count 0 a1) (fX9_count 235 a1) M)) :
    ∀ (k n : Nat), 4 * n + 4 * k ≥ Ln → n ≤ 512 → ∀ (d : Drawn) (M : Mem), s.drawn.sameBut d lw_cs → I n M → LX G p l e s m below meth c b d 18 [some (.ref b), some (rv G 0), some (rv G 235), some (.int (nI (4 * n))), none, none, none, none] [] M := by
  intro k
  induction k with
  | zero =>
    intro n hk hn d M hd hM
    exact law_end hC hG hd (by omega) hn
  | succ k ih =>
    intro n hk hn d M hd hM
    by_cases hlt : 4 * n + 4 ≤ Ln
    · have hn5 : n < 512 := by have := hC.2.2.2.2; omega
      obtain ⟨hI0, g0, g1, g2, g3, g4, g5, g6, g7, g8, g9, g10, g11, g12, g13, g14, g15, g16, g17, g18, g19, g20, g21, g22, g23, g24, g25⟩ := hI n M hn5 hM
      have kk : ∀ (d2 : Drawn) (M2 : Mem), s.drawn.sameBut d2 lw_cs → I (n + 1) M2 → LX G p l e s m below meth c b d2 950 [some (.ref b), some (rv G 0), some (rv G 235), some (.int (nI (4 * n))), none, none, none, none] [] M2 := fun d2 M2 hd2 hM2 => law_next hC (ih (n + 1) (by omega) (by omega) d2 M2 hd2 hM2)
      refine law_head hC hlt ?_
      unfold LX at *
      by_cases h0 : xs (4 * n) &&& 31 = 0
      · refine x_tin (tgt := 152) (hC.1 d) h0 dL_law_32 (by decide) (by decide) rfl (by decide) ?_
        exact law_c0 hC hlt hd (g0 (xs (4 * n + 1)) (xs (4 * n + 2))) kk
      by_cases h1 : xs (4 * n) &&& 31 = 1
      · refine x_tin (tgt := 185) (hC.1 d) h1 dL_law_32 (by decide) (by decide) rfl (by decide) ?_
        exact law_c1 hC hlt hd (g1 (xs (4 * n + 1)) (xs (4 * n + 2))) kk
      by_cases h2 : xs (4 * n) &&& 31 = 2
      · refine x_tin (tgt := 220) (hC.1 d) h2 dL_law_32 (by decide) (by decide) rfl (by decide) ?_
        exact law_c2 hC hlt hd (g2 (xs (4 * n + 1)) (xs (4 * n + 2))) kk
      by_cases h3 : xs (4 * n) &&& 31 = 3
      · refine x_tin (tgt := 253) (hC.1 d) h3 dL_law_32 (by decide) (by decide) rfl (by decide) ?_
        exact law_c3 hC hlt hd (fun z hz => g3 (xs (4 * n + 1)) z hz) kk
      by_cases h4 : xs (4 * n) &&& 31 = 4
      · refine x_tin (tgt := 302) (hC.1 d) h4 dL_law_32 (by decide) (by decide) rfl (by decide) ?_
        exact law_c4 hC hlt hd (g4 (xs (4 * n + 1)) (xs (4 * n + 2))) kk
      by_cases h5 : xs (4 * n) &&& 31 = 5
      · refine x_tin (tgt := 335) (hC.1 d) h5 dL_law_32 (by decide) (by decide) rfl (by decide) ?_
        exact law_c5 hC hlt hd (g5 (xs (4 * n + 1)) (xs (4 * n + 2))) kk
      by_cases h6 : xs (4 * n) &&& 31 = 6
      · refine x_tin (tgt := 368) (hC.1 d) h6 dL_law_32 (by decide) (by decide) rfl (by decide) ?_
        exact law_c6 hC hlt hd (g6 (xs (4 * n + 1)) (xs (4 * n + 2))) kk
      by_cases h7 : xs (4 * n) &&& 31 = 7
      · refine x_tin (tgt := 401) (hC.1 d) h7 dL_law_32 (by decide) (by decide) rfl (by decide) ?_
        exact law_c7 hC hlt hd (g7 (xs (4 * n + 1))) kk
      by_cases h8 : xs (4 * n) &&& 31 = 8
      · refine x_tin (tgt := 424) (hC.1 d) h8 dL_law_32 (by decide) (by decide) rfl (by decide) ?_
        exact law_c8 hC hlt hd (g8 (xs (4 * n + 1)) (xs (4 * n + 2))) kk
      by_cases h9 : xs (4 * n) &&& 31 = 9
      · refine x_tin (tgt := 457) (hC.1 d) h9 dL_law_32 (by decide) (by decide) rfl (by decide) ?_
        exact law_c9 hC hlt hd (g9 (xs (4 * n + 1))) kk
      by_cases h10 : xs (4 * n) &&& 31 = 10
      · refine x_tin (tgt := 482) (hC.1 d) h10 dL_law_32 (by decide) (by decide) rfl (by decide) ?_
        exact law_c10 hC hlt hd (g10) kk
      by_cases h11 : xs (4 * n) &&& 31 = 11
      · refine x_tin (tgt := 495) (hC.1 d) h11 dL_law_32 (by decide) (by decide) rfl (by decide) ?_
        exact law_c11 hC hlt hd (g11) kk
      by_cases h12 : xs (4 * n) &&& 31 = 12
      · refine x_tin (tgt := 508) (hC.1 d) h12 dL_law_32 (by decide) (by decide) rfl (by decide) ?_
        exact law_c12 hC hlt hd (g12) kk
      by_cases h13 : xs (4 * n) &&& 31 = 13
      · refine x_tin (tgt := 521) (hC.1 d) h13 dL_law_32 (by decide) (by decide) rfl (by decide) ?_
        exact law_c13 hC hlt hd (g13) kk
      by_cases h14 : xs (4 * n) &&& 31 = 14
      · refine x_tin (tgt := 534) (hC.1 d) h14 dL_law_32 (by decide) (by decide) rfl (by decide) ?_
        exact law_c14 hC hlt hd (g14) kk
      by_cases h15 : xs (4 * n) &&& 31 = 15
      · refine x_tin (tgt := 547) (hC.1 d) h15 dL_law_32 (by decide) (by decide) rfl (by decide) ?_
        exact law_c15 hC hlt hd (g15 (xs (4 * n + 1)) (xs (4 * n + 2))) kk
      by_cases h16 : xs (4 * n) &&& 31 = 16
      · refine x_tin (tgt := 580) (hC.1 d) h16 dL_law_32 (by decide) (by decide) rfl (by decide) ?_
        exact law_c16 hC hlt hd (g16 (xs (4 * n + 1)) (xs (4 * n + 2))) kk
      by_cases h17 : xs (4 * n) &&& 31 = 17
      · refine x_tin (tgt := 613) (hC.1 d) h17 dL_law_32 (by decide) (by decide) rfl (by decide) ?_
        exact law_c17 hC hlt hd (g17 (xs (4 * n + 1)) (xs (4 * n + 2))) kk
      by_cases h18 : xs (4 * n) &&& 31 = 18
      · refine x_tin (tgt := 676) (hC.1 d) h18 dL_law_32 (by decide) (by decide) rfl (by decide) ?_
        exact law_c18 hC hlt hd (g18 (xs (4 * n + 1)) (xs (4 * n + 2))) kk
      by_cases h19 : xs (4 * n) &&& 31 = 19
      · refine x_tin (tgt := 709) (hC.1 d) h19 dL_law_32 (by decide) (by decide) rfl (by decide) ?_
        exact law_c19 hC hlt hd (g19 (xs (4 * n + 1)) (xs (4 * n + 2))) kk
      by_cases h20 : xs (4 * n) &&& 31 = 20
      · refine x_tin (tgt := 742) (hC.1 d) h20 dL_law_32 (by decide) (by decide) rfl (by decide) ?_
        exact law_c20 hC hlt hd (g20 (xs (4 * n + 1)) (xs (4 * n + 2))) kk
      by_cases h21 : xs (4 * n) &&& 31 = 21
      · refine x_tin (tgt := 775) (hC.1 d) h21 dL_law_32 (by decide) (by decide) rfl (by decide) ?_
        exact law_c21 hC hlt hd (g21 (xs (4 * n + 1)) (xs (4 * n + 2))) kk
      by_cases h22 : xs (4 * n) &&& 31 = 22
      · refine x_tin (tgt := 808) (hC.1 d) h22 dL_law_32 (by decide) (by decide) rfl (by decide) ?_
        exact law_c22 hC hlt hd (g22 (xs (4 * n + 1)) (xs (4 * n + 2)) (xs (4 * n + 3))) kk
      by_cases h23 : xs (4 * n) &&& 31 = 23
      · refine x_tin (tgt := 881) (hC.1 d) h23 dL_law_32 (by decide) (by decide) rfl (by decide) ?_
        exact law_c23 hC hlt hd (g23 (xs (4 * n + 1))) kk
      by_cases h24 : xs (4 * n) &&& 31 = 24
      · refine x_tin (tgt := 904) (hC.1 d) h24 dL_law_32 (by decide) (by decide) rfl (by decide) ?_
        exact law_c24 hC hlt hd (g24 (xs (4 * n + 1))) kk
      by_cases h25 : xs (4 * n) &&& 31 = 25
      · refine x_tin (tgt := 927) (hC.1 d) h25 dL_law_32 (by decide) (by decide) rfl (by decide) ?_
        exact law_c25 hC hlt hd (g25 (xs (4 * n + 1))) kk
      refine x_tout (tgt := 950) (hC.1 d) dL_law_32 (by have t0 := lv_neT (a := 0) h0 rfl; have t1 := lv_neT (a := 1) h1 rfl; have t2 := lv_neT (a := 2) h2 rfl; have t3 := lv_neT (a := 3) h3 rfl; have t4 := lv_neT (a := 4) h4 rfl; have t5 := lv_neT (a := 5) h5 rfl; have t6 := lv_neT (a := 6) h6 rfl; have t7 := lv_neT (a := 7) h7 rfl; have t8 := lv_neT (a := 8) h8 rfl; have t9 := lv_neT (a := 9) h9 rfl; have t10 := lv_neT (a := 10) h10 rfl; have t11 := lv_neT (a := 11) h11 rfl; have t12 := lv_neT (a := 12) h12 rfl; have t13 := lv_neT (a := 13) h13 rfl; have t14 := lv_neT (a := 14) h14 rfl; have t15 := lv_neT (a := 15) h15 rfl; have t16 := lv_neT (a := 16) h16 rfl; have t17 := lv_neT (a := 17) h17 rfl; have t18 := lv_neT (a := 18) h18 rfl; have t19 := lv_neT (a := 19) h19 rfl; have t20 := lv_neT (a := 20) h20 rfl; have t21 := lv_neT (a := 21) h21 rfl; have t22 := lv_neT (a := 22) h22 rfl; have t23 := lv_neT (a := 23) h23 rfl; have t24 := lv_neT (a := 24) h24 rfl; have t25 := lv_neT (a := 25) h25 rfl; omega) (by decide) ?_
      exact kk d M hd hI0
    · exact law_end hC hG hd hlt hn
