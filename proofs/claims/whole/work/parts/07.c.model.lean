theorem fn_X9_7 : FN RX9 7 8 0 (.array .int) := ⟨RX9, TX9, 15, tyX9, rfl, by decide, wt4_86, rfl, uinX9, tyX9_ok, nmX9, rfl, by decide +kernel, rfl⟩
theorem fn_X9_13 : FN RX9 13 8 1 (.array .int) := ⟨RX9, TX9, 15, tyX9, rfl, by decide, wt4_87, rfl, uinX9, tyX9_ok, nmX9, rfl, by decide +kernel, rfl⟩
theorem fn_X9_16 : FN RX9 16 8 2 (.array .int) := ⟨RX9, TX9, 15, tyX9, rfl, by decide, wt4_88, rfl, uinX9, tyX9_ok, nmX9, rfl, by decide +kernel, rfl⟩
theorem fn_X9_19 : FN RX9 19 8 3 (.array .int) := ⟨RX9, TX9, 15, tyX9, rfl, by decide, wt4_89, rfl, uinX9, tyX9_ok, nmX9, rfl, by decide +kernel, rfl⟩
theorem fn_X9_22 : FN RX9 22 8 4 (.array .float) := ⟨RX9, TX9, 15, tyX9, rfl, by decide, wt4_90, rfl, uinX9, tyX9_ok, nmX9, rfl, by decide +kernel, rfl⟩
theorem fn_X9_26 : FN RX9 26 8 5 (.array .float) := ⟨RX9, TX9, 15, tyX9, rfl, by decide, wt4_91, rfl, uinX9, tyX9_ok, nmX9, rfl, by decide +kernel, rfl⟩
theorem fn_X9_29 : FN RX9 29 8 6 (.array .float) := ⟨RX9, TX9, 15, tyX9, rfl, by decide, wt4_92, rfl, uinX9, tyX9_ok, nmX9, rfl, by decide +kernel, rfl⟩
theorem fn_X9_32 : FN RX9 32 8 7 (.array .float) := ⟨RX9, TX9, 15, tyX9, rfl, by decide, wt4_93, rfl, uinX9, tyX9_ok, nmX9, rfl, by decide +kernel, rfl⟩
theorem fn_X9_35 : FN RX9 35 8 10 (.array .char) := ⟨RX9, TX9, 15, tyX9, rfl, by decide, wt4_96, rfl, uinX9, tyX9_ok, nmX9, rfl, by decide +kernel, rfl⟩
theorem bc_28 : (Int8.ofInt 28).toInt32 = (28 : Int32) := by decide
theorem sc_2368 : (Int16.ofInt 2368).toInt32 = (2368 : Int32) := by decide
def FX9_init_97 (q0 : Nat) (k1 : Unit → Mem → Option (Unit × Mem)) (rec : Int32 → Mem → Option (Unit × Mem)) (b : Int32) (M : Mem) : Option (Unit × Mem) := if 2 ≤ b then k1 () M else asr (inb (3 + b) (ln (q0 + 1))) (bnd (w1 M (q0 + 1) (3 + b).toNatClampNeg (-5)) (fun M1 => asr (inb (5 + b) (ln (q0 + 1))) (bnd (w1 M1 (q0 + 1) (5 + b).toNatClampNeg (-5)) (fun M2 => asr (nnb (FP.fmul 1082130432 (FP.i2f b))) (bnd (FP.fmul 1082130432 (FP.i2f b)) (fun v3 => asr (nnb (FP.fadd 1082130432 v3)) (bnd (FP.fadd 1082130432 v3) (fun v4 => asr (inb (0 + b) (ln (q0 + 5))) (bnd (w2 M2 (q0 + 5) (0 + b).toNatClampNeg v4) (fun M5 => asr (nnb (FP.fmul 1082130432 (FP.i2f b))) (bnd (FP.fmul 1082130432 (FP.i2f b)) (fun v6 => asr (nnb (FP.fadd 1086324736 v6)) (bnd (FP.fadd 1086324736 v6) (fun v7 => asr (inb (2 + b) (ln (q0 + 5))) (bnd (w2 M5 (q0 + 5) (2 + b).toNatClampNeg v7) (fun M8 => rec (b + 1) M8))))))))))))))))
def fX9_initB (this : Nat) (M : Mem) : Option (Unit × Mem) := asr (inb 0 (ln (this + 1))) (bnd (w1 M (this + 1) (0 : Int32).toNatClampNeg 4) (fun M1 => asr (inb 1 (ln (this + 1))) (bnd (w1 M1 (this + 1) (1 : Int32).toNatClampNeg 6) (fun M2 => lp (FX9_init_97 this (fun (b6 : Unit) (M7 : Mem) => asr (inb 4 (ln (this + 5))) (bnd (w2 M7 (this + 5) (4 : Int32).toNatClampNeg 1040187392) (fun M8 => asr (inb 5 (ln (this + 5))) (bnd (w2 M8 (this + 5) (5 : Int32).toNatClampNeg 1056964608) (fun M9 => asr (inb 6 (ln (this + 5))) (bnd (w2 M9 (this + 5) (6 : Int32).toNatClampNeg 1048576000) (fun M10 => cal (fX9_clearKeys this M10) (fun v11 M12 => some ((), M12)))))))))) 1000000 0 M2))))
/-- what the ints and the floats are behind the makers -/
def mzS : List (Nat → Int32) := [(fun _ => 0), (fun i => if i = 0 then 4 else if i = 1 then 6 else 0), (cstf (-1) 48), (cstf 46 48), (fun _ => 0), (fun _ => 0), (cstf (-1) 48), (fun _ => 0), (fun _ => 0), (fun _ => 0), (cstf (-1) 2), (fun i => if i = 2 then (-1) else 0), (fun _ => 0), (fun i => if i = 2 then (-1) else 0), (fun _ => 0), (fun _ => 0), (fun _ => 0), (fun _ => 0), (fun _ => 0), (fun _ => 0), (fun _ => 0), (fun _ => 0), (fun _ => 0), (fun _ => 0), (fun _ => 0), (fun _ => 0), (fun _ => 0), (fun _ => 0), (fun _ => 0), (fun _ => 0), (fun _ => 0), (fun _ => 0), (upd (upd (upd (fun _ => 0) 0 1040187392) 1 1056964608) 2 1048576000)]
def mzH : Nat → Int32 := fun i => if i = 1 then nI 101 else if i = 2 then nI 134 else if i = 3 then nI 167 else if i = 4 then nI 200 else 0
def mzL : List (Nat → Int32) := (fun _ => 0) :: (mzS ++ (mzS ++ (mzS ++ (mzH :: (mzS ++ (mzS ++ (mzS ++ (mzS ++ [(fun _ => 0), (fun _ => 0), (fun _ => 0), (fun _ => 0), (fun _ => 0), (fun _ => 0), (fun _ => 0), (fun _ => 0), (fun _ => 0), (fun _ => 0), (fun _ => 0), (fun _ => 0)]))))))))
def fzS : List (Nat → UInt32) := [(fun _ => 0), (fun _ => 0), (fun _ => 0), (fun _ => 0), (fun _ => 0), (fun _ => 0), (fun _ => 0), (fun _ => 0), (fun _ => 0), (fun _ => 0), (fun _ => 0), (fun i => if i = 0 then 1082130432 else if i = 1 then 1086324736 else 0), (fun _ => 0), (fun i => if i = 0 then 1090519040 else if i = 1 then 1092616192 else 0), (fun _ => 0), (fun _ => 0), (fun _ => 0), (fun _ => 0), (fun _ => 0), (fun _ => 0), (fun _ => 0), (fun _ => 0), (fun _ => 0), (fun _ => 0), (fun _ => 0), (fun _ => 0), (fun _ => 0), (fun _ => 0), (fun _ => 0), (fun _ => 0), (fun _ => 0), (fun i => if i = 1 then 1040187392 else if i = 2 then 1056964608 else if i = 3 then 1048576000 else 0), (fun _ => 0)]
def fzL : List (Nat → UInt32) := (fun _ => 0) :: (fzS ++ (fzS ++ (fzS ++ ((fun _ => 0) :: (fzS ++ (fzS ++ (fzS ++ (fzS ++ [(fun _ => 0), (fun _ => 0), (fun _ => 0), (fun _ => 0), (fun _ => 0), (fun _ => 0), (fun _ => 0), (fun _ => 0), (fun _ => 0), (fun _ => 0), (fun _ => 0), (fun _ => 0)]))))))))
def Mz : Mem := (fun k => mzL.getD k (fun _ => 0), fun k => fzL.getD k (fun _ => 0))
def mdB (G : bkG) (n : Nat) : List va_E := [.inr (8, [rv G (n + 1), rv G (n + 2), rv G (n + 3), rv G (n + 4), rv G (n + 5), rv G (n + 6), rv G (n + 7), rv G (n + 8), .int 0, .int 0, rv G (n + 9), .int 0, .int 0, .int 0, .int 0]), .inl (G.2.2.1, 592, .inl (fun _ => 0)), .inl (G.2.2.1, 2368, .inl (fun _ => 0)), .inl (G.2.2.1, 592, .inl (fun _ => 0)), .inl (G.2.2.1, 592, .inl (fun _ => 0)), .inl (G.2.2.2.1, 7, .inr (.inr (.inl (fun _ => 0)))), .inl (G.2.2.2.1, 28, .inr (.inr (.inl (fun _ => 0)))), .inl (G.2.2.2.1, 7, .inr (.inr (.inl (fun _ => 0)))), .inl (G.2.2.2.1, 7, .inr (.inr (.inl (fun _ => 0)))), .inl (G.2.2.2.2.1, 60, .inl (fun _ => 0))]
set_option maxRecDepth 100000 in
set_option maxHeartbeats 4000000 in
theorem st_eq (G : bkG) : ∀ b ∈ [1, 34, 67, 101, 134, 167, 200], (List.range 33).map (fun j => cel G Mz (b + j)) = stB G b := by
  intro b hb
  simp only [List.mem_cons, List.not_mem_nil, or_false] at hb
  rcases hb with rfl | rfl | rfl | rfl | rfl | rfl | rfl <;> rfl
theorem md_eq (G : bkG) : (List.range 10).map (fun j => cel G Mz (235 + j)) = mdB G 235 := rfl
theorem b0_eq (G : bkG) : cel G Mz 0 = .inr (7, [rv G 1, rv G 34, rv G 67, rv G 100, rv G 233, .int 0]) := rfl
theorem hi_eq (G : bkG) : cel G Mz 100 = .inr (1, [.int 0, rv G 101, rv G 134, rv G 167, rv G 200]) := rfl
theorem scr_eq (G : bkG) : (List.range 2).map (fun j => cel G Mz (233 + j)) = scB G 233 := rfl
theorem rg_add (f : Nat → va_E) (a b c : Nat) : (List.range (b + c)).map (fun j => f (a + j)) = (List.range b).map (fun j => f (a + j)) ++ (List.range c).map (fun j => f (a + b + j)) := by
  rw [List.range_add, List.map_append, List.map_map]
  congr 1
  apply List.map_congr_left
  intro x _
  show f (a + (b + x)) = f (a + b + x)
  rw [Nat.add_assoc]
theorem wl_wo {G : bkG} {M : Mem} {cs : List va_E} (h : (List.range 245).map (fun j => cel G M (0 + j)) = cs) : woL G cs = wo G M := by
  subst h
  apply List.ext_getElem?
  intro j
  rcases Nat.lt_or_ge j 245 with q | q
  · rw [wo_at q, woL_at (e := cel G M j) (by rw [List.getElem?_map, List.getElem?_range q]; simp)]
  · rw [List.getElem?_eq_none (l := wo G M) (by rw [wo_len]; exact q), List.getElem?_eq_none (by rw [woL_len, List.length_map, List.length_range]; exact q)]
theorem wz_eq (G : bkG) : woL G (bkB G 0 ++ mdB G 235) = wo G Mz := by
  apply wl_wo
  have s := st_eq G
  rw [show (245 : Nat) = 1 + (33 + (33 + (33 + (1 + (33 + (33 + (33 + (33 + (2 + 10))))))))) from rfl]
  rw [rg_add (cel G Mz) 0 1, rg_add (cel G Mz) (0 + 1) 33, rg_add (cel G Mz) (0 + 1 + 33) 33, rg_add (cel G Mz) (0 + 1 + 33 + 33) 33, rg_add (cel G Mz) (0 + 1 + 33 + 33 + 33) 1, rg_add (cel G Mz) (0 + 1 + 33 + 33 + 33 + 1) 33, rg_add (cel G Mz) (0 + 1 + 33 + 33 + 33 + 1 + 33) 33, rg_add (cel G Mz) (0 + 1 + 33 + 33 + 33 + 1 + 33 + 33) 33, rg_add (cel G Mz) (0 + 1 + 33 + 33 + 33 + 1 + 33 + 33 + 33) 33, rg_add (cel G Mz) (0 + 1 + 33 + 33 + 33 + 1 + 33 + 33 + 33 + 33) 2]
  rw [show (0 + 1 : Nat) = 1 from rfl, show (1 + 33 : Nat) = 34 from rfl, show (34 + 33 : Nat) = 67 from rfl, show (67 + 33 : Nat) = 100 from rfl, show (100 + 1 : Nat) = 101 from rfl, show (101 + 33 : Nat) = 134 from rfl, show (134 + 33 : Nat) = 167 from rfl, show (167 + 33 : Nat) = 200 from rfl, show (200 + 33 : Nat) = 233 from rfl, show (233 + 2 : Nat) = 235 from rfl]
  rw [s 1 (by simp), s 34 (by simp), s 67 (by simp), s 101 (by simp), s 134 (by simp), s 167 (by simp), s 200 (by simp), scr_eq, md_eq]
  rw [show (List.range 1).map (fun j => cel G Mz (0 + j)) = [cel G Mz 0] from rfl, show (List.range 1).map (fun j => cel G Mz (100 + j)) = [cel G Mz 100] from rfl, b0_eq, hi_eq]
  simp only [bkB, hiB, List.append_assoc, List.cons_append, List.nil_append, Nat.zero_add]
theorem x_vretC {G : bkG} {p : Program} {l : Launch} {e : Env} {R : Room} {s : State} {m : MethodId} {args : Array Value} {below : List Frame} {meth : Method} {c : Code} {nL cells slots : Nat} {cc : ByteArray} {own : String} {pc : Nat} {L : List (Option Value)} {M : Mem} (C : Cx G p s m args meth c cc nL own none) (hdg : decode cc pc = .ok (.return_, 1)) : OX G p l e R s m args below meth c nL cells slots (fun r : Unit × Mem => MQ below (QQ G none r.2) args s cells slots (An G)) (some ((), M)) pc L [] M := by
  intro r hr H locs ls hl hP hS
  cases hr
  exact W.vret C.1 C.2.1 C.2.2.2.2.2.2.2.2.1 (fun t ht hW => ⟨rfl, by rw [ht]; exact hP, hS.F ht⟩) hS.2.2 hdg C.2.2.2.2.2.2.2.2.2
theorem mkMetQ {l : Launch} {y : MethodName} {cc : ByteArray} {maxL mc ms : Nat} {rm : Room} {av : List Value} {G : bkG} {cs : List va_E} {Qc : Array Value → State → Outcome → State → Prop} (own : String) (hown0 : y.cls = own) (hy : plainFor y = true) (hc : c1 (av.map some) = true) (hn : av.length ≤ maxL) (L : List (Option Value)) (hL : av.map some ++ List.replicate (maxL - av.length) none = L)
    (body : ∀ (p : Program) (e : Env) (s : State) (m : MethodId) (args : Array Value) (below : List Frame) (meth : Method) (c : Code), Cx G p s m args meth c cc maxL own none → (y.name = "<init>" → meth.name = "<init>") → NW s → (∀ q, s.heap.size ≤ q → An G q) →
      OY G p l e rm s m args below meth c maxL 0 0 (MQ below Qc args s mc ms (An G)) 0 L [] cs) :
    Met l y (Cond.code y cc maxL none :: TT) rm (va_Pc av (WL G cs)) Qc mc ms (An G) := by
  refine va_MetF (cc := cc) (maxL := maxL) (ret := none) hy rfl ?_
  intro p e s m args below meth c s₁ B hml hv
  obtain ⟨rfl, hP, hsz, hK, hZ, hT, hN⟩ := hv
  have hts := atoms_spec (ws := Cond.code y cc maxL none :: TT) B.pre
  have hown : s.vm.findClass y.cls = some m.cls := findClass_of_methodNamed B.named
  rw [hown0] at hown
  rw [lg_entry_eq]
  exact body p e s m av.toArray below meth c ⟨B.exec, B.bytes, hml, hown, fun w h => hts w (List.mem_cons_of_mem _ h), hK, hZ, hT, B.returns, B.notSynchronized⟩ (fun h => by rw [← h]; exact (name_of_methodNamed B.named B.method).1) hN (fun q hq => by show G.1 ≤ q; omega) s.heap [] _
    (lh_in av maxL (fun v hv => by
      obtain ⟨i, hi⟩ := List.getElem?_of_mem hv
      exact c1_spec hc i v (by rw [List.getElem?_map, hi]; rfl)) hn hL) hP hsz va_S.rf
/-- from the growing world to the flat one -/
theorem oy_ox {β : Type} {G : bkG} {p : Program} {l : Launch} {e : Env} {R : Room} {s : State} {m : MethodId} {args : Array Value} {below : List Frame} {meth : Method} {c : Code} {nL cells slots : Nat} {Z : β → State → Prop} {pc : Nat} {L : List (Option Value)} {st : List Value} {cs : List va_E} {M : Mem} {o : Option β} {r : β} (hw : woL G cs = wo G M) (ho : o = some r) (h : OX G p l e R s m args below meth c nL cells slots Z o pc L st M) : OY G p l e R s m args below meth c nL cells slots (Z r) pc L st cs :=
  fun H locs ls hl hP _ hS => h r ho H locs ls hl (by rw [← hw]; exact hP) hS
set_option maxRecDepth 100000 in
theorem bk_len (G : bkG) : (bkB G 0).length = 235 := rfl
set_option maxRecDepth 100000 in
set_option maxHeartbeats 4000000 in
theorem ctmX9 {l : Launch} {G : bkG} {a cs : List va_E} {M0 : Mem} (ha : a = bkB G 0) (h1 : cs = a ++ [.inr (8, [.null, .null, .null, .null, .null, .null, .null, .null, .int 0, .int 0, .null, .int 0, .int 0, .int 0, .int 0])]) (h0 : fX9_initB 235 Mz = some ((), M0)) : Met l yX9_init (Cond.code yX9_init cX9_init 2 none :: TT) ({ frames := 1, cells := 9, slots := 4253, locals := 21 } : Room) (va_Pc [rv G 235] (WL G cs)) (QQ G none M0) 9 4253 (An G) := by
  subst h1
  have hn : a.length = 235 := by rw [ha]; exact bk_len G
  refine mkMetQ RX9 rfl (by decide +kernel) rfl (Nat.le_of_ble_eq_true rfl) [some (rv G 235), none] rfl ?_
  intro p e s m args below meth c C hin hN hA
  refine y_aload_n (pc2 := 1) C dX9_init_0 rfl rfl ?_
  refine y_objInit (pc2 := 4) C wt4_76 (Nat.le_of_ble_eq_true rfl) (Nat.le_of_ble_eq_true rfl) dX9_init_1 rfl ?_
  refine y_aload_n (pc2 := 5) C dX9_init_4 rfl rfl ?_
  refine y_sipush (pc2 := 8) C dX9_init_5 rfl sc_592 ?_
  refine y_newa (pc2 := 10) (atype := .int) (ty := .int) (t0 := 0) (N' := 592) (a0 := (592, .inl (fun _ => 0))) (cells' := 1) (slots' := 592) (n := 235 + 1) (cs' := (a ++ ([.inr (8, [.null, .null, .null, .null, .null, .null, .null, .null, .int 0, .int 0, .null, .int 0, .int 0, .int 0, .int 0]), .inl (G.2.2.1, 592, .inl (fun _ => 0))]))) C wt1_79 rfl rfl (fun h => h) (fun _ => rfl) (by decide) (by decide) (by decide) (Nat.le_of_ble_eq_true rfl) (Nat.le_of_ble_eq_true rfl) rfl rfl (List.append_assoc a _ _) (by rw [List.length_append, hn]; rfl) dX9_init_8 rfl ?_
  refine y_putF (pc2 := 13) (cs' := (a ++ ([.inr (8, [rv G (235 + 1), .null, .null, .null, .null, .null, .null, .null, .int 0, .int 0, .null, .int 0, .int 0, .int 0, .int 0]), .inl (G.2.2.1, 592, .inl (fun _ => 0))]))) C (hin rfl) fn_X9_7 (ap_at0 hn rfl) rfl rfl (Nat.le_of_ble_eq_true rfl) (ap_set0 hn rfl) dX9_init_10 rfl ?_
  refine y_aload_n (pc2 := 14) C dX9_init_13 rfl rfl ?_
  refine y_sipush (pc2 := 17) C dX9_init_14 rfl sc_2368 ?_
  refine y_newa (pc2 := 19) (atype := .int) (ty := .int) (t0 := 0) (N' := 2368) (a0 := (2368, .inl (fun _ => 0))) (cells' := 2) (slots' := 2960) (n := 235 + 2) (cs' := (a ++ ([.inr (8, [rv G (235 + 1), .null, .null, .null, .null, .null, .null, .null, .int 0, .int 0, .null, .int 0, .int 0, .int 0, .int 0]), .inl (G.2.2.1, 592, .inl (fun _ => 0)), .inl (G.2.2.1, 2368, .inl (fun _ => 0))]))) C wt1_79 rfl rfl (fun h => h) (fun _ => rfl) (by decide) (by decide) (by decide) (Nat.le_of_ble_eq_true rfl) (Nat.le_of_ble_eq_true rfl) rfl rfl (List.append_assoc a _ _) (by rw [List.length_append, hn]; rfl) dX9_init_17 rfl ?_
  refine y_putF (pc2 := 22) (cs' := (a ++ ([.inr (8, [rv G (235 + 1), rv G (235 + 2), .null, .null, .null, .null, .null, .null, .int 0, .int 0, .null, .int 0, .int 0, .int 0, .int 0]), .inl (G.2.2.1, 592, .inl (fun _ => 0)), .inl (G.2.2.1, 2368, .inl (fun _ => 0))]))) C (hin rfl) fn_X9_13 (ap_at0 hn rfl) rfl rfl (Nat.le_of_ble_eq_true rfl) (ap_set0 hn rfl) dX9_init_19 rfl ?_
  refine y_aload_n (pc2 := 23) C dX9_init_22 rfl rfl ?_
  refine y_sipush (pc2 := 26) C dX9_init_23 rfl sc_592 ?_
  refine y_newa (pc2 := 28) (atype := .int) (ty := .int) (t0 := 0) (N' := 592) (a0 := (592, .inl (fun _ => 0))) (cells' := 3) (slots' := 3552) (n := 235 + 3) (cs' := (a ++ ([.inr (8, [rv G (235 + 1), rv G (235 + 2), .null, .null, .null, .null, .null, .null, .int 0, .int 0, .null, .int 0, .int 0, .int 0, .int 0]), .inl (G.2.2.1, 592, .inl (fun _ => 0)), .inl (G.2.2.1, 2368, .inl (fun _ => 0)), .inl (G.2.2.1, 592, .inl (fun _ => 0))]))) C wt1_79 rfl rfl (fun h => h) (fun _ => rfl) (by decide) (by decide) (by decide) (Nat.le_of_ble_eq_true rfl) (Nat.le_of_ble_eq_true rfl) rfl rfl (List.append_assoc a _ _) (by rw [List.length_append, hn]; rfl) dX9_init_26 rfl ?_
  refine y_putF (pc2 := 31) (cs' := (a ++ ([.inr (8, [rv G (235 + 1), rv G (235 + 2), rv G (235 + 3), .null, .null, .null, .null, .null, .int 0, .int 0, .null, .int 0, .int 0, .int 0, .int 0]), .inl (G.2.2.1, 592, .inl (fun _ => 0)), .inl (G.2.2.1, 2368, .inl (fun _ => 0)), .inl (G.2.2.1, 592, .inl (fun _ => 0))]))) C (hin rfl) fn_X9_16 (ap_at0 hn rfl) rfl rfl (Nat.le_of_ble_eq_true rfl) (ap_set0 hn rfl) dX9_init_28 rfl ?_
  refine y_aload_n (pc2 := 32) C dX9_init_31 rfl rfl ?_
  refine y_sipush (pc2 := 35) C dX9_init_32 rfl sc_592 ?_
  refine y_newa (pc2 := 37) (atype := .int) (ty := .int) (t0 := 0) (N' := 592) (a0 := (592, .inl (fun _ => 0))) (cells' := 4) (slots' := 4144) (n := 235 + 4) (cs' := (a ++ ([.inr (8, [rv G (235 + 1), rv G (235 + 2), rv G (235 + 3), .null, .null, .null, .null, .null, .int 0, .int 0, .null, .int 0, .int 0, .int 0, .int 0]), .inl (G.2.2.1, 592, .inl (fun _ => 0)), .inl (G.2.2.1, 2368, .inl (fun _ => 0)), .inl (G.2.2.1, 592, .inl (fun _ => 0)), .inl (G.2.2.1, 592, .inl (fun _ => 0))]))) C wt1_79 rfl rfl (fun h => h) (fun _ => rfl) (by decide) (by decide) (by decide) (Nat.le_of_ble_eq_true rfl) (Nat.le_of_ble_eq_true rfl) rfl rfl (List.append_assoc a _ _) (by rw [List.length_append, hn]; rfl) dX9_init_35 rfl ?_
  refine y_putF (pc2 := 40) (cs' := (a ++ ([.inr (8, [rv G (235 + 1), rv G (235 + 2), rv G (235 + 3), rv G (235 + 4), .null, .null, .null, .null, .int 0, .int 0, .null, .int 0, .int 0, .int 0, .int 0]), .inl (G.2.2.1, 592, .inl (fun _ => 0)), .inl (G.2.2.1, 2368, .inl (fun _ => 0)), .inl (G.2.2.1, 592, .inl (fun _ => 0)), .inl (G.2.2.1, 592, .inl (fun _ => 0))]))) C (hin rfl) fn_X9_19 (ap_at0 hn rfl) rfl rfl (Nat.le_of_ble_eq_true rfl) (ap_set0 hn rfl) dX9_init_37 rfl ?_
  refine y_aload_n (pc2 := 41) C dX9_init_40 rfl rfl ?_
  refine y_bipush (pc2 := 43) C dX9_init_41 rfl bc_7 ?_
  refine y_newa (pc2 := 45) (atype := .float) (ty := .float) (t0 := 1) (N' := 7) (a0 := (7, .inr (.inr (.inl (fun _ => 0))))) (cells' := 5) (slots' := 4151) (n := 235 + 5) (cs' := (a ++ ([.inr (8, [rv G (235 + 1), rv G (235 + 2), rv G (235 + 3), rv G (235 + 4), .null, .null, .null, .null, .int 0, .int 0, .null, .int 0, .int 0, .int 0, .int 0]), .inl (G.2.2.1, 592, .inl (fun _ => 0)), .inl (G.2.2.1, 2368, .inl (fun _ => 0)), .inl (G.2.2.1, 592, .inl (fun _ => 0)), .inl (G.2.2.1, 592, .inl (fun _ => 0)), .inl (G.2.2.2.1, 7, .inr (.inr (.inl (fun _ => 0))))]))) C wt4_132 rfl rfl (fun h => h) (fun _ => rfl) (by decide) (by decide) (by decide) (Nat.le_of_ble_eq_true rfl) (Nat.le_of_ble_eq_true rfl) rfl rfl (List.append_assoc a _ _) (by rw [List.length_append, hn]; rfl) dX9_init_43 rfl ?_
  refine y_putF (pc2 := 48) (cs' := (a ++ ([.inr (8, [rv G (235 + 1), rv G (235 + 2), rv G (235 + 3), rv G (235 + 4), rv G (235 + 5), .null, .null, .null, .int 0, .int 0, .null, .int 0, .int 0, .int 0, .int 0]), .inl (G.2.2.1, 592, .inl (fun _ => 0)), .inl (G.2.2.1, 2368, .inl (fun _ => 0)), .inl (G.2.2.1, 592, .inl (fun _ => 0)), .inl (G.2.2.1, 592, .inl (fun _ => 0)), .inl (G.2.2.2.1, 7, .inr (.inr (.inl (fun _ => 0))))]))) C (hin rfl) fn_X9_22 (ap_at0 hn rfl) rfl rfl (Nat.le_of_ble_eq_true rfl) (ap_set0 hn rfl) dX9_init_45 rfl ?_
  refine y_aload_n (pc2 := 49) C dX9_init_48 rfl rfl ?_
  refine y_bipush (pc2 := 51) C dX9_init_49 rfl bc_28 ?_
  refine y_newa (pc2 := 53) (atype := .float) (ty := .float) (t0 := 1) (N' := 28) (a0 := (28, .inr (.inr (.inl (fun _ => 0))))) (cells' := 6) (slots' := 4179) (n := 235 + 6) (cs' := (a ++ ([.inr (8, [rv G (235 + 1), rv G (235 + 2), rv G (235 + 3), rv G (235 + 4), rv G (235 + 5), .null, .null, .null, .int 0, .int 0, .null, .int 0, .int 0, .int 0, .int 0]), .inl (G.2.2.1, 592, .inl (fun _ => 0)), .inl (G.2.2.1, 2368, .inl (fun _ => 0)), .inl (G.2.2.1, 592, .inl (fun _ => 0)), .inl (G.2.2.1, 592, .inl (fun _ => 0)), .inl (G.2.2.2.1, 7, .inr (.inr (.inl (fun _ => 0)))), .inl (G.2.2.2.1, 28, .inr (.inr (.inl (fun _ => 0))))]))) C wt4_132 rfl rfl (fun h => h) (fun _ => rfl) (by decide) (by decide) (by decide) (Nat.le_of_ble_eq_true rfl) (Nat.le_of_ble_eq_true rfl) rfl rfl (List.append_assoc a _ _) (by rw [List.length_append, hn]; rfl) dX9_init_51 rfl ?_
  refine y_putF (pc2 := 56) (cs' := (a ++ ([.inr (8, [rv G (235 + 1), rv G (235 + 2), rv G (235 + 3), rv G (235 + 4), rv G (235 + 5), rv G (235 + 6), .null, .null, .int 0, .int 0, .null, .int 0, .int 0, .int 0, .int 0]), .inl (G.2.2.1, 592, .inl (fun _ => 0)), .inl (G.2.2.1, 2368, .inl (fun _ => 0)), .inl (G.2.2.1, 592, .inl (fun _ => 0)), .inl (G.2.2.1, 592, .inl (fun _ => 0)), .inl (G.2.2.2.1, 7, .inr (.inr (.inl (fun _ => 0)))), .inl (G.2.2.2.1, 28, .inr (.inr (.inl (fun _ => 0))))]))) C (hin rfl) fn_X9_26 (ap_at0 hn rfl) rfl rfl (Nat.le_of_ble_eq_true rfl) (ap_set0 hn rfl) dX9_init_53 rfl ?_
  refine y_aload_n (pc2 := 57) C dX9_init_56 rfl rfl ?_
  refine y_bipush (pc2 := 59) C dX9_init_57 rfl bc_7 ?_
  refine y_newa (pc2 := 61) (atype := .float) (ty := .float) (t0 := 1) (N' := 7) (a0 := (7, .inr (.inr (.inl (fun _ => 0))))) (cells' := 7) (slots' := 4186) (n := 235 + 7) (cs' := (a ++ ([.inr (8, [rv G (235 + 1), rv G (235 + 2), rv G (235 + 3), rv G (235 + 4), rv G (235 + 5), rv G (235 + 6), .null, .null, .int 0, .int 0, .null, .int 0, .int 0, .int 0, .int 0]), .inl (G.2.2.1, 592, .inl (fun _ => 0)), .inl (G.2.2.1, 2368, .inl (fun _ => 0)), .inl (G.2.2.1, 592, .inl (fun _ => 0)), .inl (G.2.2.1, 592, .inl (fun _ => 0)), .inl (G.2.2.2.1, 7, .inr (.inr (.inl (fun _ => 0)))), .inl (G.2.2.2.1, 28, .inr (.inr (.inl (fun _ => 0)))), .inl (G.2.2.2.1, 7, .inr (.inr (.inl (fun _ => 0))))]))) C wt4_132 rfl rfl (fun h => h) (fun _ => rfl) (by decide) (by decide) (by decide) (Nat.le_of_ble_eq_true rfl) (Nat.le_of_ble_eq_true rfl) rfl rfl (List.append_assoc a _ _) (by rw [List.length_append, hn]; rfl) dX9_init_59 rfl ?_
  refine y_putF (pc2 := 64) (cs' := (a ++ ([.inr (8, [rv G (235 + 1), rv G (235 + 2), rv G (235 + 3), rv G (235 + 4), rv G (235 + 5), rv G (235 + 6), rv G (235 + 7), .null, .int 0, .int 0, .null, .int 0, .int 0, .int 0, .int 0]), .inl (G.2.2.1, 592, .inl (fun _ => 0)), .inl (G.2.2.1, 2368, .inl (fun _ => 0)), .inl (G.2.2.1, 592, .inl (fun _ => 0)), .inl (G.2.2.1, 592, .inl (fun _ => 0)), .inl (G.2.2.2.1, 7, .inr (.inr (.inl (fun _ => 0)))), .inl (G.2.2.2.1, 28, .inr (.inr (.inl (fun _ => 0)))), .inl (G.2.2.2.1, 7, .inr (.inr (.inl (fun _ => 0))))]))) C (hin rfl) fn_X9_29 (ap_at0 hn rfl) rfl rfl (Nat.le_of_ble_eq_true rfl) (ap_set0 hn rfl) dX9_init_61 rfl ?_
  refine y_aload_n (pc2 := 65) C dX9_init_64 rfl rfl ?_
  refine y_bipush (pc2 := 67) C dX9_init_65 rfl bc_7 ?_
  refine y_newa (pc2 := 69) (atype := .float) (ty := .float) (t0 := 1) (N' := 7) (a0 := (7, .inr (.inr (.inl (fun _ => 0))))) (cells' := 8) (slots' := 4193) (n := 235 + 8) (cs' := (a ++ ([.inr (8, [rv G (235 + 1), rv G (235 + 2), rv G (235 + 3), rv G (235 + 4), rv G (235 + 5), rv G (235 + 6), rv G (235 + 7), .null, .int 0, .int 0, .null, .int 0, .int 0, .int 0, .int 0]), .inl (G.2.2.1, 592, .inl (fun _ => 0)), .inl (G.2.2.1, 2368, .inl (fun _ => 0)), .inl (G.2.2.1, 592, .inl (fun _ => 0)), .inl (G.2.2.1, 592, .inl (fun _ => 0)), .inl (G.2.2.2.1, 7, .inr (.inr (.inl (fun _ => 0)))), .inl (G.2.2.2.1, 28, .inr (.inr (.inl (fun _ => 0)))), .inl (G.2.2.2.1, 7, .inr (.inr (.inl (fun _ => 0)))), .inl (G.2.2.2.1, 7, .inr (.inr (.inl (fun _ => 0))))]))) C wt4_132 rfl rfl (fun h => h) (fun _ => rfl) (by decide) (by decide) (by decide) (Nat.le_of_ble_eq_true rfl) (Nat.le_of_ble_eq_true rfl) rfl rfl (List.append_assoc a _ _) (by rw [List.length_append, hn]; rfl) dX9_init_67 rfl ?_
  refine y_putF (pc2 := 72) (cs' := (a ++ ([.inr (8, [rv G (235 + 1), rv G (235 + 2), rv G (235 + 3), rv G (235 + 4), rv G (235 + 5), rv G (235 + 6), rv G (235 + 7), rv G (235 + 8), .int 0, .int 0, .null, .int 0, .int 0, .int 0, .int 0]), .inl (G.2.2.1, 592, .inl (fun _ => 0)), .inl (G.2.2.1, 2368, .inl (fun _ => 0)), .inl (G.2.2.1, 592, .inl (fun _ => 0)), .inl (G.2.2.1, 592, .inl (fun _ => 0)), .inl (G.2.2.2.1, 7, .inr (.inr (.inl (fun _ => 0)))), .inl (G.2.2.2.1, 28, .inr (.inr (.inl (fun _ => 0)))), .inl (G.2.2.2.1, 7, .inr (.inr (.inl (fun _ => 0)))), .inl (G.2.2.2.1, 7, .inr (.inr (.inl (fun _ => 0))))]))) C (hin rfl) fn_X9_32 (ap_at0 hn rfl) rfl rfl (Nat.le_of_ble_eq_true rfl) (ap_set0 hn rfl) dX9_init_69 rfl ?_
  refine y_aload_n (pc2 := 73) C dX9_init_72 rfl rfl ?_
  refine y_bipush (pc2 := 75) C dX9_init_73 rfl bc_60 ?_
  refine y_newa (pc2 := 77) (atype := .char) (ty := .char) (t0 := 2) (N' := 60) (a0 := (60, .inl (fun _ => 0))) (cells' := 9) (slots' := 4253) (n := 235 + 9) (cs' := (a ++ ([.inr (8, [rv G (235 + 1), rv G (235 + 2), rv G (235 + 3), rv G (235 + 4), rv G (235 + 5), rv G (235 + 6), rv G (235 + 7), rv G (235 + 8), .int 0, .int 0, .null, .int 0, .int 0, .int 0, .int 0]), .inl (G.2.2.1, 592, .inl (fun _ => 0)), .inl (G.2.2.1, 2368, .inl (fun _ => 0)), .inl (G.2.2.1, 592, .inl (fun _ => 0)), .inl (G.2.2.1, 592, .inl (fun _ => 0)), .inl (G.2.2.2.1, 7, .inr (.inr (.inl (fun _ => 0)))), .inl (G.2.2.2.1, 28, .inr (.inr (.inl (fun _ => 0)))), .inl (G.2.2.2.1, 7, .inr (.inr (.inl (fun _ => 0)))), .inl (G.2.2.2.1, 7, .inr (.inr (.inl (fun _ => 0)))), .inl (G.2.2.2.2.1, 60, .inl (fun _ => 0))]))) C wt2_26 rfl rfl (fun h => h) (fun _ => rfl) (by decide) (by decide) (by decide) (Nat.le_of_ble_eq_true rfl) (Nat.le_of_ble_eq_true rfl) rfl rfl (List.append_assoc a _ _) (by rw [List.length_append, hn]; rfl) dX9_init_75 rfl ?_
  refine y_putF (pc2 := 80) (cs' := (a ++ ([.inr (8, [rv G (235 + 1), rv G (235 + 2), rv G (235 + 3), rv G (235 + 4), rv G (235 + 5), rv G (235 + 6), rv G (235 + 7), rv G (235 + 8), .int 0, .int 0, rv G (235 + 9), .int 0, .int 0, .int 0, .int 0]), .inl (G.2.2.1, 592, .inl (fun _ => 0)), .inl (G.2.2.1, 2368, .inl (fun _ => 0)), .inl (G.2.2.1, 592, .inl (fun _ => 0)), .inl (G.2.2.1, 592, .inl (fun _ => 0)), .inl (G.2.2.2.1, 7, .inr (.inr (.inl (fun _ => 0)))), .inl (G.2.2.2.1, 28, .inr (.inr (.inl (fun _ => 0)))), .inl (G.2.2.2.1, 7, .inr (.inr (.inl (fun _ => 0)))), .inl (G.2.2.2.1, 7, .inr (.inr (.inl (fun _ => 0)))), .inl (G.2.2.2.2.1, 60, .inl (fun _ => 0))]))) C (hin rfl) fn_X9_35 (ap_at0 hn rfl) rfl rfl (Nat.le_of_ble_eq_true rfl) (ap_set0 hn rfl) dX9_init_77 rfl ?_
  refine oy_ox (M := Mz) (Z := fun r : Unit × Mem => MQ below (QQ G none r.2) args s 9 4253 (An G)) (by rw [ha]; exact wz_eq G) h0 ?_
  refine x_aload_n (pc2 := 81) C dX9_init_80 rfl rfl ?_
  refine x_get (pc2 := 84) C fl_X9_7 rfl (by decide) rfl dX9_init_81 rfl ?_
  refine x_iconst (pc2 := 85) C dX9_init_84 rfl ic_0 ?_
  refine x_iconst (pc2 := 86) C dX9_init_85 rfl ic_4 ?_
  refine x_iast (pc2 := 87) C (kf_8_0 rfl) dX9_init_86 rfl (fun M1 => ?_)
  refine x_aload_n (pc2 := 88) C dX9_init_87 rfl rfl ?_
  refine x_get (pc2 := 91) C fl_X9_7 rfl (by decide) rfl dX9_init_88 rfl ?_
  refine x_iconst (pc2 := 92) C dX9_init_91 rfl ic_1 ?_
  refine x_bipush (pc2 := 94) C dX9_init_92 rfl bc_6 ?_
  refine x_iast (pc2 := 95) C (kf_8_0 rfl) dX9_init_94 rfl (fun M2 => ?_)
  refine x_iconst (pc2 := 96) C dX9_init_95 rfl ic_0 ?_
  refine x_istore_n (pc2 := 97) C dX9_init_96 rfl [some (rv G 235), some (.int 0)] rfl rfl ?_
  refine x_wk [some (rv G 235), some (.int 0)] ⟨Or.inr rfl, Or.inr rfl, trivial⟩ ?_
  refine x_lp1 (fun (b3 : Int32) => [some (rv G 235), some (.int b3)]) 160 (fun (b6 : Unit) => [some (rv G 235), none]) ?_ ?_
  · intro b6 M7
    refine x_aload_n (pc2 := 161) C dX9_init_160 rfl rfl ?_
    refine x_get (pc2 := 164) C fl_X9_22 rfl (by decide) rfl dX9_init_161 rfl ?_
    refine x_iconst (pc2 := 165) C dX9_init_164 rfl ic_4 ?_
    refine x_ldcf (pc2 := 167) C wt4_79 dX9_init_165 rfl ?_
    refine x_fast (pc2 := 168) C (kf_8_4 rfl) dX9_init_167 rfl (fun M8 => ?_)
    refine x_aload_n (pc2 := 169) C dX9_init_168 rfl rfl ?_
    refine x_get (pc2 := 172) C fl_X9_22 rfl (by decide) rfl dX9_init_169 rfl ?_
    refine x_iconst (pc2 := 173) C dX9_init_172 rfl ic_5 ?_
    refine x_ldcf (pc2 := 175) C wt4_80 dX9_init_173 rfl ?_
    refine x_fast (pc2 := 176) C (kf_8_4 rfl) dX9_init_175 rfl (fun M9 => ?_)
    refine x_aload_n (pc2 := 177) C dX9_init_176 rfl rfl ?_
    refine x_get (pc2 := 180) C fl_X9_22 rfl (by decide) rfl dX9_init_177 rfl ?_
    refine x_bipush (pc2 := 182) C dX9_init_180 rfl bc_6 ?_
    refine x_ldcf (pc2 := 184) C wt4_81 dX9_init_182 rfl ?_
    refine x_fast (pc2 := 185) C (kf_8_4 rfl) dX9_init_184 rfl (fun M10 => ?_)
    refine x_aload_n (pc2 := 186) C dX9_init_185 rfl rfl ?_
    refine x_callVv (pc2 := 189) C [] [] cl_X9_44 (fun q hq => ctX9_clearKeys rfl q hq) rfl rfl rfl rfl ⟨rfl, rfl, Nat.le_of_ble_eq_true rfl, Nat.le_of_ble_eq_true rfl⟩ (Nat.le_of_ble_eq_true rfl) ⟨Nat.le_of_ble_eq_true rfl, Nat.le_of_ble_eq_true rfl⟩ dX9_init_186 rfl (fun v11 M12 => ?_)
    exact x_vretC C dX9_init_189
  · intro k13 hk13 rec5 hrec5 b3 M4
    refine x_iload_n (pc2 := 98) C dX9_init_97 rfl rfl ?_
    refine x_iconst (pc2 := 99) C dX9_init_98 rfl ic_2 ?_
    refine x_icmp_ge (tgt := 160) (pc2 := 102) C dX9_init_99 (by decide) rfl ?_ ?_
    · exact x_wk [some (rv G 235), none] ⟨Or.inr rfl, Or.inl rfl, trivial⟩ (hk13 () _)
    · refine x_aload_n (pc2 := 103) C dX9_init_102 rfl rfl ?_
      refine x_get (pc2 := 106) C fl_X9_7 rfl (by decide) rfl dX9_init_103 rfl ?_
      refine x_iconst (pc2 := 107) C dX9_init_106 rfl ic_3 ?_
      refine x_iload_n (pc2 := 108) C dX9_init_107 rfl rfl ?_
      refine x_iadd (pc2 := 109) C dX9_init_108 rfl ?_
      refine x_bipush (pc2 := 111) C dX9_init_109 rfl bc_m5 ?_
      refine x_iast (pc2 := 112) C (kf_8_0 rfl) dX9_init_111 rfl (fun M14 => ?_)
      refine x_aload_n (pc2 := 113) C dX9_init_112 rfl rfl ?_
      refine x_get (pc2 := 116) C fl_X9_7 rfl (by decide) rfl dX9_init_113 rfl ?_
      refine x_iconst (pc2 := 117) C dX9_init_116 rfl ic_5 ?_
      refine x_iload_n (pc2 := 118) C dX9_init_117 rfl rfl ?_
      refine x_iadd (pc2 := 119) C dX9_init_118 rfl ?_
      refine x_bipush (pc2 := 121) C dX9_init_119 rfl bc_m5 ?_
      refine x_iast (pc2 := 122) C (kf_8_0 rfl) dX9_init_121 rfl (fun M15 => ?_)
      refine x_aload_n (pc2 := 123) C dX9_init_122 rfl rfl ?_
      refine x_get (pc2 := 126) C fl_X9_22 rfl (by decide) rfl dX9_init_123 rfl ?_
      refine x_iconst (pc2 := 127) C dX9_init_126 rfl ic_0 ?_
      refine x_iload_n (pc2 := 128) C dX9_init_127 rfl rfl ?_
      refine x_iadd (pc2 := 129) C dX9_init_128 rfl ?_
      refine x_ldcf (pc2 := 131) C wt4_77 dX9_init_129 rfl ?_
      refine x_ldcf (pc2 := 133) C wt4_77 dX9_init_131 rfl ?_
      refine x_iload_n (pc2 := 134) C dX9_init_133 rfl rfl ?_
      refine x_i2f (pc2 := 135) C dX9_init_134 rfl ?_
      refine x_fmul (pc2 := 136) C dX9_init_135 rfl ?_
      refine x_topf (fun v16 => ?_)
      refine x_fadd (pc2 := 137) C dX9_init_136 rfl ?_
      refine x_topf (fun v17 => ?_)
      refine x_fast (pc2 := 138) C (kf_8_4 rfl) dX9_init_137 rfl (fun M18 => ?_)
      refine x_aload_n (pc2 := 139) C dX9_init_138 rfl rfl ?_
      refine x_get (pc2 := 142) C fl_X9_22 rfl (by decide) rfl dX9_init_139 rfl ?_
      refine x_iconst (pc2 := 143) C dX9_init_142 rfl ic_2 ?_
      refine x_iload_n (pc2 := 144) C dX9_init_143 rfl rfl ?_
      refine x_iadd (pc2 := 145) C dX9_init_144 rfl ?_
      refine x_ldcf (pc2 := 147) C wt4_78 dX9_init_145 rfl ?_
      refine x_ldcf (pc2 := 149) C wt4_77 dX9_init_147 rfl ?_
      refine x_iload_n (pc2 := 150) C dX9_init_149 rfl rfl ?_
      refine x_i2f (pc2 := 151) C dX9_init_150 rfl ?_
      refine x_fmul (pc2 := 152) C dX9_init_151 rfl ?_
      refine x_topf (fun v19 => ?_)
      refine x_fadd (pc2 := 153) C dX9_init_152 rfl ?_
      refine x_topf (fun v20 => ?_)
      refine x_fast (pc2 := 154) C (kf_8_4 rfl) dX9_init_153 rfl (fun M21 => ?_)
      refine x_iinc (pc2 := 157) (v := b3 + 1) C dX9_init_154 rfl rfl 1 ic_1 rfl [some (rv G 235), some (.int (b3 + 1))] rfl rfl ?_
      refine x_goto (tgt := 97) C dX9_init_157 (by decide) ?_
      exact x_wk [some (rv G 235), some (.int (b3 + 1))] ⟨Or.inr rfl, Or.inr rfl, trivial⟩ (hrec5 (b3 + 1) _)
