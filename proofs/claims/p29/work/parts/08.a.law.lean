theorem cl_L_120 : CLS RL 120 yL_cell cL_cell 2 (some .int) 2 := ⟨wt2_122, wt2_123, wt1_0, wt2_124, ⟨by decide +kernel, by decide +kernel, by decide +kernel⟩⟩
theorem cl_L_124 : CLV RL 124 yX8_restore cX8_restore 1 (some .int) 0 := ⟨wt2_117, wt2_118, wt2_119, wt1_1, wt2_120, ⟨by decide +kernel, by decide +kernel, by decide +kernel⟩⟩
theorem cl_L_127 : CLS RL 127 yL_acts cL_acts 8 (some .boolean) 3 := ⟨wt3_120, wt3_121, wt1_0, wt3_122, ⟨by decide +kernel, by decide +kernel, by decide +kernel⟩⟩
theorem cl_L_130 : CLS RL 130 yL_keyboard cL_keyboard 8 (some .boolean) 1 := ⟨wt2_224, wt2_225, wt1_0, wt2_226, ⟨by decide +kernel, by decide +kernel, by decide +kernel⟩⟩
theorem cl_L_134 : CLS RL 134 yL_typists cL_typists 11 (some .boolean) 1 := ⟨wt3_47, wt3_48, wt1_0, wt3_49, ⟨by decide +kernel, by decide +kernel, by decide +kernel⟩⟩
theorem cl_L_137 : CLS RL 137 yL_strokes cL_strokes 6 (some .boolean) 1 := ⟨wt3_77, wt3_78, wt1_0, wt3_79, ⟨by decide +kernel, by decide +kernel, by decide +kernel⟩⟩
theorem cl_L_140 : CLS RL 140 yL_ghosts cL_ghosts 4 (some .boolean) 2 := ⟨wt2_148, wt2_149, wt1_0, wt2_150, ⟨by decide +kernel, by decide +kernel, by decide +kernel⟩⟩
theorem cl_L_143 : CLS RL 143 yL_errors cL_errors 6 (some .boolean) 1 := ⟨wt4_35, wt4_36, wt1_0, wt4_37, ⟨by decide +kernel, by decide +kernel, by decide +kernel⟩⟩
theorem bc_36 : (Int8.ofInt 36).toInt32 = (36 : Int32) := by decide
theorem sc_10007 : (Int16.ofInt 10007).toInt32 = (10007 : Int32) := by decide
/-! THE SCRIPT: an array of the law's caller; cell reads it -/
theorem kd0 : kd 0 = 7 := by decide +kernel
def cv (Ln : Nat) (xs : Nat → Int32) (k : Int32) : Int32 := if nI Ln ≤ k then 10390003 * k + 10007 else xs k.toNatClampNeg
def fL_cell (Ln : Nat) (xs : Nat → Int32) (k : Int32) (M : Mem) : Option (Int32 × Mem) := asr (decide (0 ≤ k.toInt)) (some (cv Ln xs k, M))
def WX (G : bkG) (M : Mem) (b Ln : Nat) (xs : Nat → Int32) (U : State) : Prop := Wd G M U ∧ va_X b Ln xs U U.heap ∧ b < U.heap.size ∧ ¬ An G b
theorem wx_blind (G : bkG) (M : Mem) (b Ln : Nat) (xs : Nat → Int32) (av : List Value) : FrameBlind (va_Pc av (WX G M b Ln xs)) := by
  intro a U g mk h
  obtain ⟨h1, ⟨h2, h3, h4, h5⟩, h6, h7, h8⟩ := h
  exact ⟨h1, ⟨h2, va_K.moved (u := U) (U := U.calling g mk a) (Vm.Alike.refl U.vm) h3, va_Z.moved (u := U) (U := U.calling g mk a) (Vm.Alike.refl U.vm) h4, va_T.moved (u := U) (U := U.calling g mk a) (Vm.Alike.refl U.vm) h5⟩, va_X.moved (u := U) (U := U.calling g mk a) (Vm.Alike.refl U.vm) h6, h7, h8⟩
section ZROWS
variable {β : Type} {G : bkG} {p : Program} {l : Launch} {e : Env} {R : Room} {s : State} {m : MethodId} {args : Array Value} {below : List Frame} {meth : Method} {c : Code} {nL cells slots : Nat} {Z : β → State → Prop}
variable {cc : ByteArray} {own : String} {ret : Option FieldType} {o : Option β} {pc : Nat} {L : List (Option Value)} {st : List Value} {M : Mem}
theorem z_preX (C : Cx G p s m args meth c cc nL own ret) {H : Heap} {locs : List Loc} {b Ln : Nat} {xs : Nat → Int32} (hX : va_X b Ln xs s s.heap) (hbl : b < s.heap.size) (hbA : ¬ An G b) (hP : va_P G.2.1 vwCl (wo G M) H) (hS : va_S (An G) s.heap H locs) {av : List Value} : ∀ U : State, U.heap = H → s.WarmedH U.vm → va_Pc av (WX G M b Ln xs) av.toArray U := by
  intro U hU hW
  have hq : H[b]? = s.heap[b]? := hS.2.1 b hbl hbA
  obtain ⟨h1, h2⟩ := x_pre C hP hS (av := av) U hU hW
  refine ⟨h1, h2, ?_, ?_, hbA⟩
  · rw [hU]
    exact va_X.moved hW.alike (hX.kept hq)
  · rw [hU]
    obtain ⟨scr, hs, -⟩ := hX.kept hq
    exact (Array.getElem?_eq_some_iff.mp hs).1
theorem x_callXi (C : Cx G p s m args meth c cc nL own ret) {k : Int32 → Mem → Option β} {x : Option (Int32 × Mem)} {b Ln : Nat} {xs : Nat → Int32} (hX : va_X b Ln xs s s.heap) (hbl : b < s.heap.size) (hbA : ¬ An G b) {ix n maxL2 pc2 : Nat} {y : MethodName} {bytes : ByteArray} {ret2 : Option FieldType} {rm : Room} (As rest : List Value) (F : CLS own ix y bytes maxL2 ret2 n) (hM : ∀ q, x = some q → Met l y (Cond.code y bytes maxL2 ret2 :: TT) rm (va_Pc As (WX G M b Ln xs)) (QQ G (some (.int q.1)) q.2) 0 0 (An G)) (hst : st = As.reverse ++ rest) (hn : As.length = n) (hR : rm.cells = 0 ∧ rm.slots = 0 ∧ rm.frames + 1 ≤ R.frames ∧ 8 + (maxL2 + 11) + rm.locals ≤ R.locals) (hcat : (rest.map fun v => v.category).sum ≤ 8) (hcs : cells ≤ R.cells ∧ slots ≤ R.slots) (hdg : decode cc pc = .ok (.invokestatic ix, 3)) (hp : pc + 3 = pc2)
    (kk : ∀ v M1, OX G p l e R s m args below meth c nL cells slots Z (k v M1) pc2 L (.int v :: rest) M1) : OX G p l e R s m args below meth c nL cells slots Z (cal x k) pc L st M := by
  refine x_run (vl := fun v => some (.int v)) hp (fun q hq H locs ls hl hP hS => ?_) (fun v M1 _ => kk v M1)
  exact va_runS (As := As) (rest := rest) ⟨C.1, C.2.1, C.2.2.1, C.2.2.2.1, C.2.2.2.2.1⟩ (hM q hq) (va_cwS n C.2.2.2.2.1 (gS F) rfl hR.1 hR.2.1 F.2.2.2.2 hR.2.2) ⟨wx_blind G M b Ln xs _, z_preX C hX hbl hbA hP hS⟩ rfl hn hl.1 hst (lv_room hcat) hdg hcs
theorem x_scr (C : Cx G p s m args meth c cc nL own ret) {b Ln pc2 : Nat} {xs : Nat → Int32} {i : Int32} (hX : va_X b Ln xs s s.heap) (hbl : b < s.heap.size) (hbA : ¬ An G b) (hin : vp_in i Ln) (hdg : decode cc pc = .ok (.iaload, 1)) (hp : pc + 1 = pc2) (kk : OX G p l e R s m args below meth c nL cells slots Z o pc2 L (.int (xs i.toNatClampNeg) :: st) M) : OX G p l e R s m args below meth c nL cells slots Z o pc L (.int i :: .ref b :: st) M := by
  subst hp
  exact fun r hr H locs ls hl hP hS => va_sld C.1 C.2.1 hX hbl hbA hS hin hdg (kk r hr H locs ls hl hP hS)
theorem z_slen (C : Cx G p s m args meth c cc nL own ret) {b Ln pc2 : Nat} {xs : Nat → Int32} (hX : va_X b Ln xs s s.heap) (hbl : b < s.heap.size) (hbA : ¬ An G b) (hdg : decode cc pc = .ok (.arraylength, 1)) (hp : pc + 1 = pc2) (kk : OX G p l e R s m args below meth c nL cells slots Z o pc2 L (.int (nI Ln) :: st) M) : OX G p l e R s m args below meth c nL cells slots Z o pc L (.ref b :: st) M := by
  subst hp
  exact fun r hr H locs ls hl hP hS => va_slen C.1 C.2.1 hX hbl hbA hS hdg (kk r hr H locs ls hl hP hS)
theorem z_icmpgeT (C : Cx G p s m args meth c cc nL own ret) {x y : Int32} {off : Int} {tgt : Nat} (hdg : decode cc pc = .ok (.if_icmp .ge off, 3)) (ht : (pc : Int) + off = (tgt : Int)) (h : y ≤ x) (kk : OX G p l e R s m args below meth c nL cells slots Z o tgt L st M) : OX G p l e R s m args below meth c nL cells slots Z o pc L (.int y :: .int x :: st) M := fun r hr H locs ls hl hP hS => lv_icmp_ge C.1 C.2.1 hdg ht (fun _ => kk r hr H locs ls hl hP hS) (fun h2 => absurd h h2)
theorem z_icmpgeF (C : Cx G p s m args meth c cc nL own ret) {x y : Int32} {off : Int} {tgt pc2 : Nat} (hdg : decode cc pc = .ok (.if_icmp .ge off, 3)) (ht : (pc : Int) + off = (tgt : Int)) (h : ¬ y ≤ x) (hp : pc + 3 = pc2) (kk : OX G p l e R s m args below meth c nL cells slots Z o pc2 L st M) : OX G p l e R s m args below meth c nL cells slots Z o pc L (.int y :: .int x :: st) M := by
  subst hp
  exact fun r hr H locs ls hl hP hS => lv_icmp_ge C.1 C.2.1 hdg ht (fun h2 => absurd h2 h) (fun _ => kk r hr H locs ls hl hP hS)
end ZROWS
set_option maxRecDepth 100000 in
set_option maxHeartbeats 4000000 in
theorem ctL_cell {l : Launch} {G : bkG} {M : Mem} {b Ln : Nat} {xs : Nat → Int32} {k : Int32} (hLn : Ln < 2 ^ 31) : ∀ r, fL_cell Ln xs k M = some r → Met l yL_cell (Cond.code yL_cell cL_cell 2 (some .int) :: TT) ({ frames := 0, cells := 0, slots := 0, locals := 0 } : Room) (va_Pc [.ref b, .int k] (WX G M b Ln xs)) (QQ G (some (.int r.1)) r.2) 0 0 (An G) := by
  intro r hr
  obtain ⟨hk, hr⟩ := asr_some hr
  replace hk := of_decide_eq_true hk
  refine va_MetF (cc := cL_cell) (maxL := 2) (ret := some .int) (by decide +kernel) rfl ?_
  intro p e s m args below meth c s₁ B hml hv
  obtain ⟨rfl, ⟨hP, hK, hZ, hT⟩, hX, hbl, hbA⟩ := hv
  have hts := atoms_spec (ws := Cond.code yL_cell cL_cell 2 (some .int) :: TT) B.pre
  have hown : s.vm.findClass yL_cell.cls = some m.cls := findClass_of_methodNamed B.named
  rw [show yL_cell.cls = RL from rfl] at hown
  rw [lg_entry_eq]
  have C : Cx G p s m [Value.ref b, .int k].toArray meth c cL_cell 2 RL (some .int) := ⟨B.exec, B.bytes, hml, hown, fun w h => hts w (List.mem_cons_of_mem _ h), hK, hZ, hT, B.returns, B.notSynchronized⟩
  have key : OX G p l e ({ frames := 0, cells := 0, slots := 0, locals := 0 } : Room) s m [Value.ref b, .int k].toArray below meth c 2 0 0 (Zm (fun v => some (.int v)) G below [Value.ref b, .int k].toArray s) (some (cv Ln xs k, M)) 0 [some (.ref b), some (.int k)] [] M := by
    refine x_iload_n (pc2 := 1) C dL_cell_0 rfl rfl ?_
    refine x_aload_n (pc2 := 2) C dL_cell_1 rfl rfl ?_
    refine z_slen (pc2 := 3) C hX hbl hbA dL_cell_2 rfl ?_
    by_cases h : nI Ln ≤ k
    · refine z_icmpgeT (tgt := 12) C dL_cell_3 (by decide) h ?_
      refine x_ldc (pc2 := 14) C wt2_125 dL_cell_12 rfl ?_
      refine x_iload_n (pc2 := 15) C dL_cell_14 rfl rfl ?_
      refine x_imul (pc2 := 16) C dL_cell_15 rfl ?_
      refine x_sipush (pc2 := 19) C dL_cell_16 rfl sc_10007 ?_
      refine x_iadd (pc2 := 20) C dL_cell_19 rfl ?_
      rw [show cv Ln xs k = 10390003 * k + 10007 from if_pos h]
      exact x_iret C rfl rfl dL_cell_20
    · refine z_icmpgeF (pc2 := 6) (tgt := 12) C dL_cell_3 (by decide) h rfl ?_
      refine x_aload_n (pc2 := 7) C dL_cell_6 rfl rfl ?_
      refine x_iload_n (pc2 := 8) C dL_cell_7 rfl rfl ?_
      refine x_scr (pc2 := 9) C hX hbl hbA ?_ dL_cell_8 rfl ?_
      · rw [vp_in_iff]
        rw [Int32.le_iff_toInt_le, nI_toInt hLn] at h
        omega
      refine x_goto (tgt := 20) C dL_cell_9 (by decide) ?_
      rw [show cv Ln xs k = xs k.toNatClampNeg from if_neg h]
      exact x_iret C rfl rfl dL_cell_20
  exact key r hr s.heap [] _
    (lh_in [Value.ref b, .int k] 2 (fun v hv => by
      simp only [List.mem_cons, List.not_mem_nil, or_false] at hv
      rcases hv with rfl | rfl <;> rfl) (Nat.le_of_ble_eq_true rfl) rfl) hP va_S.rf
def LCx (G : bkG) (p : Program) (s : State) (m : MethodId) (meth : Method) (c : Code) (b Ln : Nat) (xs : Nat → Int32) : Prop :=
  Cx G p (s.setDrawn s.drawn) m #[Value.ref b] meth c cL_law 5 RL law_ret ∧ va_X b Ln xs s s.heap ∧ b < s.heap.size ∧ ¬ An G b ∧ Ln ≤ 260
theorem x_lawret {G : bkG} {p : Program} {l : Launch} {e : Env} {s : State} {m : MethodId} {below : List Frame} {meth : Method} {c : Code} {b : Nat} (hG : G.1 = s.heap.size) {pc : Nat} {L : List (Option Value)} {M : Mem} {x : Int32} (C : Cx G p (s.setDrawn s.drawn) m #[Value.ref b] meth c cL_law 5 RL law_ret) (hdg : decode cL_law pc = .ok (.ireturn, 1)) : OX (β := Unit) G p l e room_1 (s.setDrawn s.drawn) m #[Value.ref b] below meth c 5 235 4609 (fun _ => lw_Z below #[Value.ref b] s) (asr (decide (x = 1)) (some ())) pc L [.int x] M := by
  refine x_asr (fun hb => ?_)
  have hx := of_decide_eq_true hb
  subst hx
  intro r hr H locs ls hl hP hS
  refine va_forget (fun q hq => by have h3 : G.1 ≤ q.base := hS.2.2 q hq; rw [hG] at h3; exact h3) ?_
  exact lw_ret (Drawn.sameBut.refl s.drawn lw_cs) C.1 C.2.1 C.2.2.2.2.2.2.2.2.1 C.2.2.2.2.2.2.2.2.2 hdg
def FL_law_85 (Ln : Nat) (xs : Nat → Int32) (q1 : Nat) (k1 : Unit → Mem → Option Unit) (rec : Int32 → Mem → Option Unit) (b : Int32) (M : Mem) : Option Unit := if 36 ≤ b then k1 () M else cal (fL_cell Ln xs (1 + (2 * b)) M) (fun v1 M2 => cal (fL_cell Ln xs (2 + (2 * b)) M2) (fun v3 M4 => cal (fL_acts q1 v1 v3 M4) (fun v5 M6 => if v5 = 0 then asr (decide ((0 : Int32) = 1)) (some ()) else cal (fL_keyboard q1 M6) (fun v7 M8 => if v7 = 0 then asr (decide ((0 : Int32) = 1)) (some ()) else cal (fL_typists q1 M8) (fun v9 M10 => if v9 = 0 then asr (decide ((0 : Int32) = 1)) (some ()) else cal (fL_strokes q1 M10) (fun v11 M12 => if v11 = 0 then asr (decide ((0 : Int32) = 1)) (some ()) else rec (b + 1) M12))))))
def fL_law (Ln : Nat) (xs : Nat → Int32) : Option Unit := cal (fL_cell Ln xs 0 Mz) (fun v1 M2 => cal (fL_low v1 3 M2) (fun v3 M4 => cal (fL_cell Ln xs 0 M4) (fun v5 M6 => cal (fL_low (v5 >>> ((4 : Int32) &&& 31)) 4 M6) (fun v7 M8 => cal (fX8_undo 0 M8) (fun v9 M10 => if v9 = (-5) then cal (fX8_restore 0 M10) (fun v11 M12 => if v11 = (-5) then cal (fX8_build 0 (2 + v3) (2 + v7) M12) (fun v13 M14 => jn (fun (b15 : Int32) (M17 : Mem) => if v13 = b15 then lp (FL_law_85 Ln xs 0 (fun (b21 : Unit) (M22 : Mem) => cal (fL_cell Ln xs 1 M22) (fun v23 M24 => cal (fL_keys 0 M24) (fun v25 M26 => cal (fL_low v23 v25 M26) (fun v27 M28 => cal (fL_ghosts 0 v27 M28) (fun v29 M30 => if v29 = 0 then asr (decide ((0 : Int32) = 1)) (some ()) else cal (fL_cell Ln xs 2 M30) (fun v31 M32 => cal (fL_keys 0 M32) (fun v33 M34 => cal (fL_low v31 v33 M34) (fun v35 M36 => cal (fL_ghosts 0 v35 M36) (fun v37 M38 => if v37 = 0 then asr (decide ((0 : Int32) = 1)) (some ()) else cal (fL_errors 0 M38) (fun v39 M40 => if v39 = 0 then asr (decide ((0 : Int32) = 1)) (some ()) else asr (decide ((1 : Int32) = 1)) (some ())))))))))))) 1000000 0 M17 else asr (decide ((0 : Int32) = 1)) (some ())) (fun j16 => jn (fun (b54 : Unit) (M56 : Mem) => j16 ((2 + v3) * (2 + v7)) M56) (fun j55 => if (2 + v3) = 4 then if (2 + v7) = 6 then j16 (-5) M14 else j55 () M14 else j55 () M14))) else asr (decide ((0 : Int32) = 1)) (some ())) else asr (decide ((0 : Int32) = 1)) (some ()))))))
/-- WHAT IS OWED of the functions: the law answers 1 on every script -/
def PURE : Prop := ∀ (Ln : Nat) (xs : Nat → Int32), Ln ≤ 260 → fL_law Ln xs = some ()
set_option maxRecDepth 100000 in
set_option maxHeartbeats 4000000 in
theorem law_walk {G : bkG} {p : Program} {l : Launch} {e : Env} {s : State} {m : MethodId} {below : List Frame} {meth : Method} {c : Code} {b Ln : Nat} {xs : Nat → Int32} (hC : LCx G p s m meth c b Ln xs) (hG : G.1 = s.heap.size) : OX (β := Unit) G p l e room_1 (s.setDrawn s.drawn) m #[Value.ref b] below meth c 5 235 4609 (fun _ => lw_Z below #[Value.ref b] s) (fL_law Ln xs) 8 [some (.ref b), some (rv G 0), none, none, none] [] Mz := by
  obtain ⟨C, hX, hbl, hbA, hLn0⟩ := hC
  have hLn : Ln < 2 ^ 31 := by omega
  have hX : va_X b Ln xs (s.setDrawn s.drawn) (s.setDrawn s.drawn).heap := hX
  have hbl : b < (s.setDrawn s.drawn).heap.size := hbl
  refine x_iconst (pc2 := 9) C dL_law_8 rfl ic_2 ?_
  refine x_aload_n (pc2 := 10) C dL_law_9 rfl rfl ?_
  refine x_iconst (pc2 := 11) C dL_law_10 rfl ic_0 ?_
  refine x_callXi (pc2 := 14) C hX hbl hbA [.ref b, .int 0] [.int 2] cl_L_120 (fun q hq => ctL_cell (hLn) q hq) rfl rfl ⟨rfl, rfl, Nat.le_of_ble_eq_true rfl, Nat.le_of_ble_eq_true rfl⟩ (Nat.le_of_ble_eq_true rfl) ⟨Nat.le_of_ble_eq_true rfl, Nat.le_of_ble_eq_true rfl⟩ dL_law_11 rfl (fun v1 M2 => ?_)
  refine x_iconst (pc2 := 15) C dL_law_14 rfl ic_3 ?_
  refine x_callSi (pc2 := 18) C [.int v1, .int 3] [.int 2] cl_L_73 (fun q hq => ctL_low  q hq) rfl rfl ⟨rfl, rfl, Nat.le_of_ble_eq_true rfl, Nat.le_of_ble_eq_true rfl⟩ (Nat.le_of_ble_eq_true rfl) ⟨Nat.le_of_ble_eq_true rfl, Nat.le_of_ble_eq_true rfl⟩ dL_law_15 rfl (fun v3 M4 => ?_)
  refine x_iadd (pc2 := 19) C dL_law_18 rfl ?_
  refine x_istore_n (pc2 := 20) C dL_law_19 rfl [some (.ref b), some (rv G 0), some (.int (2 + v3)), none, none] rfl rfl ?_
  refine x_iconst (pc2 := 21) C dL_law_20 rfl ic_2 ?_
  refine x_aload_n (pc2 := 22) C dL_law_21 rfl rfl ?_
  refine x_iconst (pc2 := 23) C dL_law_22 rfl ic_0 ?_
  refine x_callXi (pc2 := 26) C hX hbl hbA [.ref b, .int 0] [.int 2] cl_L_120 (fun q hq => ctL_cell (hLn) q hq) rfl rfl ⟨rfl, rfl, Nat.le_of_ble_eq_true rfl, Nat.le_of_ble_eq_true rfl⟩ (Nat.le_of_ble_eq_true rfl) ⟨Nat.le_of_ble_eq_true rfl, Nat.le_of_ble_eq_true rfl⟩ dL_law_23 rfl (fun v5 M6 => ?_)
  refine x_iconst (pc2 := 27) C dL_law_26 rfl ic_4 ?_
  refine x_ishr (pc2 := 28) C dL_law_27 rfl ?_
  refine x_iconst (pc2 := 29) C dL_law_28 rfl ic_4 ?_
  refine x_callSi (pc2 := 32) C [.int (v5 >>> ((4 : Int32) &&& 31)), .int 4] [.int 2] cl_L_73 (fun q hq => ctL_low  q hq) rfl rfl ⟨rfl, rfl, Nat.le_of_ble_eq_true rfl, Nat.le_of_ble_eq_true rfl⟩ (Nat.le_of_ble_eq_true rfl) ⟨Nat.le_of_ble_eq_true rfl, Nat.le_of_ble_eq_true rfl⟩ dL_law_29 rfl (fun v7 M8 => ?_)
  refine x_iadd (pc2 := 33) C dL_law_32 rfl ?_
  refine x_istore_n (pc2 := 34) C dL_law_33 rfl [some (.ref b), some (rv G 0), some (.int (2 + v3)), some (.int (2 + v7)), none] rfl rfl ?_
  refine x_aload_n (pc2 := 35) C dL_law_34 rfl rfl ?_
  refine x_callVi (pc2 := 38) C [] [] cl_L_116 (fun q hq => ctX8_undo kd0 q hq) kd0 rfl rfl rfl ⟨rfl, rfl, Nat.le_of_ble_eq_true rfl, Nat.le_of_ble_eq_true rfl⟩ (Nat.le_of_ble_eq_true rfl) ⟨Nat.le_of_ble_eq_true rfl, Nat.le_of_ble_eq_true rfl⟩ dL_law_35 rfl (fun v9 M10 => ?_)
  refine x_bipush (pc2 := 40) C dL_law_38 rfl bc_m5 ?_
  refine x_icmp_ne (tgt := 80) (pc2 := 43) C dL_law_40 (by decide) rfl ?_ ?_
  · refine x_iconst (pc2 := 81) C dL_law_80 rfl ic_0 ?_
    exact x_lawret hG C dL_law_81
  · refine x_aload_n (pc2 := 44) C dL_law_43 rfl rfl ?_
    refine x_callVi (pc2 := 47) C [] [] cl_L_124 (fun q hq => ctX8_restore kd0 q hq) kd0 rfl rfl rfl ⟨rfl, rfl, Nat.le_of_ble_eq_true rfl, Nat.le_of_ble_eq_true rfl⟩ (Nat.le_of_ble_eq_true rfl) ⟨Nat.le_of_ble_eq_true rfl, Nat.le_of_ble_eq_true rfl⟩ dL_law_44 rfl (fun v11 M12 => ?_)
    refine x_bipush (pc2 := 49) C dL_law_47 rfl bc_m5 ?_
    refine x_icmp_ne (tgt := 80) (pc2 := 52) C dL_law_49 (by decide) rfl ?_ ?_
    · refine x_iconst (pc2 := 81) C dL_law_80 rfl ic_0 ?_
      exact x_lawret hG C dL_law_81
    · refine x_aload_n (pc2 := 53) C dL_law_52 rfl rfl ?_
      refine x_iload_n (pc2 := 54) C dL_law_53 rfl rfl ?_
      refine x_iload_n (pc2 := 55) C dL_law_54 rfl rfl ?_
      refine x_callVi (pc2 := 58) C [.int (2 + v3), .int (2 + v7)] [] cl_L_95 (fun q hq => ctX8_build kd0 q hq) kd0 rfl rfl rfl ⟨rfl, rfl, Nat.le_of_ble_eq_true rfl, Nat.le_of_ble_eq_true rfl⟩ (Nat.le_of_ble_eq_true rfl) ⟨Nat.le_of_ble_eq_true rfl, Nat.le_of_ble_eq_true rfl⟩ dL_law_55 rfl (fun v13 M14 => ?_)
      refine x_iload_n (pc2 := 59) C dL_law_58 rfl rfl ?_
      refine x_iconst (pc2 := 60) C dL_law_59 rfl ic_4 ?_
      refine x_jn 77 (fun (b15 : Int32) => [some (.ref b), some (rv G 0), none, none, none]) (fun (b15 : Int32) => [.int b15, .int v13]) ?_ ?_
      · intro b15 M17
        refine x_icmp_eq (tgt := 82) (pc2 := 80) C dL_law_77 (by decide) rfl ?_ ?_
        · refine x_iconst (pc2 := 83) C dL_law_82 rfl ic_0 ?_
          refine x_istore (pc2 := 85) C dL_law_83 rfl [some (.ref b), some (rv G 0), none, none, some (.int 0)] rfl rfl ?_
          refine x_wk [some (.ref b), some (rv G 0), none, none, some (.int 0)] ⟨Or.inr rfl, Or.inr rfl, Or.inl rfl, Or.inl rfl, Or.inr rfl, trivial⟩ ?_
          refine x_lp1 (fun (b18 : Int32) => [some (.ref b), some (rv G 0), none, none, some (.int b18)]) 148 (fun (b21 : Unit) => [some (.ref b), some (rv G 0), none, none, none]) ?_ ?_
          · intro b21 M22
            refine x_aload_n (pc2 := 149) C dL_law_148 rfl rfl ?_
            refine x_aload_n (pc2 := 150) C dL_law_149 rfl rfl ?_
            refine x_iconst (pc2 := 151) C dL_law_150 rfl ic_1 ?_
            refine x_callXi (pc2 := 154) C hX hbl hbA [.ref b, .int 1] [rv G 0] cl_L_120 (fun q hq => ctL_cell (hLn) q hq) rfl rfl ⟨rfl, rfl, Nat.le_of_ble_eq_true rfl, Nat.le_of_ble_eq_true rfl⟩ (Nat.le_of_ble_eq_true rfl) ⟨Nat.le_of_ble_eq_true rfl, Nat.le_of_ble_eq_true rfl⟩ dL_law_151 rfl (fun v23 M24 => ?_)
            refine x_aload_n (pc2 := 155) C dL_law_154 rfl rfl ?_
            refine x_callSi (pc2 := 158) C [rv G 0] [.int v23, rv G 0] cl_L_15 (fun q hq => ctL_keys kd0 q hq) rfl rfl ⟨rfl, rfl, Nat.le_of_ble_eq_true rfl, Nat.le_of_ble_eq_true rfl⟩ (Nat.le_of_ble_eq_true rfl) ⟨Nat.le_of_ble_eq_true rfl, Nat.le_of_ble_eq_true rfl⟩ dL_law_155 rfl (fun v25 M26 => ?_)
            refine x_callSi (pc2 := 161) C [.int v23, .int v25] [rv G 0] cl_L_73 (fun q hq => ctL_low  q hq) rfl rfl ⟨rfl, rfl, Nat.le_of_ble_eq_true rfl, Nat.le_of_ble_eq_true rfl⟩ (Nat.le_of_ble_eq_true rfl) ⟨Nat.le_of_ble_eq_true rfl, Nat.le_of_ble_eq_true rfl⟩ dL_law_158 rfl (fun v27 M28 => ?_)
            refine x_callSi (pc2 := 164) C [rv G 0, .int v27] [] cl_L_140 (fun q hq => ctL_ghosts kd0 q hq) rfl rfl ⟨rfl, rfl, Nat.le_of_ble_eq_true rfl, Nat.le_of_ble_eq_true rfl⟩ (Nat.le_of_ble_eq_true rfl) ⟨Nat.le_of_ble_eq_true rfl, Nat.le_of_ble_eq_true rfl⟩ dL_law_161 rfl (fun v29 M30 => ?_)
            refine x_if_eq (tgt := 197) (pc2 := 167) C dL_law_164 (by decide) rfl ?_ ?_
            · refine x_iconst (pc2 := 198) C dL_law_197 rfl ic_0 ?_
              exact x_lawret hG C dL_law_198
            · refine x_aload_n (pc2 := 168) C dL_law_167 rfl rfl ?_
              refine x_aload_n (pc2 := 169) C dL_law_168 rfl rfl ?_
              refine x_iconst (pc2 := 170) C dL_law_169 rfl ic_2 ?_
              refine x_callXi (pc2 := 173) C hX hbl hbA [.ref b, .int 2] [rv G 0] cl_L_120 (fun q hq => ctL_cell (hLn) q hq) rfl rfl ⟨rfl, rfl, Nat.le_of_ble_eq_true rfl, Nat.le_of_ble_eq_true rfl⟩ (Nat.le_of_ble_eq_true rfl) ⟨Nat.le_of_ble_eq_true rfl, Nat.le_of_ble_eq_true rfl⟩ dL_law_170 rfl (fun v31 M32 => ?_)
              refine x_aload_n (pc2 := 174) C dL_law_173 rfl rfl ?_
              refine x_callSi (pc2 := 177) C [rv G 0] [.int v31, rv G 0] cl_L_15 (fun q hq => ctL_keys kd0 q hq) rfl rfl ⟨rfl, rfl, Nat.le_of_ble_eq_true rfl, Nat.le_of_ble_eq_true rfl⟩ (Nat.le_of_ble_eq_true rfl) ⟨Nat.le_of_ble_eq_true rfl, Nat.le_of_ble_eq_true rfl⟩ dL_law_174 rfl (fun v33 M34 => ?_)
              refine x_callSi (pc2 := 180) C [.int v31, .int v33] [rv G 0] cl_L_73 (fun q hq => ctL_low  q hq) rfl rfl ⟨rfl, rfl, Nat.le_of_ble_eq_true rfl, Nat.le_of_ble_eq_true rfl⟩ (Nat.le_of_ble_eq_true rfl) ⟨Nat.le_of_ble_eq_true rfl, Nat.le_of_ble_eq_true rfl⟩ dL_law_177 rfl (fun v35 M36 => ?_)
              refine x_callSi (pc2 := 183) C [rv G 0, .int v35] [] cl_L_140 (fun q hq => ctL_ghosts kd0 q hq) rfl rfl ⟨rfl, rfl, Nat.le_of_ble_eq_true rfl, Nat.le_of_ble_eq_true rfl⟩ (Nat.le_of_ble_eq_true rfl) ⟨Nat.le_of_ble_eq_true rfl, Nat.le_of_ble_eq_true rfl⟩ dL_law_180 rfl (fun v37 M38 => ?_)
              refine x_if_eq (tgt := 197) (pc2 := 186) C dL_law_183 (by decide) rfl ?_ ?_
              · refine x_iconst (pc2 := 198) C dL_law_197 rfl ic_0 ?_
                exact x_lawret hG C dL_law_198
              · refine x_aload_n (pc2 := 187) C dL_law_186 rfl rfl ?_
                refine x_callSi (pc2 := 190) C [rv G 0] [] cl_L_143 (fun q hq => ctL_errors kd0 q hq) rfl rfl ⟨rfl, rfl, Nat.le_of_ble_eq_true rfl, Nat.le_of_ble_eq_true rfl⟩ (Nat.le_of_ble_eq_true rfl) ⟨Nat.le_of_ble_eq_true rfl, Nat.le_of_ble_eq_true rfl⟩ dL_law_187 rfl (fun v39 M40 => ?_)
                refine x_if_eq (tgt := 197) (pc2 := 193) C dL_law_190 (by decide) rfl ?_ ?_
                · refine x_iconst (pc2 := 198) C dL_law_197 rfl ic_0 ?_
                  exact x_lawret hG C dL_law_198
                · refine x_iconst (pc2 := 194) C dL_law_193 rfl ic_1 ?_
                  refine x_goto (tgt := 198) C dL_law_194 (by decide) ?_
                  exact x_lawret hG C dL_law_198
          · intro k41 hk41 rec20 hrec20 b18 M19
            refine x_iload (pc2 := 87) C dL_law_85 rfl rfl ?_
            refine x_bipush (pc2 := 89) C dL_law_87 rfl bc_36 ?_
            refine x_icmp_ge (tgt := 148) (pc2 := 92) C dL_law_89 (by decide) rfl ?_ ?_
            · exact x_wk [some (.ref b), some (rv G 0), none, none, none] ⟨Or.inr rfl, Or.inr rfl, Or.inl rfl, Or.inl rfl, Or.inl rfl, trivial⟩ (hk41 () _)
            · refine x_aload_n (pc2 := 93) C dL_law_92 rfl rfl ?_
              refine x_aload_n (pc2 := 94) C dL_law_93 rfl rfl ?_
              refine x_iconst (pc2 := 95) C dL_law_94 rfl ic_1 ?_
              refine x_iconst (pc2 := 96) C dL_law_95 rfl ic_2 ?_
              refine x_iload (pc2 := 98) C dL_law_96 rfl rfl ?_
              refine x_imul (pc2 := 99) C dL_law_98 rfl ?_
              refine x_iadd (pc2 := 100) C dL_law_99 rfl ?_
              refine x_callXi (pc2 := 103) C hX hbl hbA [.ref b, .int (1 + (2 * b18))] [rv G 0] cl_L_120 (fun q hq => ctL_cell (hLn) q hq) rfl rfl ⟨rfl, rfl, Nat.le_of_ble_eq_true rfl, Nat.le_of_ble_eq_true rfl⟩ (Nat.le_of_ble_eq_true rfl) ⟨Nat.le_of_ble_eq_true rfl, Nat.le_of_ble_eq_true rfl⟩ dL_law_100 rfl (fun v42 M43 => ?_)
              refine x_aload_n (pc2 := 104) C dL_law_103 rfl rfl ?_
              refine x_iconst (pc2 := 105) C dL_law_104 rfl ic_2 ?_
              refine x_iconst (pc2 := 106) C dL_law_105 rfl ic_2 ?_
              refine x_iload (pc2 := 108) C dL_law_106 rfl rfl ?_
              refine x_imul (pc2 := 109) C dL_law_108 rfl ?_
              refine x_iadd (pc2 := 110) C dL_law_109 rfl ?_
              refine x_callXi (pc2 := 113) C hX hbl hbA [.ref b, .int (2 + (2 * b18))] [.int v42, rv G 0] cl_L_120 (fun q hq => ctL_cell (hLn) q hq) rfl rfl ⟨rfl, rfl, Nat.le_of_ble_eq_true rfl, Nat.le_of_ble_eq_true rfl⟩ (Nat.le_of_ble_eq_true rfl) ⟨Nat.le_of_ble_eq_true rfl, Nat.le_of_ble_eq_true rfl⟩ dL_law_110 rfl (fun v44 M45 => ?_)
              refine x_callSi (pc2 := 116) C [rv G 0, .int v42, .int v44] [] cl_L_127 (fun q hq => ctL_acts kd0 q hq) rfl rfl ⟨rfl, rfl, Nat.le_of_ble_eq_true rfl, Nat.le_of_ble_eq_true rfl⟩ (Nat.le_of_ble_eq_true rfl) ⟨Nat.le_of_ble_eq_true rfl, Nat.le_of_ble_eq_true rfl⟩ dL_law_113 rfl (fun v46 M47 => ?_)
              refine x_if_eq (tgt := 140) (pc2 := 119) C dL_law_116 (by decide) rfl ?_ ?_
              · refine x_iconst (pc2 := 141) C dL_law_140 rfl ic_0 ?_
                exact x_lawret hG C dL_law_141
              · refine x_aload_n (pc2 := 120) C dL_law_119 rfl rfl ?_
                refine x_callSi (pc2 := 123) C [rv G 0] [] cl_L_130 (fun q hq => ctL_keyboard kd0 q hq) rfl rfl ⟨rfl, rfl, Nat.le_of_ble_eq_true rfl, Nat.le_of_ble_eq_true rfl⟩ (Nat.le_of_ble_eq_true rfl) ⟨Nat.le_of_ble_eq_true rfl, Nat.le_of_ble_eq_true rfl⟩ dL_law_120 rfl (fun v48 M49 => ?_)
                refine x_if_eq (tgt := 140) (pc2 := 126) C dL_law_123 (by decide) rfl ?_ ?_
                · refine x_iconst (pc2 := 141) C dL_law_140 rfl ic_0 ?_
                  exact x_lawret hG C dL_law_141
                · refine x_aload_n (pc2 := 127) C dL_law_126 rfl rfl ?_
                  refine x_callSi (pc2 := 130) C [rv G 0] [] cl_L_134 (fun q hq => ctL_typists kd0 q hq) rfl rfl ⟨rfl, rfl, Nat.le_of_ble_eq_true rfl, Nat.le_of_ble_eq_true rfl⟩ (Nat.le_of_ble_eq_true rfl) ⟨Nat.le_of_ble_eq_true rfl, Nat.le_of_ble_eq_true rfl⟩ dL_law_127 rfl (fun v50 M51 => ?_)
                  refine x_if_eq (tgt := 140) (pc2 := 133) C dL_law_130 (by decide) rfl ?_ ?_
                  · refine x_iconst (pc2 := 141) C dL_law_140 rfl ic_0 ?_
                    exact x_lawret hG C dL_law_141
                  · refine x_aload_n (pc2 := 134) C dL_law_133 rfl rfl ?_
                    refine x_callSi (pc2 := 137) C [rv G 0] [] cl_L_137 (fun q hq => ctL_strokes kd0 q hq) rfl rfl ⟨rfl, rfl, Nat.le_of_ble_eq_true rfl, Nat.le_of_ble_eq_true rfl⟩ (Nat.le_of_ble_eq_true rfl) ⟨Nat.le_of_ble_eq_true rfl, Nat.le_of_ble_eq_true rfl⟩ dL_law_134 rfl (fun v52 M53 => ?_)
                    refine x_if_ne (tgt := 142) (pc2 := 140) C dL_law_137 (by decide) rfl ?_ ?_
                    · refine x_iinc (pc2 := 145) (v := b18 + 1) C dL_law_142 rfl rfl 1 ic_1 rfl [some (.ref b), some (rv G 0), none, none, some (.int (b18 + 1))] rfl rfl ?_
                      refine x_goto (tgt := 85) C dL_law_145 (by decide) ?_
                      exact x_wk [some (.ref b), some (rv G 0), none, none, some (.int (b18 + 1))] ⟨Or.inr rfl, Or.inr rfl, Or.inl rfl, Or.inl rfl, Or.inr rfl, trivial⟩ (hrec20 (b18 + 1) _)
                    · refine x_iconst (pc2 := 141) C dL_law_140 rfl ic_0 ?_
                      exact x_lawret hG C dL_law_141
        · refine x_iconst (pc2 := 81) C dL_law_80 rfl ic_0 ?_
          exact x_lawret hG C dL_law_81
      · intro j16 hj16
        refine x_jn 74 (fun (b54 : Unit) => [some (.ref b), some (rv G 0), some (.int (2 + v3)), some (.int (2 + v7)), none]) (fun (b54 : Unit) => [.int v13]) ?_ ?_
        · intro b54 M56
          refine x_iload_n (pc2 := 75) C dL_law_74 rfl rfl ?_
          refine x_iload_n (pc2 := 76) C dL_law_75 rfl rfl ?_
          refine x_imul (pc2 := 77) C dL_law_76 rfl ?_
          exact x_wk [some (.ref b), some (rv G 0), none, none, none] ⟨Or.inr rfl, Or.inr rfl, Or.inl rfl, Or.inl rfl, Or.inl rfl, trivial⟩ (hj16 ((2 + v3) * (2 + v7)) _)
        · intro j55 hj55
          refine x_icmp_ne (tgt := 74) (pc2 := 63) C dL_law_60 (by decide) rfl ?_ ?_
          · exact x_wk [some (.ref b), some (rv G 0), some (.int (2 + v3)), some (.int (2 + v7)), none] ⟨Or.inr rfl, Or.inr rfl, Or.inr rfl, Or.inr rfl, Or.inl rfl, trivial⟩ (hj55 () _)
          · refine x_iload_n (pc2 := 64) C dL_law_63 rfl rfl ?_
            refine x_bipush (pc2 := 66) C dL_law_64 rfl bc_6 ?_
            refine x_icmp_ne (tgt := 74) (pc2 := 69) C dL_law_66 (by decide) rfl ?_ ?_
            · exact x_wk [some (.ref b), some (rv G 0), some (.int (2 + v3)), some (.int (2 + v7)), none] ⟨Or.inr rfl, Or.inr rfl, Or.inr rfl, Or.inr rfl, Or.inl rfl, trivial⟩ (hj55 () _)
            · refine x_bipush (pc2 := 71) C dL_law_69 rfl bc_m5 ?_
              refine x_goto (tgt := 77) C dL_law_71 (by decide) ?_
              exact x_wk [some (.ref b), some (rv G 0), none, none, none] ⟨Or.inr rfl, Or.inr rfl, Or.inl rfl, Or.inl rfl, Or.inl rfl, trivial⟩ (hj16 (-5) _)
