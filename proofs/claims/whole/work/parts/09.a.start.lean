theorem arr_known {ty : FieldType} {s : State} {args : Array Value} (h : (Cond.arrayClass ty).before args s = true) (hra : ∀ cA : ClassId, s.vm.findClass ("[" ++ ty.toString) = some cA → va_RA s cA ty) : ∃ cA : ClassId, ArrOfT s cA ty ∧ va_RA s cA ty := by
  obtain ⟨cA, kA, comp, h1, h2, h3⟩ := Cond.arrayClass_spec h
  exact ⟨cA, fun n z => ⟨fun k h => (by cases h), kA, h2, comp, h3⟩, hra cA h1⟩
theorem lw_stat {s : State} {b : Nat} (hs : (Jvm.Cond.and given_1 narrow_1).before #[Value.ref b] s = true) (hl : (Cond.laysStatic "BlanketKeys$Settings" "LEAST_TOO_MUCH" "[I").before #[Value.ref b] s = true) (hi : (Cond.initialized "BlanketKeys$Settings").before #[Value.ref b] s = true) {A : Nat → Prop} (hA : ∀ a : Nat, a < s.heap.size → ¬ A a) : ∃ t : Nat, va_Z "BlanketKeys$Settings" "LEAST_TOO_MUCH" "[I" (.ref t) A s s.heap ∧ va_T .int t 3 (fun j => .int (lm j)) A s s.heap := by
  have hq := flat_of_before _ hs
  have h1 : (Cond.arrayOf (.static "BlanketKeys$Settings" "LEAST_TOO_MUCH" "[I") .int).before #[Value.ref b] s = true := hq _ (by decide +kernel)
  have h2 : (Cond.eq (.length (.static "BlanketKeys$Settings" "LEAST_TOO_MUCH" "[I")) (.int 3)).before #[Value.ref b] s = true := hq _ (by decide +kernel)
  have h3 : (Cond.eq (.elem (.static "BlanketKeys$Settings" "LEAST_TOO_MUCH" "[I") (.int 0)) (.int 1073741825)).before #[Value.ref b] s = true := hq _ (by decide +kernel)
  have h4 : (Cond.eq (.elem (.static "BlanketKeys$Settings" "LEAST_TOO_MUCH" "[I") (.int 1)) (.int 1082130433)).before #[Value.ref b] s = true := hq _ (by decide +kernel)
  have h5 : (Cond.eq (.elem (.static "BlanketKeys$Settings" "LEAST_TOO_MUCH" "[I") (.int 2)) (.int 1065353217)).before #[Value.ref b] s = true := hq _ (by decide +kernel)
  obtain ⟨t, ht, hT⟩ := va_Tof (N := 3) (f := fun j => .int (lm j)) (by decide) h1 (va_eqt h2) (fun j hj => by
    rcases (show j = 0 ∨ j = 1 ∨ j = 2 by omega) with rfl | rfl | rfl
    · exact va_eqt h3
    · exact va_eqt h4
    · exact va_eqt h5) hA
  exact ⟨t, va_Zof hl hi ht hA, hT⟩
/-- the reference's constructor, called by the law: from the growing world to the flat one -/
theorem y_callM {G : bkG} {p : Program} {l : Launch} {e : Env} {R : Room} {s : State} {m : MethodId} {args : Array Value} {below : List Frame} {meth : Method} {c : Code} {nL cells slots : Nat} {Q : State → Prop} {cc : ByteArray} {own : String} {ret : Option FieldType} {pc : Nat} {L : List (Option Value)} {st : List Value} {cs : List va_E} {M0 : Mem} (C : Cx G p s m args meth c cc nL own ret) (hN : NW s) {ix n b maxL2 pc2 mc ms cells' slots' : Nat} {y : MethodName} {bytes : ByteArray} {rm : Room} (As rest : List Value) (F : Cond.methodLink own ix y ∈ TT ∧ Cond.instanceMethod y ∈ TT ∧ Cond.initialized y.cls ∈ TT ∧ Cond.code y bytes maxL2 none ∈ TT ∧ (y.cls ≠ "java/lang/invoke/MethodHandle" ∧ y.cls ≠ "java/lang/invoke/VarHandle" ∧ (parseMethodDescriptor y.desc).map (fun d => d.parameters.length) = some n)) (hy1 : y.name = "<init>") (hM : Met l y (Cond.code y bytes maxL2 none :: TT) rm (va_Pc (rv G b :: As) (WL G cs)) (QQ G none M0) mc ms (An G)) (hst : st = As.reverse ++ rv G b :: rest) (hn : As.length = n) (hR : rm.cells = mc ∧ rm.slots = ms ∧ rm.frames + 1 ≤ R.frames ∧ 8 + (maxL2 + 11) + rm.locals ≤ R.locals) (hcat : (rest.map fun v => v.category).sum ≤ 8) (hcs : cells + mc ≤ R.cells ∧ slots + ms ≤ R.slots) (hc' : cells + mc = cells') (hs' : slots + ms = slots') (hdg : decode cc pc = .ok (.invokespecial ix, 3)) (hp : pc + 3 = pc2)
    (kk : OX (β := Unit) G p l e R s m args below meth c nL cells' slots' (fun _ => Q) (some ()) pc2 L rest M0) : OY G p l e R s m args below meth c nL cells slots Q pc L st cs := by
  subst hp hc' hs'
  intro H locs ls hl hP hz0 hS
  intro T hT X
  have hrun := va_runI (As := As) (rest := rest) (b := G.1 + b) (g := F0 m pc ls st) (l := l) (e := e) (R := R) (below := below) (meth := meth) (locs := locs) (cells := cells) (slots := slots) (H := H) ⟨C.1, C.2.1, C.2.2.1, C.2.2.2.1, C.2.2.2.2.1⟩ hM (cwI n C.2.2.2.2.1 (fun w hw => by
    rcases List.mem_cons.mp hw with rfl | h
    · exact TTg _ F.2.2.2.1
    · exact TTg _ h) rfl hR.1 hR.2.1 (C.2.2.2.2.1 _ F.2.2.1) (C.2.2.2.2.1 _ F.1) (C.2.2.2.2.1 _ F.2.1) hy1 F.2.2.2.2 hR.2.2) ⟨wl_blind G cs _, y_pre C hN hP hz0 hS⟩ rfl hn hl.1 hst (lv_room hcat) hdg hcs
  obtain ⟨v', st₀, t, T', Lc, h0, X', hL, e1, e2, ⟨hv, hP1, hz, hq⟩, st⟩ := hrun T hT X
  cases hv
  rw [h0] at hz hq
  obtain ⟨t2, a1, b1⟩ := kk () rfl T'.heap (locs ++ Lc) ls hl (by rw [e1]; exact hP1)
    ⟨Nat.le_trans hS.1 (by rw [e1]; exact hz), fun q h1 h2 => by rw [e1, hq q (Nat.lt_of_lt_of_le h1 hS.1) h2]; exact hS.2.1 q h1 h2, fun q hq => by
      rcases List.mem_append.mp hq with h | h
      · exact hS.2.2 q h
      · exact hL q h⟩ T' rfl X'
  exact ⟨t2, st t2 a1, b1⟩
set_option maxRecDepth 100000 in
set_option maxHeartbeats 4000000 in
theorem law_prog {p : Program} {l : Launch} {e : Env} {s : State} {m : MethodId} {below : List Frame} {meth : Method} {c : Code} {b Ln : Nat} {xs : Nat → Int32} {G : bkG} (hP : PURE) (hG : G.1 = s.heap.size) (hC : LCx G p s m meth c b Ln xs) (hN : NW s) (hb0 : c.maxLocals = 8) : W p l e room_1 (s.setDrawn s.drawn) m #[Value.ref b] below meth c s.heap [] 0 0 (lw_Z below #[Value.ref b] s) (entryFrame m ([Value.ref b] : List Value).toArray 8) := by
  obtain ⟨M0, I, hM0, hI0, hI⟩ := hP
  have hd0 := Drawn.sameBut.refl s.drawn lw_cs
  have C := hC.1 s.drawn
  have hN : NW (s.setDrawn s.drawn) := hN
  have hA : ∀ q, (s.setDrawn s.drawn).heap.size ≤ q → An G q := fun q h => by show G.1 ≤ q; rw [hG]; exact h
  have hn : ([] : List va_E).length = 0 := rfl
  have key : OY G p l e room_1 (s.setDrawn s.drawn) m #[Value.ref b] below meth c 8 0 0 (lw_Z below #[Value.ref b] s) 0 [some (.ref b), none, none, none, none, none, none, none] [] [] := by
    refine y_new (pc2 := 3) (ci := 7) (fs := [.null, .null, .null, .null, .null, .int 0]) (cells' := 1) (slots' := 6) (n := 0) (cs' := [.inr (7, [.null, .null, .null, .null, .null, .int 0])]) C tyX8 ⟨wt1_17, wt1_18, wt1_1⟩ uinX8 tyX8_ok rfl (by decide +kernel) hA (Nat.le_of_ble_eq_true rfl) (Nat.le_of_ble_eq_true rfl) rfl rfl rfl rfl dL_law_0 rfl ?_
    refine y_dup (pc2 := 4) C dL_law_3 rfl rfl ?_
    refine y_callI (pc2 := 7) (b := 0) (cs2 := bkB G 0) (cells' := 235) (slots' := 4609) C hN [] [rv G 0] ⟨wt1_19, wt1_20, wt1_1, wt1_21, ⟨by decide +kernel, by decide +kernel, by decide +kernel⟩⟩ rfl (ctmX8 (a := []) hn rfl rfl) rfl rfl ⟨rfl, rfl, Nat.le_of_ble_eq_true rfl, Nat.le_of_ble_eq_true rfl⟩ (Nat.le_of_ble_eq_true rfl) ⟨Nat.le_of_ble_eq_true rfl, Nat.le_of_ble_eq_true rfl⟩ rfl rfl dL_law_4 rfl ?_
    refine y_astore_n (pc2 := 8) C dL_law_7 rfl [some (.ref b), some (rv G 0), none, none, none, none, none, none] rfl rfl ?_
    refine y_new (pc2 := 11) (ci := 8) (fs := [.null, .null, .null, .null, .null, .null, .null, .null, .int 0, .int 0, .null, .int 0, .int 0, .int 0, .int 0]) (cells' := 236) (slots' := 4624) (n := 235) (cs' := bkB G 0 ++ [.inr (8, [.null, .null, .null, .null, .null, .null, .null, .null, .int 0, .int 0, .null, .int 0, .int 0, .int 0, .int 0])]) C tyX9 ⟨wt4_71, wt4_72, wt1_10⟩ uinX9 tyX9_ok rfl (by decide +kernel) hA (Nat.le_of_ble_eq_true rfl) (Nat.le_of_ble_eq_true rfl) rfl rfl rfl (bk_len G) dL_law_8 rfl ?_
    refine y_dup (pc2 := 12) C dL_law_11 rfl rfl ?_
    refine y_callM (pc2 := 15) (b := 235) (M0 := M0) (cells' := 245) (slots' := 8877) C hN [] [rv G 235] ⟨wt4_73, wt4_74, wt1_10, wt4_75, ⟨by decide +kernel, by decide +kernel, by decide +kernel⟩⟩ rfl (ctmX9 (a := bkB G 0) rfl rfl hM0) rfl rfl ⟨rfl, rfl, Nat.le_of_ble_eq_true rfl, Nat.le_of_ble_eq_true rfl⟩ (Nat.le_of_ble_eq_true rfl) ⟨Nat.le_of_ble_eq_true rfl, Nat.le_of_ble_eq_true rfl⟩ rfl rfl dL_law_12 rfl ?_
    refine x_astore_n (pc2 := 16) C dL_law_15 rfl [some (.ref b), some (rv G 0), some (rv G 235), none, none, none, none, none] rfl rfl ?_
    refine x_iconst (pc2 := 17) C dL_law_16 rfl ic_0 ?_
    refine x_istore_n (pc2 := 18) C dL_law_17 rfl [some (.ref b), some (rv G 0), some (rv G 235), some (.int (nI (4 * 0))), none, none, none, none] rfl rfl ?_
    exact law_loop hC hG hI 512 0 (by have := hC.2.2.2.2; omega) (by omega) s.drawn M0 hd0 hI0
  rw [lg_entry_eq]
  exact key s.heap [] _ (lh_in [.ref b] 8 (fun v hv => by
    rw [List.mem_singleton] at hv
    subst hv
    rfl) (Nat.le_of_ble_eq_true rfl) rfl) (fun k q h => by simp [woL] at h) (by show s.heap.size = G.1 + 0; omega) va_S.rf
set_option maxRecDepth 100000 in
set_option maxHeartbeats 4000000 in
theorem whole_open (hPure : PURE) {p : Program} {e : Env} {s : State} {m : MethodId} {below : List Frame} {meth : Method} {c : Code} (l : Launch) {b L : Nat} {xs : Nat → Int32} (hL : L ≤ 2048) (C0 : lw_At p s m meth c b L xs) : W p l e room_1 s m #[Value.ref b] below meth c s.heap [] 0 0 (lw_Z below #[Value.ref b] s) (entryFrame m ([Value.ref b] : List Value).toArray 8) := by
  obtain ⟨hx, hb, hr, hml, hown, hts0, hX, hbl, hlocks, hgv⟩ := id C0
  have hts : ∀ w ∈ TT, w.before #[Value.ref b] s = true := fun w h => hts0 w (TTs h)
  obtain ⟨c0, i0, hKn0⟩ := u_known (C := RX0) (T := TX0) (N := 11) (n := 11) hts uinX0 (hts _ wt1_32)
  obtain ⟨c1, i1, hKn1⟩ := u_known (C := RX2) (T := TX2) (N := 5) (n := 5) hts uinX2 (hts _ wt1_228)
  obtain ⟨c2, i2, hKn2⟩ := u_known (C := RX3) (T := TX3) (N := 2) (n := 2) hts uinX3 (hts _ wt2_13)
  obtain ⟨c3, i3, hKn3⟩ := u_known (C := RX4) (T := TX4) (N := 4) (n := 4) hts uinX4 (hts _ wt1_159)
  obtain ⟨c4, i4, hKn4⟩ := u_known (C := RX5) (T := TX5) (N := 10) (n := 10) hts uinX5 (hts _ wt1_26)
  obtain ⟨c5, i5, hKn5⟩ := u_known (C := RX6) (T := TX6) (N := 8) (n := 8) hts uinX6 (hts _ wt1_126)
  obtain ⟨c6, i6, hKn6⟩ := u_known (C := RX7) (T := TX7) (N := 8) (n := 8) hts uinX7 (hts _ wt1_81)
  obtain ⟨c7, i7, hKn7⟩ := u_known (C := RX8) (T := TX8) (N := 6) (n := 6) hts uinX8 (hts _ wt1_18)
  obtain ⟨c8, i8, hKn8⟩ := u_known (C := RX9) (T := TX9) (N := 15) (n := 15) hts uinX9 (hts _ wt4_72)
  obtain ⟨dC, dI, hKc⟩ : ∃ (dC : Nat → ClassId) (dI : Nat → Nat → Nat), ∀ (k : Nat) (q : vw_C), vwCl[k]? = some q → u_Kn s q.1 q.2.1 q.2.2 (dC k) (dI k) := by
    refine ⟨fun k => if k = 0 then c0 else if k = 1 then c1 else if k = 2 then c2 else if k = 3 then c3 else if k = 4 then c4 else if k = 5 then c5 else if k = 6 then c6 else if k = 7 then c7 else c8, fun k => if k = 0 then i0 else if k = 1 then i1 else if k = 2 then i2 else if k = 3 then i3 else if k = 4 then i4 else if k = 5 then i5 else if k = 6 then i6 else if k = 7 then i7 else i8, ?_⟩
    intro k q hq
    match k, hq with
    | 0, hq => cases hq; exact hKn0
    | 1, hq => cases hq; exact hKn1
    | 2, hq => cases hq; exact hKn2
    | 3, hq => cases hq; exact hKn3
    | 4, hq => cases hq; exact hKn4
    | 5, hq => cases hq; exact hKn5
    | 6, hq => cases hq; exact hKn6
    | 7, hq => cases hq; exact hKn7
    | 8, hq => cases hq; exact hKn8
    | k + 9, hq => simp [vwCl] at hq
  obtain ⟨cI, hI1, hI2⟩ := arr_known (ty := .int) (hts _ wt1_79) (fun cA h => h)
  obtain ⟨cF, hF1, hF2⟩ := arr_known (ty := .float) (hts _ wt4_132) (fun cA h => h)
  obtain ⟨cC, hC1, hC2⟩ := arr_known (ty := .char) (hts _ wt2_26) (fun cA h => h)
  have hAn : ∀ a : Nat, a < s.heap.size → ¬ s.heap.size ≤ a := fun a h => Nat.not_le.mpr h
  obtain ⟨t, hZ, hT⟩ := lw_stat hgv (hts0 _ (List.mem_append_right _ (List.mem_append_right _ (List.mem_append_left _ (List.mem_of_getElem? (l := tables_1_2) (i := 171) rfl))))) (hts _ wt1_7) (A := fun q : Nat => s.heap.size ≤ q) hAn
  have hK : va_K (dC, dI) vwCl [(cI, .int), (cF, .float), (cC, .char)] s := ⟨hKc, fun k q h => by
    match k, h with
    | 0, h => cases h; exact ⟨hI1, hI2⟩
    | 1, h => cases h; exact ⟨hF1, hF2⟩
    | 2, h => cases h; exact ⟨hC1, hC2⟩
    | k + 3, h => simp at h⟩
  refine W.base ?_
  refine law_prog (G := (s.heap.size, (dC, dI), cI, cF, cC, t)) hPure rfl ⟨fun d => ⟨hx, hb, hml, hown, dr_words hts d, hK, hZ, hT, hr, hlocks⟩, hX, hbl, Nat.not_le.mpr hbl, hL⟩ ⟨va_Nw.of rfl (hts0 _ wn1_27), va_Nw.of rfl (hts0 _ wn1_127), va_Nw.of rfl (hts0 _ wn1_160), va_Nw.of rfl (hts0 _ wn1_229), va_Nw.of rfl (hts0 _ wn1_234), va_Nw.of rfl (hts0 _ wn2_14)⟩ hml
