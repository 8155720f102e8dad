theorem arr_known {ty : FieldType} {s : State} {args : Array Value} (h : (Cond.arrayClass ty).before args s = true) (hra : ∀ cA : ClassId, s.vm.findClass ("[" ++ ty.toString) = some cA → va_RA s cA ty) : ∃ cA : ClassId, ArrOfT s cA ty ∧ va_RA s cA ty := by
  obtain ⟨cA, kA, comp, h1, h2, h3⟩ := Cond.arrayClass_spec h
  exact ⟨cA, fun n z => ⟨fun k h => (by cases h), kA, h2, comp, h3⟩, hra cA h1⟩
theorem lw_stat {s : State} {b : Nat} (hs : (Jvm.Cond.and given_1 narrow_1).before #[Value.ref b] s = true) (hl : (Cond.laysStatic "BlanketKeys$Settings" "LEAST_TOO_MUCH" "[I").before #[Value.ref b] s = true) (hi : (Cond.initialized "BlanketKeys$Settings").before #[Value.ref b] s = true) {A : Nat → Prop} (hA : ∀ a : Nat, a < s.heap.size → ¬ A a) : ∃ t : Nat, va_Z "BlanketKeys$Settings" "LEAST_TOO_MUCH" "[I" (.ref t) A s s.heap ∧ va_T .int t 3 (fun j => .int (lm j)) A s s.heap := by
  have hq := flat_of_before _ hs
  have h1 : (Cond.arrayOf (.static "BlanketKeys$Settings" "LEAST_TOO_MUCH" "[I") .int).before #[Value.ref b] s = true := hq _ (by decide +kernel)
  have h2 : (Cond.eq (.length (.static "BlanketKeys$Settings" "LEAST_TOO_MUCH" "[I")) (.int 3)).before #[Value.ref b] s = true := hq _ (by decide +kernel)
  have h3 : (Cond.eq (.elem (.static "BlanketKeys$Settings" "LEAST_TOO_MUCH" "[I") (.int 0)) (.int 1073741825)).before #[Value.ref b] s = true := hq _ (by decide +kernel)
  have h4 : (Cond.eq (.elem (.static "BlanketKeys$Settings" "LEAST_TOO_MUCH" "[I") (.int 1)) (.int 1082130433)).before #[Value.ref b] s = true := hq _ (by decide +kernel)
  have h5 : (Cond.eq (.elem (.static "BlanketKeys$Settings" "LEAST_TOO_MUCH" "[I") (.int 2)) (.int 1065353217)).before #[Value.ref b] s = true := hq _ (by decide +kernel)
  obtain ⟨t, ht, hT⟩ := va_Tof (N := 3) (f := fun j => .int (lm j)) (by decide) h1 (va_eqt h2) (fun j hj => by
    rcases (show j = 0 ∨ j = 1 ∨ j = 2 by omega) with rfl | rfl | rfl
    · exact va_eqt h3
    · exact va_eqt h4
    · exact va_eqt h5) hA
  exact ⟨t, va_Zof hl hi ht hA, hT⟩
set_option maxRecDepth 100000 in
set_option maxHeartbeats 4000000 in
theorem law_prog {p : Program} {l : Launch} {e : Env} {s : State} {m : MethodId} {below : List Frame} {meth : Method} {c : Code} {b Ln : Nat} {xs : Nat → Int32} {G : bkG} (hP : PURE) (hG : G.1 = s.heap.size) (hC : LCx G p s m meth c b Ln xs) (hN : NW s) (hb0 : c.maxLocals = 5) : W p l e room_1 (s.setDrawn s.drawn) m #[Value.ref b] below meth c s.heap [] 0 0 (lw_Z below #[Value.ref b] s) (entryFrame m ([Value.ref b] : List Value).toArray 5) := by
  have C := hC.1
  have hN : NW (s.setDrawn s.drawn) := hN
  have hA : ∀ q, (s.setDrawn s.drawn).heap.size ≤ q → An G q := fun q h => by show G.1 ≤ q; rw [hG]; exact h
  have hn : ([] : List va_E).length = 0 := rfl
  have hlaw : fL_law Ln xs = some () := hP Ln xs hC.2.2.2.2
  have key : OY G p l e room_1 (s.setDrawn s.drawn) m #[Value.ref b] below meth c 5 0 0 (lw_Z below #[Value.ref b] s) 0 [some (.ref b), none, none, none, none] [] [] := by
    refine y_new (pc2 := 3) (ci := 7) (fs := [.null, .null, .null, .null, .null, .int 0]) (cells' := 1) (slots' := 6) (n := 0) (cs' := [.inr (7, [.null, .null, .null, .null, .null, .int 0])]) C tyX8 ⟨wt1_14, wt1_15, wt1_1⟩ uinX8 tyX8_ok rfl (by decide +kernel) hA (Nat.le_of_ble_eq_true rfl) (Nat.le_of_ble_eq_true rfl) rfl rfl rfl rfl dL_law_0 rfl ?_
    refine y_dup (pc2 := 4) C dL_law_3 rfl rfl ?_
    refine y_callI (pc2 := 7) (b := 0) (cs2 := bkB G 0) (cells' := 235) (slots' := 4609) C hN [] [rv G 0] ⟨wt1_16, wt1_17, wt1_1, wt1_18, ⟨by decide +kernel, by decide +kernel, by decide +kernel⟩⟩ rfl (ctmX8 (a := []) hn rfl rfl) rfl rfl ⟨rfl, rfl, Nat.le_of_ble_eq_true rfl, Nat.le_of_ble_eq_true rfl⟩ (Nat.le_of_ble_eq_true rfl) ⟨Nat.le_of_ble_eq_true rfl, Nat.le_of_ble_eq_true rfl⟩ rfl rfl dL_law_4 rfl ?_
    refine y_astore_n (pc2 := 8) C dL_law_7 rfl [some (.ref b), some (rv G 0), none, none, none] rfl rfl ?_
    exact oy_ox (M := Mz) (Z := fun _ : Unit => lw_Z below #[Value.ref b] s) (wz_eq G) hlaw (law_walk hC hG)
  rw [lg_entry_eq]
  exact key s.heap [] _ (lh_in [.ref b] 5 (fun v hv => by
    rw [List.mem_singleton] at hv
    subst hv
    rfl) (Nat.le_of_ble_eq_true rfl) rfl) (fun k q h => by simp [woL] at h) (by show s.heap.size = G.1 + 0; omega) va_S.rf
set_option maxRecDepth 100000 in
set_option maxHeartbeats 4000000 in
theorem whole_open (hPure : PURE) {p : Program} {e : Env} {s : State} {m : MethodId} {below : List Frame} {meth : Method} {c : Code} (l : Launch) {b L : Nat} {xs : Nat → Int32} (hL : L ≤ 260) (C0 : lw_At p s m meth c b L xs) : W p l e room_1 s m #[Value.ref b] below meth c s.heap [] 0 0 (lw_Z below #[Value.ref b] s) (entryFrame m ([Value.ref b] : List Value).toArray 5) := by
  obtain ⟨hx, hb, hr, hml, hown, hts0, hX, hbl, hlocks, hgv⟩ := id C0
  have hts : ∀ w ∈ TT, w.before #[Value.ref b] s = true := fun w h => hts0 w (TTs h)
  obtain ⟨c0, i0, hKn0⟩ := u_known (C := RX0) (T := TX0) (N := 11) (n := 11) hts uinX0 (hts _ wt1_29)
  obtain ⟨c1, i1, hKn1⟩ := u_known (C := RX2) (T := TX2) (N := 5) (n := 5) hts uinX2 (hts _ wt1_225)
  obtain ⟨c2, i2, hKn2⟩ := u_known (C := RX3) (T := TX3) (N := 2) (n := 2) hts uinX3 (hts _ wt2_10)
  obtain ⟨c3, i3, hKn3⟩ := u_known (C := RX4) (T := TX4) (N := 4) (n := 4) hts uinX4 (hts _ wt1_156)
  obtain ⟨c4, i4, hKn4⟩ := u_known (C := RX5) (T := TX5) (N := 10) (n := 10) hts uinX5 (hts _ wt1_23)
  obtain ⟨c5, i5, hKn5⟩ := u_known (C := RX6) (T := TX6) (N := 8) (n := 8) hts uinX6 (hts _ wt1_123)
  obtain ⟨c6, i6, hKn6⟩ := u_known (C := RX7) (T := TX7) (N := 8) (n := 8) hts uinX7 (hts _ wt1_78)
  obtain ⟨c7, i7, hKn7⟩ := u_known (C := RX8) (T := TX8) (N := 6) (n := 6) hts uinX8 (hts _ wt1_15)
  obtain ⟨dC, dI, hKc⟩ : ∃ (dC : Nat → ClassId) (dI : Nat → Nat → Nat), ∀ (k : Nat) (q : vw_C), vwCl[k]? = some q → u_Kn s q.1 q.2.1 q.2.2 (dC k) (dI k) := by
    refine ⟨fun k => if k = 0 then c0 else if k = 1 then c1 else if k = 2 then c2 else if k = 3 then c3 else if k = 4 then c4 else if k = 5 then c5 else if k = 6 then c6 else c7, fun k => if k = 0 then i0 else if k = 1 then i1 else if k = 2 then i2 else if k = 3 then i3 else if k = 4 then i4 else if k = 5 then i5 else if k = 6 then i6 else i7, ?_⟩
    intro k q hq
    match k, hq with
    | 0, hq => cases hq; exact hKn0
    | 1, hq => cases hq; exact hKn1
    | 2, hq => cases hq; exact hKn2
    | 3, hq => cases hq; exact hKn3
    | 4, hq => cases hq; exact hKn4
    | 5, hq => cases hq; exact hKn5
    | 6, hq => cases hq; exact hKn6
    | 7, hq => cases hq; exact hKn7
    | k + 8, hq => simp [vwCl] at hq
  obtain ⟨cI, hI1, hI2⟩ := arr_known (ty := .int) (hts _ wt1_76) (fun cA h => h)
  obtain ⟨cC, hC1, hC2⟩ := arr_known (ty := .char) (hts _ wt2_23) (fun cA h => h)
  have hAn : ∀ a : Nat, a < s.heap.size → ¬ s.heap.size ≤ a := fun a h => Nat.not_le.mpr h
  obtain ⟨t, hZ, hT⟩ := lw_stat hgv (hts0 _ (List.mem_append_right _ (List.mem_append_right _ (List.mem_append_right _ (List.mem_append_right _ (List.mem_of_getElem? (l := tables_1_4) (i := 46) rfl)))))) (hts _ wt1_7) (A := fun q : Nat => s.heap.size ≤ q) hAn
  have hK : va_K (dC, dI) vwCl [(cI, .int), (cI, .int), (cC, .char)] s := ⟨hKc, fun k q h => by
    match k, h with
    | 0, h => cases h; exact ⟨hI1, hI2⟩
    | 1, h => cases h; exact ⟨hI1, hI2⟩
    | 2, h => cases h; exact ⟨hC1, hC2⟩
    | k + 3, h => simp at h⟩
  refine W.base ?_
  refine law_prog (G := (s.heap.size, (dC, dI), cI, cI, cC, t)) hPure rfl ⟨⟨hx, hb, hml, hown, dr_words hts s.drawn, hK, hZ, hT, hr, hlocks⟩, hX, hbl, Nat.not_le.mpr hbl, hL⟩ ⟨va_Nw.of rfl (hts0 _ wn1_24), va_Nw.of rfl (hts0 _ wn1_124), va_Nw.of rfl (hts0 _ wn1_157), va_Nw.of rfl (hts0 _ wn1_226), va_Nw.of rfl (hts0 _ wn1_231), va_Nw.of rfl (hts0 _ wn2_11)⟩ hml
