theorem nlit' (n : Nat) : (OfNat.ofNat n : Int32) = nI (OfNat.ofNat n) := Eq.trans (nlit n) rfl
def busy (s : Nat → Int32) (k : Nat) : Bool := !decide (s (20 + k) < nI 0) || !decide (s (68 + k) < nI 0)
theorem e_rebuild {M : Mem} {x y : Int32} : fX0_rebuild 2 x y M = some ((), wa (wa (w1 (w1 M 2 0 x) 2 1 y) 4 (cpv (M.1 4) (fun _ => nI 46) 48)) 11 (cpv (M.1 11) (fun _ => nm 1) 2)) := by
  unfold fX0_rebuild
  simp (disch := omega) only [nlit, nm_def, bnd_e, Nat.reduceAdd, e_fill, cal_e, ln_4, ln_11, wa_o, w1_o]
