/-- what the ints and the floats are behind the makers -/
def mzS : List (Nat → Int32) := [(fun _ => 0), (fun i => if i = 0 then 4 else if i = 1 then 6 else 0), (cstf (-1) 48), (cstf 46 48), (fun _ => 0), (fun _ => 0), (cstf (-1) 48), (fun _ => 0), (fun _ => 0), (fun _ => 0), (cstf (-1) 2), (fun i => if i = 2 then (-1) else 0), (fun _ => 0), (fun i => if i = 2 then (-1) else 0), (fun _ => 0), (fun _ => 0), (fun _ => 0), (fun _ => 0), (fun _ => 0), (fun _ => 0), (fun _ => 0), (fun _ => 0), (fun _ => 0), (fun _ => 0), (fun _ => 0), (fun _ => 0), (fun _ => 0), (fun _ => 0), (fun _ => 0), (fun _ => 0), (fun _ => 0), (fun _ => 0), (upd (upd (upd (fun _ => 0) 0 1040187392) 1 1056964608) 2 1048576000)]
def mzH : Nat → Int32 := fun i => if i = 1 then nI 101 else if i = 2 then nI 134 else if i = 3 then nI 167 else if i = 4 then nI 200 else 0
def mzL : List (Nat → Int32) := (fun _ => 0) :: (mzS ++ (mzS ++ (mzS ++ (mzH :: (mzS ++ (mzS ++ (mzS ++ (mzS ++ [(fun _ => 0), (fun _ => 0)]))))))))
def fzS : List (Nat → UInt32) := [(fun _ => 0), (fun _ => 0), (fun _ => 0), (fun _ => 0), (fun _ => 0), (fun _ => 0), (fun _ => 0), (fun _ => 0), (fun _ => 0), (fun _ => 0), (fun _ => 0), (fun i => if i = 0 then 1082130432 else if i = 1 then 1086324736 else 0), (fun _ => 0), (fun i => if i = 0 then 1090519040 else if i = 1 then 1092616192 else 0), (fun _ => 0), (fun _ => 0), (fun _ => 0), (fun _ => 0), (fun _ => 0), (fun _ => 0), (fun _ => 0), (fun _ => 0), (fun _ => 0), (fun _ => 0), (fun _ => 0), (fun _ => 0), (fun _ => 0), (fun _ => 0), (fun _ => 0), (fun _ => 0), (fun _ => 0), (fun i => if i = 1 then 1040187392 else if i = 2 then 1056964608 else if i = 3 then 1048576000 else 0), (fun _ => 0)]
def fzL : List (Nat → UInt32) := (fun _ => 0) :: (fzS ++ (fzS ++ (fzS ++ ((fun _ => 0) :: (fzS ++ (fzS ++ (fzS ++ (fzS ++ [(fun _ => 0), (fun _ => 0)]))))))))
def Mz : Mem := (fun k => mzL.getD k (fun _ => 0), fun k => fzL.getD k (fun _ => 0))
set_option maxRecDepth 100000 in
set_option maxHeartbeats 4000000 in
theorem st_eq (G : bkG) : ∀ b ∈ [1, 34, 67, 101, 134, 167, 200], (List.range 33).map (fun j => cel G Mz (b + j)) = stB G b := by
  intro b hb
  simp only [List.mem_cons, List.not_mem_nil, or_false] at hb
  rcases hb with rfl | rfl | rfl | rfl | rfl | rfl | rfl <;> rfl
theorem b0_eq (G : bkG) : cel G Mz 0 = .inr (7, [rv G 1, rv G 34, rv G 67, rv G 100, rv G 233, .int 0]) := rfl
theorem hi_eq (G : bkG) : cel G Mz 100 = .inr (1, [.int 0, rv G 101, rv G 134, rv G 167, rv G 200]) := rfl
theorem scr_eq (G : bkG) : (List.range 2).map (fun j => cel G Mz (233 + j)) = scB G 233 := rfl
theorem rg_add (f : Nat → va_E) (a b c : Nat) : (List.range (b + c)).map (fun j => f (a + j)) = (List.range b).map (fun j => f (a + j)) ++ (List.range c).map (fun j => f (a + b + j)) := by
  rw [List.range_add, List.map_append, List.map_map]
  congr 1
  apply List.map_congr_left
  intro x _
  show f (a + (b + x)) = f (a + b + x)
  rw [Nat.add_assoc]
theorem wl_wo {G : bkG} {M : Mem} {cs : List va_E} (h : (List.range 235).map (fun j => cel G M (0 + j)) = cs) : woL G cs = wo G M := by
  subst h
  apply List.ext_getElem?
  intro j
  rcases Nat.lt_or_ge j 235 with q | q
  · rw [wo_at q, woL_at (e := cel G M j) (by rw [List.getElem?_map, List.getElem?_range q]; simp)]
  · rw [List.getElem?_eq_none (l := wo G M) (by rw [wo_len]; exact q), List.getElem?_eq_none (by rw [woL_len, List.length_map, List.length_range]; exact q)]
theorem wz_eq (G : bkG) : woL G (bkB G 0) = wo G Mz := by
  apply wl_wo
  have s := st_eq G
  rw [show (235 : Nat) = 1 + (33 + (33 + (33 + (1 + (33 + (33 + (33 + (33 + 2)))))))) from rfl]
  rw [rg_add (cel G Mz) 0 1, rg_add (cel G Mz) (0 + 1) 33, rg_add (cel G Mz) (0 + 1 + 33) 33, rg_add (cel G Mz) (0 + 1 + 33 + 33) 33, rg_add (cel G Mz) (0 + 1 + 33 + 33 + 33) 1, rg_add (cel G Mz) (0 + 1 + 33 + 33 + 33 + 1) 33, rg_add (cel G Mz) (0 + 1 + 33 + 33 + 33 + 1 + 33) 33, rg_add (cel G Mz) (0 + 1 + 33 + 33 + 33 + 1 + 33 + 33) 33, rg_add (cel G Mz) (0 + 1 + 33 + 33 + 33 + 1 + 33 + 33 + 33) 33]
  rw [show (0 + 1 : Nat) = 1 from rfl, show (1 + 33 : Nat) = 34 from rfl, show (34 + 33 : Nat) = 67 from rfl, show (67 + 33 : Nat) = 100 from rfl, show (100 + 1 : Nat) = 101 from rfl, show (101 + 33 : Nat) = 134 from rfl, show (134 + 33 : Nat) = 167 from rfl, show (167 + 33 : Nat) = 200 from rfl, show (200 + 33 : Nat) = 233 from rfl]
  rw [s 1 (by simp), s 34 (by simp), s 67 (by simp), s 101 (by simp), s 134 (by simp), s 167 (by simp), s 200 (by simp), scr_eq]
  rw [show (List.range 1).map (fun j => cel G Mz (0 + j)) = [cel G Mz 0] from rfl, show (List.range 1).map (fun j => cel G Mz (100 + j)) = [cel G Mz 100] from rfl, b0_eq, hi_eq]
  simp only [bkB, hiB, List.append_assoc, List.cons_append, List.nil_append, Nat.zero_add]
/-- from the growing world to the flat one -/
theorem oy_ox {β : Type} {G : bkG} {p : Program} {l : Launch} {e : Env} {R : Room} {s : State} {m : MethodId} {args : Array Value} {below : List Frame} {meth : Method} {c : Code} {nL cells slots : Nat} {Z : β → State → Prop} {pc : Nat} {L : List (Option Value)} {st : List Value} {cs : List va_E} {M : Mem} {o : Option β} {r : β} (hw : woL G cs = wo G M) (ho : o = some r) (h : OX G p l e R s m args below meth c nL cells slots Z o pc L st M) : OY G p l e R s m args below meth c nL cells slots (Z r) pc L st cs :=
  fun H locs ls hl hP _ hS => h r ho H locs ls hl (by rw [← hw]; exact hP) hS
