def rz : Nat → Int32 := ck (upd (upd (upd (upd (upd (upd (fun _ => 0) 0 (nI 4)) 1 (nI 6)) 3 (nm 5)) 5 (nm 5)) 4 (nm 5)) 6 (nm 5)) 48
def pz : Nat → UInt32 := vf_upd (vf_upd (vf_upd (vf_upd (vf_upd (vf_upd (vf_upd (fun _ => 0) 0 1082130432) 2 1086324736) 1 1090519040) 3 1092616192) 4 1040187392) 5 1056964608) 6 1048576000
