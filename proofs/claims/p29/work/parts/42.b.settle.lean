/-! PURE: settle (2) -/
theorem rwF_def (s : Nat → Int32) (d o e w : Nat) : rwF s d o e w = if 16 < e - o then upd s (404 + 7 * d + 3) (nI w) else upd (upd s (404 + 7 * d + 3) (nI w)) (308 + 6 * (o % 16) + 3) (nI w) := rfl
