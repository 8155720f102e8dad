theorem pure_owed : PURE := fun _ _ _ => a_law
