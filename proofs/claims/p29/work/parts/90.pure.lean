theorem pure_owed : PURE := sorry
