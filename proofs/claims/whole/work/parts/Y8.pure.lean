/-! the pure statement: the law is kept -/
theorem law_pure : LawPure := pure_law
