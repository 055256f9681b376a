/-! the pure statement: open as yet -/
theorem law_pure : LawPure := sorry
