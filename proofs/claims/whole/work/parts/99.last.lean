/-! the last part: small, for it compiles in every round -/
theorem q_last_one : True := trivial
