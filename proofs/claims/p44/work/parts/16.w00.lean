/-! test -/
theorem t8 (I : Nat → Nat → Int32) (J : Nat → Nat → Int64) : qp_step (600000, 7302250) 13 false (.iconst 0) 0 0 (2220, [none, some (.ref 0)], [], qp_mkE 41 3062 I J) = some (none, (2221, [none, some (.ref 0)], [.int 0], qp_mkE 41 3062 I J)) := by with_unfolding_all rfl
theorem t9 (I : Nat → Nat → Int32) (J : Nat → Nat → Int64) : (2220, [none, some (.ref 0)], ([] : List Value), qp_mkE 41 3062 I J).1 + 1 + 2 = 2223 := by with_unfolding_all rfl
theorem t10 (I : Nat → Nat → Int32) (J : Nat → Nat → Int64) : (2220, [none, some (.ref 0)], ([] : List Value), qp_mkE 41 3062 I J).1 + 1 + 2 = 2223 := rfl
