theorem sx_prog : sx_PG sx_pg sx_tbs := by sorry
