/-! The law's method. -/
abbrev iL_law : MI := (RL, cL_law, 9, some (FieldType.boolean), "law", [])
