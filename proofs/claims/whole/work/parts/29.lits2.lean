theorem bp_123 : (Int8.ofInt (123)).toInt32 = (123 : Int32) := by decide
theorem bp_45 : (Int8.ofInt (45)).toInt32 = (45 : Int32) := by decide
theorem bp_50 : (Int8.ofInt (50)).toInt32 = (50 : Int32) := by decide
theorem gl_1_4 : vp_in (1 : Int32) 4 := gi_in (by decide)
theorem gl_2_4 : vp_in (2 : Int32) 4 := gi_in (by decide)
theorem gl_3_4 : vp_in (3 : Int32) 4 := gi_in (by decide)
theorem sp_4500 : (Int16.ofInt (4500)).toInt32 = (4500 : Int32) := by decide
theorem lits2_here : True := trivial
