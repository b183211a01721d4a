/-! The reference's constructor: the script parsed. -/
theorem z_parse : fM_parses 700 232 za_m1 = some (1, za_m2) := by decide +kernel
