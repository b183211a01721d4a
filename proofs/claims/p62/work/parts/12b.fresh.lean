/-! A new object's fields. -/
theorem zn_0 : ∀ j, j < 7 → defaultValue (za_fty 0 j) = vp_V (za_fresh 0) j := by decide +kernel
theorem zm_0 : ∀ v ∈ za_fresh 0, v = .null ∨ v = .int 0 := by decide +kernel
theorem zn_1 : ∀ j, j < 2 → defaultValue (za_fty 1 j) = vp_V (za_fresh 1) j := by decide +kernel
theorem zm_1 : ∀ v ∈ za_fresh 1, v = .null ∨ v = .int 0 := by decide +kernel
theorem zn_2 : ∀ j, j < 12 → defaultValue (za_fty 2 j) = vp_V (za_fresh 2) j := by decide +kernel
theorem zm_2 : ∀ v ∈ za_fresh 2, v = .null ∨ v = .int 0 := by decide +kernel
theorem zn_3 : ∀ j, j < 4 → defaultValue (za_fty 3 j) = vp_V (za_fresh 3) j := by decide +kernel
theorem zm_3 : ∀ v ∈ za_fresh 3, v = .null ∨ v = .int 0 := by decide +kernel
theorem zn_4 : ∀ j, j < 2 → defaultValue (za_fty 4 j) = vp_V (za_fresh 4) j := by decide +kernel
theorem zm_4 : ∀ v ∈ za_fresh 4, v = .null ∨ v = .int 0 := by decide +kernel
