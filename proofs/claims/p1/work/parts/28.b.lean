/-! THE FIRST CALL: cases without arguments (heavier). -/
theorem z_f16 : z_eqA (fun h => fB_undo 3000 0 h) (fun h => fM_undo 3000 232 h) za_h2 = true := by decide +kernel
theorem z_c16 {xs : List Int32} {k23 : Nat → Nat → Nat → Int32 → zH → Option (Int32 × zH)} {l4 : Int32} (hk : ∀ h, k23 0 232 243 (l4 + Int32.ofInt 6) h = some (Int32.ofInt 1, h)) : ∃ h, fL_law_1083 xs 3000 k23 0 232 243 l4 za_h2 = some (Int32.ofInt 1, h) := z_caseA hk z_f16
theorem z_f19 : z_eqC Int32.toInt64 (fun h => fL_restoreSnapshot 3000 0 243 h) (fun h => fM_restoreSnapshot 3000 232 h) (fun h => fM_thrown 3000 232 h) 243 za_h2 = true := by decide +kernel
theorem z_c19 {xs : List Int32} {k23 : Nat → Nat → Nat → Int32 → zH → Option (Int32 × zH)} {l4 : Int32} (hk : ∀ h, k23 0 232 243 (l4 + Int32.ofInt 6) h = some (Int32.ofInt 1, h)) : ∃ h, fL_law_1122 xs 3000 k23 0 232 243 l4 za_h2 = some (Int32.ofInt 1, h) := z_caseC hk hk z_f19
theorem z_f31 : z_eqA (fun h => fB_longestFactor 3000 0 h) (fun h => fM_longestFactor 3000 232 h) za_h2 = true := by decide +kernel
theorem z_c31 {xs : List Int32} {k23 : Nat → Nat → Nat → Int32 → zH → Option (Int32 × zH)} {l4 : Int32} (hk : ∀ h, k23 0 232 243 (l4 + Int32.ofInt 6) h = some (Int32.ofInt 1, h)) : ∃ h, fL_law_1541 xs 3000 k23 0 232 243 l4 za_h2 = some (Int32.ofInt 1, h) := z_caseA hk z_f31
theorem z_f53 : z_eqA (fun h => fB_greatestKept 3000 0 h) (fun h => fM_greatestKept 3000 232 h) za_h2 = true := by decide +kernel
theorem z_c53 {xs : List Int32} {k23 : Nat → Nat → Nat → Int32 → zH → Option (Int32 × zH)} {l4 : Int32} (hk : ∀ h, k23 0 232 243 (l4 + Int32.ofInt 6) h = some (Int32.ofInt 1, h)) : ∃ h, fL_law_2193 xs 3000 k23 0 232 243 l4 za_h2 = some (Int32.ofInt 1, h) := z_caseA hk z_f53
theorem z_f56 : z_eqA (fun h => fB_violations 3000 0 h) (fun h => fM_violations 3000 232 h) za_h2 = true := by decide +kernel
theorem z_c56 {xs : List Int32} {k23 : Nat → Nat → Nat → Int32 → zH → Option (Int32 × zH)} {l4 : Int32} (hk : ∀ h, k23 0 232 243 (l4 + Int32.ofInt 6) h = some (Int32.ofInt 1, h)) : ∃ h, fL_law_2290 xs 3000 k23 0 232 243 l4 za_h2 = some (Int32.ofInt 1, h) := z_caseA hk z_f56
theorem z_f57 : z_eqA (fun h => fB_writeFactors 3000 0 h) (fun h => fM_writeFactors 3000 232 h) za_h2 = true := by decide +kernel
theorem z_c57 {xs : List Int32} {k23 : Nat → Nat → Nat → Int32 → zH → Option (Int32 × zH)} {l4 : Int32} (hk : ∀ h, k23 0 232 243 (l4 + Int32.ofInt 6) h = some (Int32.ofInt 1, h)) : ∃ h, fL_law_2303 xs 3000 k23 0 232 243 l4 za_h2 = some (Int32.ofInt 1, h) := z_caseA hk z_f57
