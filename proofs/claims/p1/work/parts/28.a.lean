/-! THE FIRST CALL: cases without arguments. -/
theorem z_f17 : z_eqA (fun h => fB_undoCount 3000 0 h) (fun h => fM_undoCount 3000 232 h) za_h2 = true := by decide +kernel
theorem z_c17 {xs : List Int32} {k23 : Nat → Nat → Nat → Int32 → zH → Option (Int32 × zH)} {l4 : Int32} (hk : ∀ h, k23 0 232 243 (l4 + Int32.ofInt 6) h = some (Int32.ofInt 1, h)) : ∃ h, fL_law_1096 xs 3000 k23 0 232 243 l4 za_h2 = some (Int32.ofInt 1, h) := z_caseA hk z_f17
theorem z_f20 : z_eqA (fun h => fB_scriptErrorKind 3000 0 h) (fun h => fM_scriptErrorKind 3000 232 h) za_h2 = true := by decide +kernel
theorem z_c20 {xs : List Int32} {k23 : Nat → Nat → Nat → Int32 → zH → Option (Int32 × zH)} {l4 : Int32} (hk : ∀ h, k23 0 232 243 (l4 + Int32.ofInt 6) h = some (Int32.ofInt 1, h)) : ∃ h, fL_law_1166 xs 3000 k23 0 232 243 l4 za_h2 = some (Int32.ofInt 1, h) := z_caseA hk z_f20
theorem z_f21 : z_eqA (fun h => fB_scriptErrorOffset 3000 0 h) (fun h => fM_scriptErrorOffset 3000 232 h) za_h2 = true := by decide +kernel
theorem z_c21 {xs : List Int32} {k23 : Nat → Nat → Nat → Int32 → zH → Option (Int32 × zH)} {l4 : Int32} (hk : ∀ h, k23 0 232 243 (l4 + Int32.ofInt 6) h = some (Int32.ofInt 1, h)) : ∃ h, fL_law_1179 xs 3000 k23 0 232 243 l4 za_h2 = some (Int32.ofInt 1, h) := z_caseA hk z_f21
theorem z_f22 : z_eqA (fun h => fB_letters 3000 0 h) (fun h => fM_letters 3000 232 h) za_h2 = true := by decide +kernel
theorem z_c22 {xs : List Int32} {k23 : Nat → Nat → Nat → Int32 → zH → Option (Int32 × zH)} {l4 : Int32} (hk : ∀ h, k23 0 232 243 (l4 + Int32.ofInt 6) h = some (Int32.ofInt 1, h)) : ∃ h, fL_law_1192 xs 3000 k23 0 232 243 l4 za_h2 = some (Int32.ofInt 1, h) := z_caseA hk z_f22
theorem z_f23 : z_eqA (fun h => fB_length 3000 0 h) (fun h => fM_length 3000 232 h) za_h2 = true := by decide +kernel
theorem z_c23 {xs : List Int32} {k23 : Nat → Nat → Nat → Int32 → zH → Option (Int32 × zH)} {l4 : Int32} (hk : ∀ h, k23 0 232 243 (l4 + Int32.ofInt 6) h = some (Int32.ofInt 1, h)) : ∃ h, fL_law_1205 xs 3000 k23 0 232 243 l4 za_h2 = some (Int32.ofInt 1, h) := z_caseA hk z_f23
theorem z_f26 : z_eqA (fun h => fB_factorCount 3000 0 h) (fun h => fM_factorCount 3000 232 h) za_h2 = true := by decide +kernel
theorem z_c26 {xs : List Int32} {k23 : Nat → Nat → Nat → Int32 → zH → Option (Int32 × zH)} {l4 : Int32} (hk : ∀ h, k23 0 232 243 (l4 + Int32.ofInt 6) h = some (Int32.ofInt 1, h)) : ∃ h, fL_law_1335 xs 3000 k23 0 232 243 l4 za_h2 = some (Int32.ofInt 1, h) := z_caseA hk z_f26
theorem z_f35 : z_eqA (fun h => fB_isLyndon 3000 0 h) (fun h => fM_isLyndon 3000 232 h) za_h2 = true := by decide +kernel
theorem z_c35 {xs : List Int32} {k23 : Nat → Nat → Nat → Int32 → zH → Option (Int32 × zH)} {l4 : Int32} (hk : ∀ h, k23 0 232 243 (l4 + Int32.ofInt 6) h = some (Int32.ofInt 1, h)) : ∃ h, fL_law_1722 xs 3000 k23 0 232 243 l4 za_h2 = some (Int32.ofInt 1, h) := z_caseA hk z_f35
theorem z_f36 : z_eqA (fun h => fB_whyNotLyndon 3000 0 h) (fun h => fM_whyNotLyndon 3000 232 h) za_h2 = true := by decide +kernel
theorem z_c36 {xs : List Int32} {k23 : Nat → Nat → Nat → Int32 → zH → Option (Int32 × zH)} {l4 : Int32} (hk : ∀ h, k23 0 232 243 (l4 + Int32.ofInt 6) h = some (Int32.ofInt 1, h)) : ∃ h, fL_law_1735 xs 3000 k23 0 232 243 l4 za_h2 = some (Int32.ofInt 1, h) := z_caseA hk z_f36
theorem z_f37 : z_eqA (fun h => fB_isNecklace 3000 0 h) (fun h => fM_isNecklace 3000 232 h) za_h2 = true := by decide +kernel
theorem z_c37 {xs : List Int32} {k23 : Nat → Nat → Nat → Int32 → zH → Option (Int32 × zH)} {l4 : Int32} (hk : ∀ h, k23 0 232 243 (l4 + Int32.ofInt 6) h = some (Int32.ofInt 1, h)) : ∃ h, fL_law_1748 xs 3000 k23 0 232 243 l4 za_h2 = some (Int32.ofInt 1, h) := z_caseA hk z_f37
theorem z_f38 : z_eqA (fun h => fB_isPrenecklace 3000 0 h) (fun h => fM_isPrenecklace 3000 232 h) za_h2 = true := by decide +kernel
theorem z_c38 {xs : List Int32} {k23 : Nat → Nat → Nat → Int32 → zH → Option (Int32 × zH)} {l4 : Int32} (hk : ∀ h, k23 0 232 243 (l4 + Int32.ofInt 6) h = some (Int32.ofInt 1, h)) : ∃ h, fL_law_1761 xs 3000 k23 0 232 243 l4 za_h2 = some (Int32.ofInt 1, h) := z_caseA hk z_f38
theorem z_f39 : z_eqA (fun h => fB_keepingLetter 3000 0 h) (fun h => fM_keepingLetter 3000 232 h) za_h2 = true := by decide +kernel
theorem z_c39 {xs : List Int32} {k23 : Nat → Nat → Nat → Int32 → zH → Option (Int32 × zH)} {l4 : Int32} (hk : ∀ h, k23 0 232 243 (l4 + Int32.ofInt 6) h = some (Int32.ofInt 1, h)) : ∃ h, fL_law_1774 xs 3000 k23 0 232 243 l4 za_h2 = some (Int32.ofInt 1, h) := z_caseA hk z_f39
theorem z_f40 : z_eqA (fun h => fB_leastRotation 3000 0 h) (fun h => fM_leastRotation 3000 232 h) za_h2 = true := by decide +kernel
theorem z_c40 {xs : List Int32} {k23 : Nat → Nat → Nat → Int32 → zH → Option (Int32 × zH)} {l4 : Int32} (hk : ∀ h, k23 0 232 243 (l4 + Int32.ofInt 6) h = some (Int32.ofInt 1, h)) : ∃ h, fL_law_1787 xs 3000 k23 0 232 243 l4 za_h2 = some (Int32.ofInt 1, h) := z_caseA hk z_f40
theorem z_f41 : z_eqA (fun h => fB_rotationCount 3000 0 h) (fun h => fM_rotationCount 3000 232 h) za_h2 = true := by decide +kernel
theorem z_c41 {xs : List Int32} {k23 : Nat → Nat → Nat → Int32 → zH → Option (Int32 × zH)} {l4 : Int32} (hk : ∀ h, k23 0 232 243 (l4 + Int32.ofInt 6) h = some (Int32.ofInt 1, h)) : ∃ h, fL_law_1800 xs 3000 k23 0 232 243 l4 za_h2 = some (Int32.ofInt 1, h) := z_caseA hk z_f41
theorem z_f42 : z_eqA (fun h => fB_smallestPeriod 3000 0 h) (fun h => fM_smallestPeriod 3000 232 h) za_h2 = true := by decide +kernel
theorem z_c42 {xs : List Int32} {k23 : Nat → Nat → Nat → Int32 → zH → Option (Int32 × zH)} {l4 : Int32} (hk : ∀ h, k23 0 232 243 (l4 + Int32.ofInt 6) h = some (Int32.ofInt 1, h)) : ∃ h, fL_law_1813 xs 3000 k23 0 232 243 l4 za_h2 = some (Int32.ofInt 1, h) := z_caseA hk z_f42
theorem z_f43 : z_eqA (fun h => fB_longestBorder 3000 0 h) (fun h => fM_longestBorder 3000 232 h) za_h2 = true := by decide +kernel
theorem z_c43 {xs : List Int32} {k23 : Nat → Nat → Nat → Int32 → zH → Option (Int32 × zH)} {l4 : Int32} (hk : ∀ h, k23 0 232 243 (l4 + Int32.ofInt 6) h = some (Int32.ofInt 1, h)) : ∃ h, fL_law_1826 xs 3000 k23 0 232 243 l4 za_h2 = some (Int32.ofInt 1, h) := z_caseA hk z_f43
theorem z_f44 : z_eqA (fun h => fB_leastSuffix 3000 0 h) (fun h => fM_leastSuffix 3000 232 h) za_h2 = true := by decide +kernel
theorem z_c44 {xs : List Int32} {k23 : Nat → Nat → Nat → Int32 → zH → Option (Int32 × zH)} {l4 : Int32} (hk : ∀ h, k23 0 232 243 (l4 + Int32.ofInt 6) h = some (Int32.ofInt 1, h)) : ∃ h, fL_law_1839 xs 3000 k23 0 232 243 l4 za_h2 = some (Int32.ofInt 1, h) := z_caseA hk z_f44
theorem z_f45 : z_eqA (fun h => fB_greatestSuffix 3000 0 h) (fun h => fM_greatestSuffix 3000 232 h) za_h2 = true := by decide +kernel
theorem z_c45 {xs : List Int32} {k23 : Nat → Nat → Nat → Int32 → zH → Option (Int32 × zH)} {l4 : Int32} (hk : ∀ h, k23 0 232 243 (l4 + Int32.ofInt 6) h = some (Int32.ofInt 1, h)) : ∃ h, fL_law_1852 xs 3000 k23 0 232 243 l4 za_h2 = some (Int32.ofInt 1, h) := z_caseA hk z_f45
theorem z_f49 : z_eqA (fun h => fB_keptCount 3000 0 h) (fun h => fM_keptCount 3000 232 h) za_h2 = true := by decide +kernel
theorem z_c49 {xs : List Int32} {k23 : Nat → Nat → Nat → Int32 → zH → Option (Int32 × zH)} {l4 : Int32} (hk : ∀ h, k23 0 232 243 (l4 + Int32.ofInt 6) h = some (Int32.ofInt 1, h)) : ∃ h, fL_law_2043 xs 3000 k23 0 232 243 l4 za_h2 = some (Int32.ofInt 1, h) := z_caseA hk z_f49
theorem z_f52 : z_eqA (fun h => fB_isShelfFalling 3000 0 h) (fun h => fM_isShelfFalling 3000 232 h) za_h2 = true := by decide +kernel
theorem z_c52 {xs : List Int32} {k23 : Nat → Nat → Nat → Int32 → zH → Option (Int32 × zH)} {l4 : Int32} (hk : ∀ h, k23 0 232 243 (l4 + Int32.ofInt 6) h = some (Int32.ofInt 1, h)) : ∃ h, fL_law_2180 xs 3000 k23 0 232 243 l4 za_h2 = some (Int32.ofInt 1, h) := z_caseA hk z_f52
theorem z_f54 : z_eqD (fun h => fB_meanFactor 3000 0 h) (fun h => fM_meanFactor 3000 232 h) za_h2 = true := by decide +kernel
theorem z_c54 {xs : List Int32} {k23 : Nat → Nat → Nat → Int32 → zH → Option (Int32 × zH)} {l4 : Int32} (hk : ∀ h, k23 0 232 243 (l4 + Int32.ofInt 6) h = some (Int32.ofInt 1, h)) : ∃ h, fL_law_2206 xs 3000 k23 0 232 243 l4 za_h2 = some (Int32.ofInt 1, h) := z_caseD hk z_f54
theorem z_f55 : z_eqF (fun h => fB_lyndonShare 3000 0 h) (fun h => fM_lyndonShare 3000 232 h) za_h2 = true := by decide +kernel
theorem z_c55 {xs : List Int32} {k23 : Nat → Nat → Nat → Int32 → zH → Option (Int32 × zH)} {l4 : Int32} (hk : ∀ h, k23 0 232 243 (l4 + Int32.ofInt 6) h = some (Int32.ofInt 1, h)) : ∃ h, fL_law_2247 xs 3000 k23 0 232 243 l4 za_h2 = some (Int32.ofInt 1, h) := z_caseF hk z_f55
