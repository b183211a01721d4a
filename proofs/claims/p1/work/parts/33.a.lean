/-! THE FIRST CALL: cases that write. -/
set_option linter.unusedSimpArgs false
theorem zgk_9 : z_eqA (fun h => fB_reverse 3000 0 h) (fun h => gM_reverse 3000 232 h) za_h2 = true := by decide +kernel
theorem z_f9 : z_eqA (fun h => fB_reverse 3000 0 h) (fun h => fM_reverse 3000 232 h) za_h2 = true := z_eqA_mono (fun _ => gfM_reverse) zgk_9
theorem z_c9 {xs : List Int32} {k23 : Nat → Nat → Nat → Int32 → zH → Option (Int32 × zH)} {l4 : Int32} (hk : ∀ h, k23 0 232 243 (l4 + Int32.ofInt 6) h = some (Int32.ofInt 1, h)) : ∃ h, fL_law_770 xs 3000 k23 0 232 243 l4 za_h2 = some (Int32.ofInt 1, h) := z_caseA hk z_f9
theorem zgk_10 : z_eqC Int32.toInt64 (fun h => fL_rotateToLeast 3000 0 243 h) (fun h => gM_rotateToLeast 3000 232 h) (fun h => fM_thrown 3000 232 h) 243 za_h2 = true := by decide +kernel
theorem z_f10 : z_eqC Int32.toInt64 (fun h => fL_rotateToLeast 3000 0 243 h) (fun h => fM_rotateToLeast 3000 232 h) (fun h => fM_thrown 3000 232 h) 243 za_h2 = true := z_eqC_mono (fun _ => gfM_rotateToLeast) zgk_10
theorem z_c10 {xs : List Int32} {k23 : Nat → Nat → Nat → Int32 → zH → Option (Int32 × zH)} {l4 : Int32} (hk : ∀ h, k23 0 232 243 (l4 + Int32.ofInt 6) h = some (Int32.ofInt 1, h)) : ∃ h, fL_law_783 xs 3000 k23 0 232 243 l4 za_h2 = some (Int32.ofInt 1, h) := z_caseC hk hk z_f10
theorem zgk_13 : z_eqC Int32.toInt64 (fun h => fL_keepText 3000 0 243 h) (fun h => gM_keepText 3000 232 h) (fun h => fM_thrown 3000 232 h) 243 za_h2 = true := by decide +kernel
theorem z_f13 : z_eqC Int32.toInt64 (fun h => fL_keepText 3000 0 243 h) (fun h => fM_keepText 3000 232 h) (fun h => fM_thrown 3000 232 h) 243 za_h2 = true := z_eqC_mono (fun _ => gfM_keepText) zgk_13
theorem z_c13 {xs : List Int32} {k23 : Nat → Nat → Nat → Int32 → zH → Option (Int32 × zH)} {l4 : Int32} (hk : ∀ h, k23 0 232 243 (l4 + Int32.ofInt 6) h = some (Int32.ofInt 1, h)) : ∃ h, fL_law_939 xs 3000 k23 0 232 243 l4 za_h2 = some (Int32.ofInt 1, h) := z_caseC hk hk z_f13
theorem zgk_15 : z_eqC Int32.toInt64 (fun h => fL_joinKept 3000 0 243 h) (fun h => gM_joinKept 3000 232 h) (fun h => fM_thrown 3000 232 h) 243 za_h2 = true := by decide +kernel
theorem z_f15 : z_eqC Int32.toInt64 (fun h => fL_joinKept 3000 0 243 h) (fun h => fM_joinKept 3000 232 h) (fun h => fM_thrown 3000 232 h) 243 za_h2 = true := z_eqC_mono (fun _ => gfM_joinKept) zgk_15
theorem z_c15 {xs : List Int32} {k23 : Nat → Nat → Nat → Int32 → zH → Option (Int32 × zH)} {l4 : Int32} (hk : ∀ h, k23 0 232 243 (l4 + Int32.ofInt 6) h = some (Int32.ofInt 1, h)) : ∃ h, fL_law_1039 xs 3000 k23 0 232 243 l4 za_h2 = some (Int32.ofInt 1, h) := z_caseC hk hk z_f15
theorem zgk_4 : z_eqC Int32.toInt64 (fun h => fL_readText 3000 0 243 h) (fun h => gM_readText 3000 232 h) (fun h => fM_thrown 3000 232 h) 243 za_h2 = true := by decide +kernel
theorem z_f4 : z_eqC Int32.toInt64 (fun h => fL_readText 3000 0 243 h) (fun h => fM_readText 3000 232 h) (fun h => fM_thrown 3000 232 h) 243 za_h2 = true := z_eqC_mono (fun _ => gfM_readText) zgk_4
theorem z_c4 {xs : List Int32} {k23 : Nat → Nat → Nat → Int32 → zH → Option (Int32 × zH)} {l4 : Int32} (hk : ∀ h, k23 0 232 243 (l4 + Int32.ofInt 6) h = some (Int32.ofInt 1, h)) : ∃ h, fL_law_490 xs 3000 k23 0 232 243 l4 za_h2 = some (Int32.ofInt 1, h) := z_caseC hk hk z_f4
theorem zgk_18 : z_eqA (fun h => fB_saveSnapshot 3000 0 h) (fun h => gM_saveSnapshot 3000 232 h) za_h2 = true := by decide +kernel
theorem z_f18 : z_eqA (fun h => fB_saveSnapshot 3000 0 h) (fun h => fM_saveSnapshot 3000 232 h) za_h2 = true := z_eqA_mono (fun _ => gfM_saveSnapshot) zgk_18
theorem z_c18 {xs : List Int32} {k23 : Nat → Nat → Nat → Int32 → zH → Option (Int32 × zH)} {l4 : Int32} (hk : ∀ h, k23 0 232 243 (l4 + Int32.ofInt 6) h = some (Int32.ofInt 1, h)) : ∃ h, fL_law_1109 xs 3000 k23 0 232 243 l4 za_h2 = some (Int32.ofInt 1, h) := z_caseA hk z_f18
theorem zgk_2 : z_eqA (fun h => fB_runScript 3000 0 h) (fun h => gM_runScript 3000 232 h) za_h2 = true := by decide +kernel
theorem z_f2 : z_eqA (fun h => fB_runScript 3000 0 h) (fun h => fM_runScript 3000 232 h) za_h2 = true := z_eqA_mono (fun _ => gfM_runScript) zgk_2
theorem z_c2 {xs : List Int32} {k23 : Nat → Nat → Nat → Int32 → zH → Option (Int32 × zH)} {l4 : Int32} (hk : ∀ h, k23 0 232 243 (l4 + Int32.ofInt 6) h = some (Int32.ofInt 1, h)) : ∃ h, fL_law_421 xs 3000 k23 0 232 243 l4 za_h2 = some (Int32.ofInt 1, h) := z_caseA hk z_f2
