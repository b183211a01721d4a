/-! The same: its commands. -/
theorem zp_f6 : fM_readsCommand 700 8 232 (Int32.ofInt 0) zp_5 = some (Int32.ofInt 1, zp_6) := by decide +kernel
theorem zp_f8 : fM_readsCommand 700 8 232 (Int32.ofInt 0) zp_7 = some (Int32.ofInt 1, zp_8) := by decide +kernel
theorem zp_f10 : fM_readsCommand 700 8 232 (Int32.ofInt 0) zp_9 = some (Int32.ofInt 1, zp_10) := by decide +kernel
theorem zp_f12 : fM_readsCommand 700 8 232 (Int32.ofInt 0) zp_11 = some (Int32.ofInt 1, zp_12) := by decide +kernel
theorem zp_f14 : fM_readsCommand 700 8 232 (Int32.ofInt 0) zp_13 = some (Int32.ofInt 1, zp_14) := by decide +kernel
