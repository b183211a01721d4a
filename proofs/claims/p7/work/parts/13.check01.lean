/-! The check of the tables, methods 184 to 327. -/
theorem zdd_184 : ∀ q ∈ zc_184, decode prog_9_method_38_code q.1 = Except.ok (q.2.1, q.2.2.1) := zdw (by decide +kernel)
theorem zk_184 (xs : List Int32) : z_okm (za_T xs) za_P za_M 184 := z_okm_of ⟨"LyndonBenchModel", "hasNext", "(I)Z"⟩ prog_9_method_38_code zc_184 _ rfl rfl rfl rfl
  (z_bulk0 (own := "LyndonBenchModel") (TB := zTB_6) (zTBk_6 xs) rfl zdd_184 (by decide +kernel))
  (z_fn)
theorem zdd_185 : ∀ q ∈ zc_185, decode prog_9_method_39_code q.1 = Except.ok (q.2.1, q.2.2.1) := zdw (by decide +kernel)
theorem zk_185 (xs : List Int32) : z_okm (za_T xs) za_P za_M 185 := z_okm_of ⟨"LyndonBenchModel", "goesOn", "(I)I"⟩ prog_9_method_39_code zc_185 _ rfl rfl rfl rfl
  (z_bulk0 (own := "LyndonBenchModel") (TB := zTB_6) (zTBk_6 xs) rfl zdd_185 (by decide +kernel))
  (z_fn)
theorem zdd_186 : ∀ q ∈ zc_186, decode prog_9_method_40_code q.1 = Except.ok (q.2.1, q.2.2.1) := zdw (by decide +kernel)
theorem zk_186 (xs : List Int32) : z_okm (za_T xs) za_P za_M 186 := z_okm_of ⟨"LyndonBenchModel", "shelves", "(II)I"⟩ prog_9_method_40_code zc_186 _ rfl rfl rfl rfl
  (z_bulk0 (own := "LyndonBenchModel") (TB := zTB_6) (zTBk_6 xs) rfl zdd_186 (by decide +kernel))
  (z_fn)
theorem zdd_187 : ∀ q ∈ zc_187, decode prog_9_method_41_code q.1 = Except.ok (q.2.1, q.2.2.1) := zdw (by decide +kernel)
theorem zk_187 (xs : List Int32) : z_okm (za_T xs) za_P za_M 187 := z_okm_of ⟨"LyndonBenchModel", "canKeepFactor", "(I)Z"⟩ prog_9_method_41_code zc_187 _ rfl rfl rfl rfl
  (z_bulk0 (own := "LyndonBenchModel") (TB := zTB_6) (zTBk_6 xs) rfl zdd_187 (by decide +kernel))
  (z_fn)
theorem zdd_188 : ∀ q ∈ zc_188, decode prog_9_method_42_code q.1 = Except.ok (q.2.1, q.2.2.1) := zdw (by decide +kernel)
theorem zk_188 (xs : List Int32) : z_okm (za_T xs) za_P za_M 188 := z_okm_of ⟨"LyndonBenchModel", "canKeepText", "()Z"⟩ prog_9_method_42_code zc_188 _ rfl rfl rfl rfl
  (z_bulk0 (own := "LyndonBenchModel") (TB := zTB_6) (zTBk_6 xs) rfl zdd_188 (by decide +kernel))
  (z_fn)
theorem zdd_189 : ∀ q ∈ zc_189, decode prog_9_method_43_code q.1 = Except.ok (q.2.1, q.2.2.1) := zdw (by decide +kernel)
theorem zk_189 (xs : List Int32) : z_okm (za_T xs) za_P za_M 189 := z_okm_of ⟨"LyndonBenchModel", "keepsFactor", "(I)I"⟩ prog_9_method_43_code zc_189 _ rfl rfl rfl rfl
  (z_bulk0 (own := "LyndonBenchModel") (TB := zTB_6) (zTBk_6 xs) rfl zdd_189 (by decide +kernel))
  (z_fn)
theorem zdd_190 : ∀ q ∈ zc_190, decode prog_9_method_44_code q.1 = Except.ok (q.2.1, q.2.2.1) := zdw (by decide +kernel)
theorem zk_190 (xs : List Int32) : z_okm (za_T xs) za_P za_M 190 := z_okm_of ⟨"LyndonBenchModel", "removes", "(I)I"⟩ prog_9_method_44_code zc_190 _ rfl rfl rfl rfl
  (z_bulk0 (own := "LyndonBenchModel") (TB := zTB_6) (zTBk_6 xs) rfl zdd_190 (by decide +kernel))
  (z_fn)
theorem zdd_191 : ∀ q ∈ zc_191, decode prog_9_method_45_code q.1 = Except.ok (q.2.1, q.2.2.1) := zdw (by decide +kernel)
theorem zk_191 (xs : List Int32) : z_okm (za_T xs) za_P za_M 191 := z_okm_of ⟨"LyndonBenchModel", "shelfLength", "()I"⟩ prog_9_method_45_code zc_191 _ rfl rfl rfl rfl
  (z_bulk0 (own := "LyndonBenchModel") (TB := zTB_6) (zTBk_6 xs) rfl zdd_191 (by decide +kernel))
  (z_fn)
theorem zdd_192 : ∀ q ∈ zc_192, decode prog_9_method_46_code q.1 = Except.ok (q.2.1, q.2.2.1) := zdw (by decide +kernel)
theorem zk_192 (xs : List Int32) : z_okm (za_T xs) za_P za_M 192 := z_okm_of ⟨"LyndonBenchModel", "canJoin", "()Z"⟩ prog_9_method_46_code zc_192 _ rfl rfl rfl rfl
  (z_bulk0 (own := "LyndonBenchModel") (TB := zTB_6) (zTBk_6 xs) rfl zdd_192 (by decide +kernel))
  (z_fn)
theorem zdd_193 : ∀ q ∈ zc_193, decode prog_9_method_47_code q.1 = Except.ok (q.2.1, q.2.2.1) := zdw (by decide +kernel)
theorem zk_193 (xs : List Int32) : z_okm (za_T xs) za_P za_M 193 := z_okm_of ⟨"LyndonBenchModel", "greatestBeside", "(I)I"⟩ prog_9_method_47_code zc_193 _ rfl rfl rfl rfl
  (z_bulk0 (own := "LyndonBenchModel") (TB := zTB_6) (zTBk_6 xs) rfl zdd_193 (by decide +kernel))
  (z_fn)
theorem zdd_194 : ∀ q ∈ zc_194, decode prog_9_method_48_code q.1 = Except.ok (q.2.1, q.2.2.1) := zdw (by decide +kernel)
theorem zk_194 (xs : List Int32) : z_okm (za_T xs) za_P za_M 194 := z_okm_of ⟨"LyndonBenchModel", "joins", "()I"⟩ prog_9_method_48_code zc_194 _ rfl rfl rfl rfl
  (z_bulk0 (own := "LyndonBenchModel") (TB := zTB_6) (zTBk_6 xs) rfl zdd_194 (by decide +kernel))
  (z_fn)
theorem zdd_195 : ∀ q ∈ zc_195, decode prog_9_method_49_code q.1 = Except.ok (q.2.1, q.2.2.1) := zdw (by decide +kernel)
theorem zk_195 (xs : List Int32) : z_okm (za_T xs) za_P za_M 195 := z_okm_of ⟨"LyndonBenchModel", "canHave", "(I)Z"⟩ prog_9_method_49_code zc_195 _ rfl rfl rfl rfl
  (z_bulk0 (own := "LyndonBenchModel") (TB := zTB_6) (zTBk_6 xs) rfl zdd_195 (by decide +kernel))
  (z_fn)
theorem zdd_196 : ∀ q ∈ zc_196, decode prog_9_method_50_code q.1 = Except.ok (q.2.1, q.2.2.1) := zdw (by decide +kernel)
theorem zk_196 (xs : List Int32) : z_okm (za_T xs) za_P za_M 196 := z_okm_of ⟨"LyndonBenchModel", "tell", "(Ljava/lang/String;)V"⟩ prog_9_method_50_code zc_196 _ rfl rfl rfl rfl
  (z_bulk0 (own := "LyndonBenchModel") (TB := zTB_6) (zTBk_6 xs) rfl zdd_196 (by decide +kernel))
  (z_fn)
theorem zdd_197 : ∀ q ∈ zc_197, decode prog_9_method_51_code q.1 = Except.ok (q.2.1, q.2.2.1) := zdw (by decide +kernel)
theorem zk_197 (xs : List Int32) : z_okm (za_T xs) za_P za_M 197 := z_okm_of ⟨"LyndonBenchModel", "sortOf", "(I)I"⟩ prog_9_method_51_code zc_197 _ rfl rfl rfl rfl
  (z_bulk0 (own := "LyndonBenchModel") (TB := zTB_6) (zTBk_6 xs) rfl zdd_197 (by decide +kernel))
  (z_fn)
theorem zdd_198 : ∀ q ∈ zc_198, decode prog_9_method_52_code q.1 = Except.ok (q.2.1, q.2.2.1) := zdw (by decide +kernel)
theorem zk_198 (xs : List Int32) : z_okm (za_T xs) za_P za_M 198 := z_okm_of ⟨"LyndonBenchModel", "next", "()V"⟩ prog_9_method_52_code zc_198 _ rfl rfl rfl rfl
  (z_bulk0 (own := "LyndonBenchModel") (TB := zTB_6) (zTBk_6 xs) rfl zdd_198 (by decide +kernel))
  (z_fn)
theorem zdd_199 : ∀ q ∈ zc_199, decode prog_9_method_53_code q.1 = Except.ok (q.2.1, q.2.2.1) := zdw (by decide +kernel)
theorem zk_199 (xs : List Int32) : z_okm (za_T xs) za_P za_M 199 := z_okm_of ⟨"LyndonBenchModel", "says", "(Ljava/lang/String;)Z"⟩ prog_9_method_53_code zc_199 _ rfl rfl rfl rfl
  (z_bulk0 (own := "LyndonBenchModel") (TB := zTB_6) (zTBk_6 xs) rfl zdd_199 (by decide +kernel))
  (z_fn)
theorem zdd_200 : ∀ q ∈ zc_200, decode prog_9_method_54_code q.1 = Except.ok (q.2.1, q.2.2.1) := zdw (by decide +kernel)
theorem zk_200 (xs : List Int32) : z_okm (za_T xs) za_P za_M 200 := z_okm_of ⟨"LyndonBenchModel", "fail", "(I)Z"⟩ prog_9_method_54_code zc_200 _ rfl rfl rfl rfl
  (z_bulk0 (own := "LyndonBenchModel") (TB := zTB_6) (zTBk_6 xs) rfl zdd_200 (by decide +kernel))
  (z_fn)
theorem zdd_201 : ∀ q ∈ zc_201, decode prog_9_method_55_code q.1 = Except.ok (q.2.1, q.2.2.1) := zdw (by decide +kernel)
theorem zk_201 (xs : List Int32) : z_okm (za_T xs) za_P za_M 201 := z_okm_of ⟨"LyndonBenchModel", "is", "(I)Z"⟩ prog_9_method_55_code zc_201 _ rfl rfl rfl rfl
  (z_bulk0 (own := "LyndonBenchModel") (TB := zTB_6) (zTBk_6 xs) rfl zdd_201 (by decide +kernel))
  (z_fn)
theorem zdd_202 : ∀ q ∈ zc_202, decode prog_9_method_56_code q.1 = Except.ok (q.2.1, q.2.2.1) := zdw (by decide +kernel)
theorem zk_202 (xs : List Int32) : z_okm (za_T xs) za_P za_M 202 := z_okm_of ⟨"LyndonBenchModel", "number", "(III)Z"⟩ prog_9_method_56_code zc_202 _ rfl rfl rfl rfl
  (z_bulk0 (own := "LyndonBenchModel") (TB := zTB_6) (zTBk_6 xs) rfl zdd_202 (by decide +kernel))
  (z_fn)
theorem zdd_203 : ∀ q ∈ zc_203, decode prog_9_method_57_code q.1 = Except.ok (q.2.1, q.2.2.1) := zdw (by decide +kernel)
theorem zk_203 (xs : List Int32) : z_okm (za_T xs) za_P za_M 203 := z_okm_of ⟨"LyndonBenchModel", "stops", "(Z)Z"⟩ prog_9_method_57_code zc_203 _ rfl rfl rfl rfl
  (z_bulk0 (own := "LyndonBenchModel") (TB := zTB_6) (zTBk_6 xs) rfl zdd_203 (by decide +kernel))
  (z_fn)
theorem zdd_204 : ∀ q ∈ zc_204, decode prog_9_method_58_code q.1 = Except.ok (q.2.1, q.2.2.1) := zdw (by decide +kernel)
theorem zk_204 (xs : List Int32) : z_okm (za_T xs) za_P za_M 204 := z_okm_of ⟨"LyndonBenchModel", "readsWordInto", "(I)Z"⟩ prog_9_method_58_code zc_204 _ rfl rfl rfl rfl
  (z_bulk0 (own := "LyndonBenchModel") (TB := zTB_6) (zTBk_6 xs) rfl zdd_204 (by decide +kernel))
  (z_fn)
theorem zdd_205 : ∀ q ∈ zc_205, decode prog_9_method_59_code q.1 = Except.ok (q.2.1, q.2.2.1) := zdw (by decide +kernel)
theorem zk_205 (xs : List Int32) : z_okm (za_T xs) za_P za_M 205 := z_okm_of ⟨"LyndonBenchModel", "readsText", "()Z"⟩ prog_9_method_59_code zc_205 _ rfl rfl rfl rfl
  (z_bulk0 (own := "LyndonBenchModel") (TB := zTB_6) (zTBk_6 xs) rfl zdd_205 (by decide +kernel))
  (z_fn)
theorem zdd_206 : ∀ q ∈ zc_206, decode prog_9_method_60_code q.1 = Except.ok (q.2.1, q.2.2.1) := zdw (by decide +kernel)
theorem zk_206 (xs : List Int32) : z_okm (za_T xs) za_P za_M 206 := z_okm_of ⟨"LyndonBenchModel", "readsAppend", "()Z"⟩ prog_9_method_60_code zc_206 _ rfl rfl rfl rfl
  (z_bulk0 (own := "LyndonBenchModel") (TB := zTB_6) (zTBk_6 xs) rfl zdd_206 (by decide +kernel))
  (z_fn)
theorem zdd_207 : ∀ q ∈ zc_207, decode prog_9_method_61_code q.1 = Except.ok (q.2.1, q.2.2.1) := zdw (by decide +kernel)
theorem zk_207 (xs : List Int32) : z_okm (za_T xs) za_P za_M 207 := z_okm_of ⟨"LyndonBenchModel", "readsDrop", "()Z"⟩ prog_9_method_61_code zc_207 _ rfl rfl rfl rfl
  (z_bulk0 (own := "LyndonBenchModel") (TB := zTB_6) (zTBk_6 xs) rfl zdd_207 (by decide +kernel))
  (z_fn)
theorem zdd_208 : ∀ q ∈ zc_208, decode prog_9_method_62_code q.1 = Except.ok (q.2.1, q.2.2.1) := zdw (by decide +kernel)
theorem zk_208 (xs : List Int32) : z_okm (za_T xs) za_P za_M 208 := z_okm_of ⟨"LyndonBenchModel", "readsPart", "()Z"⟩ prog_9_method_62_code zc_208 _ rfl rfl rfl rfl
  (z_bulk0 (own := "LyndonBenchModel") (TB := zTB_6) (zTBk_6 xs) rfl zdd_208 (by decide +kernel))
  (z_fn)
theorem zdd_209 : ∀ q ∈ zc_209, decode prog_9_method_63_code q.1 = Except.ok (q.2.1, q.2.2.1) := zdw (by decide +kernel)
theorem zk_209 (xs : List Int32) : z_okm (za_T xs) za_P za_M 209 := z_okm_of ⟨"LyndonBenchModel", "readsRotate", "()Z"⟩ prog_9_method_63_code zc_209 _ rfl rfl rfl rfl
  (z_bulk0 (own := "LyndonBenchModel") (TB := zTB_6) (zTBk_6 xs) rfl zdd_209 (by decide +kernel))
  (z_fn)
theorem zdd_210 : ∀ q ∈ zc_210, decode prog_9_method_64_code q.1 = Except.ok (q.2.1, q.2.2.1) := zdw (by decide +kernel)
theorem zk_210 (xs : List Int32) : z_okm (za_T xs) za_P za_M 210 := z_okm_of ⟨"LyndonBenchModel", "readsReverse", "()Z"⟩ prog_9_method_64_code zc_210 _ rfl rfl rfl rfl
  (z_bulk0 (own := "LyndonBenchModel") (TB := zTB_6) (zTBk_6 xs) rfl zdd_210 (by decide +kernel))
  (z_fn)
theorem zdd_211 : ∀ q ∈ zc_211, decode prog_9_method_65_code q.1 = Except.ok (q.2.1, q.2.2.1) := zdw (by decide +kernel)
theorem zk_211 (xs : List Int32) : z_okm (za_T xs) za_P za_M 211 := z_okm_of ⟨"LyndonBenchModel", "readsLeast", "()Z"⟩ prog_9_method_65_code zc_211 _ rfl rfl rfl rfl
  (z_bulk0 (own := "LyndonBenchModel") (TB := zTB_6) (zTBk_6 xs) rfl zdd_211 (by decide +kernel))
  (z_fn)
theorem zdd_212 : ∀ q ∈ zc_212, decode prog_9_method_66_code q.1 = Except.ok (q.2.1, q.2.2.1) := zdw (by decide +kernel)
theorem zk_212 (xs : List Int32) : z_okm (za_T xs) za_P za_M 212 := z_okm_of ⟨"LyndonBenchModel", "readsNext", "()Z"⟩ prog_9_method_66_code zc_212 _ rfl rfl rfl rfl
  (z_bulk0 (own := "LyndonBenchModel") (TB := zTB_6) (zTBk_6 xs) rfl zdd_212 (by decide +kernel))
  (z_fn)
theorem zdd_213 : ∀ q ∈ zc_213, decode prog_9_method_67_code q.1 = Except.ok (q.2.1, q.2.2.1) := zdw (by decide +kernel)
theorem zk_213 (xs : List Int32) : z_okm (za_T xs) za_P za_M 213 := z_okm_of ⟨"LyndonBenchModel", "readsKeep", "()Z"⟩ prog_9_method_67_code zc_213 _ rfl rfl rfl rfl
  (z_bulk0 (own := "LyndonBenchModel") (TB := zTB_6) (zTBk_6 xs) rfl zdd_213 (by decide +kernel))
  (z_fn)
theorem zdd_214 : ∀ q ∈ zc_214, decode prog_9_method_68_code q.1 = Except.ok (q.2.1, q.2.2.1) := zdw (by decide +kernel)
theorem zk_214 (xs : List Int32) : z_okm (za_T xs) za_P za_M 214 := z_okm_of ⟨"LyndonBenchModel", "readsRemove", "()Z"⟩ prog_9_method_68_code zc_214 _ rfl rfl rfl rfl
  (z_bulk0 (own := "LyndonBenchModel") (TB := zTB_6) (zTBk_6 xs) rfl zdd_214 (by decide +kernel))
  (z_fn)
theorem zdd_215 : ∀ q ∈ zc_215, decode prog_9_method_69_code q.1 = Except.ok (q.2.1, q.2.2.1) := zdw (by decide +kernel)
theorem zk_215 (xs : List Int32) : z_okm (za_T xs) za_P za_M 215 := z_okm_of ⟨"LyndonBenchModel", "readsJoin", "()Z"⟩ prog_9_method_69_code zc_215 _ rfl rfl rfl rfl
  (z_bulk0 (own := "LyndonBenchModel") (TB := zTB_6) (zTBk_6 xs) rfl zdd_215 (by decide +kernel))
  (z_fn)
theorem zdd_216 : ∀ q ∈ zc_216, decode prog_9_method_70_code q.1 = Except.ok (q.2.1, q.2.2.1) := zdw (by decide +kernel)
theorem zk_216 (xs : List Int32) : z_okm (za_T xs) za_P za_M 216 := z_okm_of ⟨"LyndonBenchModel", "readsRepeat", "(I)Z"⟩ prog_9_method_70_code zc_216 _ rfl rfl rfl rfl
  (z_bulk0 (own := "LyndonBenchModel") (TB := zTB_6) (zTBk_6 xs) rfl zdd_216 (by decide +kernel))
  (z_fn)
theorem zdd_217 : ∀ q ∈ zc_217, decode prog_9_method_71_code q.1 = Except.ok (q.2.1, q.2.2.1) := zdw (by decide +kernel)
theorem zk_217 (xs : List Int32) : z_okm (za_T xs) za_P za_M 217 := z_okm_of ⟨"LyndonBenchModel", "wordAhead", "()I"⟩ prog_9_method_71_code zc_217 _ rfl rfl rfl rfl
  (z_bulk0 (own := "LyndonBenchModel") (TB := zTB_6) (zTBk_6 xs) rfl zdd_217 (by decide +kernel))
  (z_fn)
theorem zdd_218 : ∀ q ∈ zc_218, decode prog_9_method_72_code q.1 = Except.ok (q.2.1, q.2.2.1) := zdw (by decide +kernel)
theorem zk_218 (xs : List Int32) : z_okm (za_T xs) za_P za_M 218 := z_okm_of ⟨"LyndonBenchModel", "laterWord", "()I"⟩ prog_9_method_72_code zc_218 _ rfl rfl rfl rfl
  (z_bulk0 (own := "LyndonBenchModel") (TB := zTB_6) (zTBk_6 xs) rfl zdd_218 (by decide +kernel))
  (z_fn)
theorem zdd_219 : ∀ q ∈ zc_219, decode prog_9_method_73_code q.1 = Except.ok (q.2.1, q.2.2.1) := zdw (by decide +kernel)
theorem zk_219 (xs : List Int32) : z_okm (za_T xs) za_P za_M 219 := z_okm_of ⟨"LyndonBenchModel", "readsCommand", "(I)Z"⟩ prog_9_method_73_code zc_219 _ rfl rfl rfl rfl
  (z_bulk0 (own := "LyndonBenchModel") (TB := zTB_6) (zTBk_6 xs) rfl zdd_219 (by decide +kernel))
  (z_fn)
theorem zdd_220 : ∀ q ∈ zc_220, decode prog_9_method_74_code q.1 = Except.ok (q.2.1, q.2.2.1) := zdd_of (by decide +kernel)
theorem zk_220 (xs : List Int32) : z_okm (za_T xs) za_P za_M 220 := z_okm_of ⟨"LyndonBenchModel", "readsWord", "(I)Z"⟩ prog_9_method_74_code zc_220 _ rfl rfl rfl rfl
  (z_bulk0 (own := "LyndonBenchModel") (TB := zTB_6) (zTBk_6 xs) rfl zdd_220 (by decide +kernel))
  (z_fn)
theorem zdd_221 : ∀ q ∈ zc_221, decode prog_9_method_75_code q.1 = Except.ok (q.2.1, q.2.2.1) := zdw (by decide +kernel)
theorem zk_221 (xs : List Int32) : z_okm (za_T xs) za_P za_M 221 := z_okm_of ⟨"LyndonBenchModel", "readsAll", "()Z"⟩ prog_9_method_75_code zc_221 _ rfl rfl rfl rfl
  (z_bulk0 (own := "LyndonBenchModel") (TB := zTB_6) (zTBk_6 xs) rfl zdd_221 (by decide +kernel))
  (z_fn)
theorem zdd_222 : ∀ q ∈ zc_222, decode prog_9_method_76_code q.1 = Except.ok (q.2.1, q.2.2.1) := zdw (by decide +kernel)
theorem zk_222 (xs : List Int32) : z_okm (za_T xs) za_P za_M 222 := z_okm_of ⟨"LyndonBenchModel", "parses", "()Z"⟩ prog_9_method_76_code zc_222 _ rfl rfl rfl rfl
  (z_bulk0 (own := "LyndonBenchModel") (TB := zTB_6) (zTBk_6 xs) rfl zdd_222 (by decide +kernel))
  (z_fn)
theorem zdd_223 : ∀ q ∈ zc_223, decode prog_9_method_77_code q.1 = Except.ok (q.2.1, q.2.2.1) := zdw (by decide +kernel)
theorem zk_223 (xs : List Int32) : z_okm (za_T xs) za_P za_M 223 := z_okm_of ⟨"LyndonBenchModel", "append", "(IIIII)I"⟩ prog_9_method_77_code zc_223 _ rfl rfl rfl rfl
  (z_bulk0 (own := "LyndonBenchModel") (TB := zTB_6) (zTBk_6 xs) rfl zdd_223 (by decide +kernel))
  (z_fn)
theorem zdd_224 : ∀ q ∈ zc_224, decode prog_9_method_78_code q.1 = Except.ok (q.2.1, q.2.2.1) := zdw (by decide +kernel)
theorem zk_224 (xs : List Int32) : z_okm (za_T xs) za_P za_M 224 := z_okm_of ⟨"LyndonBenchModel", "type", "(I)V"⟩ prog_9_method_78_code zc_224 _ rfl rfl rfl rfl
  (z_bulk0 (own := "LyndonBenchModel") (TB := zTB_6) (zTBk_6 xs) rfl zdd_224 (by decide +kernel))
  (z_fn)
theorem zdd_225 : ∀ q ∈ zc_225, decode prog_9_method_79_code q.1 = Except.ok (q.2.1, q.2.2.1) := zdw (by decide +kernel)
theorem zk_225 (xs : List Int32) : z_okm (za_T xs) za_P za_M 225 := z_okm_of ⟨"LyndonBenchModel", "truncateInput", "(I)I"⟩ prog_9_method_79_code zc_225 _ rfl rfl rfl rfl
  (z_bulk0 (own := "LyndonBenchModel") (TB := zTB_6) (zTBk_6 xs) rfl zdd_225 (by decide +kernel))
  (z_fn)
theorem zdd_226 : ∀ q ∈ zc_226, decode prog_9_method_80_code q.1 = Except.ok (q.2.1, q.2.2.1) := zdw (by decide +kernel)
theorem zk_226 (xs : List Int32) : z_okm (za_T xs) za_P za_M 226 := z_okm_of ⟨"LyndonBenchModel", "begins", "()V"⟩ prog_9_method_80_code zc_226 _ rfl rfl rfl rfl
  (z_bulk0 (own := "LyndonBenchModel") (TB := zTB_6) (zTBk_6 xs) rfl zdd_226 (by decide +kernel))
  (z_fn)
theorem zdd_227 : ∀ q ∈ zc_227, decode prog_9_method_81_code q.1 = Except.ok (q.2.1, q.2.2.1) := zdw (by decide +kernel)
theorem zk_227 (xs : List Int32) : z_okm (za_T xs) za_P za_M 227 := z_okm_of ⟨"LyndonBenchModel", "remember", "(I)I"⟩ prog_9_method_81_code zc_227 _ rfl rfl rfl rfl
  (z_bulk0 (own := "LyndonBenchModel") (TB := zTB_6) (zTBk_6 xs) rfl zdd_227 (by decide +kernel))
  (z_fn)
theorem zdd_228 : ∀ q ∈ zc_228, decode prog_9_method_82_code q.1 = Except.ok (q.2.1, q.2.2.1) := zdw (by decide +kernel)
theorem zk_228 (xs : List Int32) : z_okm (za_T xs) za_P za_M 228 := z_okm_of ⟨"LyndonBenchModel", "runScript", "()I"⟩ prog_9_method_82_code zc_228 _ rfl rfl rfl rfl
  (z_bulk0 (own := "LyndonBenchModel") (TB := zTB_6) (zTBk_6 xs) rfl zdd_228 (by decide +kernel))
  (z_fn)
theorem zdd_229 : ∀ q ∈ zc_229, decode prog_9_method_83_code q.1 = Except.ok (q.2.1, q.2.2.1) := zdw (by decide +kernel)
theorem zk_229 (xs : List Int32) : z_okm (za_T xs) za_P za_M 229 := z_okm_of ⟨"LyndonBenchModel", "setLetters", "(I)I"⟩ prog_9_method_83_code zc_229 _ rfl rfl rfl rfl
  (z_bulk0 (own := "LyndonBenchModel") (TB := zTB_6) (zTBk_6 xs) rfl zdd_229 (by decide +kernel))
  (z_fn)
theorem zdd_230 : ∀ q ∈ zc_230, decode prog_9_method_84_code q.1 = Except.ok (q.2.1, q.2.2.1) := zdw (by decide +kernel)
theorem zk_230 (xs : List Int32) : z_okm (za_T xs) za_P za_M 230 := z_okm_of ⟨"LyndonBenchModel", "readText", "()I"⟩ prog_9_method_84_code zc_230 _ rfl rfl rfl rfl
  (z_bulk0 (own := "LyndonBenchModel") (TB := zTB_6) (zTBk_6 xs) rfl zdd_230 (by decide +kernel))
  (z_fn)
theorem zdd_231 : ∀ q ∈ zc_231, decode prog_9_method_85_code q.1 = Except.ok (q.2.1, q.2.2.1) := zdw (by decide +kernel)
theorem zk_231 (xs : List Int32) : z_okm (za_T xs) za_P za_M 231 := z_okm_of ⟨"LyndonBenchModel", "appendLetter", "(I)I"⟩ prog_9_method_85_code zc_231 _ rfl rfl rfl rfl
  (z_bulk0 (own := "LyndonBenchModel") (TB := zTB_6) (zTBk_6 xs) rfl zdd_231 (by decide +kernel))
  (z_fn)
theorem zdd_232 : ∀ q ∈ zc_232, decode prog_9_method_86_code q.1 = Except.ok (q.2.1, q.2.2.1) := zdw (by decide +kernel)
theorem zk_232 (xs : List Int32) : z_okm (za_T xs) za_P za_M 232 := z_okm_of ⟨"LyndonBenchModel", "dropLast", "(I)I"⟩ prog_9_method_86_code zc_232 _ rfl rfl rfl rfl
  (z_bulk0 (own := "LyndonBenchModel") (TB := zTB_6) (zTBk_6 xs) rfl zdd_232 (by decide +kernel))
  (z_fn)
theorem zdd_233 : ∀ q ∈ zc_233, decode prog_9_method_87_code q.1 = Except.ok (q.2.1, q.2.2.1) := zdw (by decide +kernel)
theorem zk_233 (xs : List Int32) : z_okm (za_T xs) za_P za_M 233 := z_okm_of ⟨"LyndonBenchModel", "cutPart", "(II)I"⟩ prog_9_method_87_code zc_233 _ rfl rfl rfl rfl
  (z_bulk0 (own := "LyndonBenchModel") (TB := zTB_6) (zTBk_6 xs) rfl zdd_233 (by decide +kernel))
  (z_fn)
theorem zdd_234 : ∀ q ∈ zc_234, decode prog_9_method_88_code q.1 = Except.ok (q.2.1, q.2.2.1) := zdw (by decide +kernel)
theorem zk_234 (xs : List Int32) : z_okm (za_T xs) za_P za_M 234 := z_okm_of ⟨"LyndonBenchModel", "rotate", "(I)I"⟩ prog_9_method_88_code zc_234 _ rfl rfl rfl rfl
  (z_bulk0 (own := "LyndonBenchModel") (TB := zTB_6) (zTBk_6 xs) rfl zdd_234 (by decide +kernel))
  (z_fn)
theorem zdd_235 : ∀ q ∈ zc_235, decode prog_9_method_89_code q.1 = Except.ok (q.2.1, q.2.2.1) := zdw (by decide +kernel)
theorem zk_235 (xs : List Int32) : z_okm (za_T xs) za_P za_M 235 := z_okm_of ⟨"LyndonBenchModel", "reverse", "()I"⟩ prog_9_method_89_code zc_235 _ rfl rfl rfl rfl
  (z_bulk0 (own := "LyndonBenchModel") (TB := zTB_6) (zTBk_6 xs) rfl zdd_235 (by decide +kernel))
  (z_fn)
theorem zdd_236 : ∀ q ∈ zc_236, decode prog_9_method_90_code q.1 = Except.ok (q.2.1, q.2.2.1) := zdw (by decide +kernel)
theorem zk_236 (xs : List Int32) : z_okm (za_T xs) za_P za_M 236 := z_okm_of ⟨"LyndonBenchModel", "rotateToLeast", "()I"⟩ prog_9_method_90_code zc_236 _ rfl rfl rfl rfl
  (z_bulk0 (own := "LyndonBenchModel") (TB := zTB_6) (zTBk_6 xs) rfl zdd_236 (by decide +kernel))
  (z_fn)
theorem zdd_237 : ∀ q ∈ zc_237, decode prog_9_method_91_code q.1 = Except.ok (q.2.1, q.2.2.1) := zdw (by decide +kernel)
theorem zk_237 (xs : List Int32) : z_okm (za_T xs) za_P za_M 237 := z_okm_of ⟨"LyndonBenchModel", "nextLyndon", "(I)I"⟩ prog_9_method_91_code zc_237 _ rfl rfl rfl rfl
  (z_bulk0 (own := "LyndonBenchModel") (TB := zTB_6) (zTBk_6 xs) rfl zdd_237 (by decide +kernel))
  (z_fn)
theorem zdd_238 : ∀ q ∈ zc_238, decode prog_9_method_92_code q.1 = Except.ok (q.2.1, q.2.2.1) := zdw (by decide +kernel)
theorem zk_238 (xs : List Int32) : z_okm (za_T xs) za_P za_M 238 := z_okm_of ⟨"LyndonBenchModel", "keepFactor", "(I)I"⟩ prog_9_method_92_code zc_238 _ rfl rfl rfl rfl
  (z_bulk0 (own := "LyndonBenchModel") (TB := zTB_6) (zTBk_6 xs) rfl zdd_238 (by decide +kernel))
  (z_fn)
theorem zdd_239 : ∀ q ∈ zc_239, decode prog_9_method_93_code q.1 = Except.ok (q.2.1, q.2.2.1) := zdw (by decide +kernel)
theorem zk_239 (xs : List Int32) : z_okm (za_T xs) za_P za_M 239 := z_okm_of ⟨"LyndonBenchModel", "keepText", "()I"⟩ prog_9_method_93_code zc_239 _ rfl rfl rfl rfl
  (z_bulk0 (own := "LyndonBenchModel") (TB := zTB_6) (zTBk_6 xs) rfl zdd_239 (by decide +kernel))
  (z_fn)
theorem zdd_240 : ∀ q ∈ zc_240, decode prog_9_method_94_code q.1 = Except.ok (q.2.1, q.2.2.1) := zdw (by decide +kernel)
theorem zk_240 (xs : List Int32) : z_okm (za_T xs) za_P za_M 240 := z_okm_of ⟨"LyndonBenchModel", "removeKept", "(I)I"⟩ prog_9_method_94_code zc_240 _ rfl rfl rfl rfl
  (z_bulk0 (own := "LyndonBenchModel") (TB := zTB_6) (zTBk_6 xs) rfl zdd_240 (by decide +kernel))
  (z_fn)
theorem zdd_241 : ∀ q ∈ zc_241, decode prog_9_method_95_code q.1 = Except.ok (q.2.1, q.2.2.1) := zdw (by decide +kernel)
theorem zk_241 (xs : List Int32) : z_okm (za_T xs) za_P za_M 241 := z_okm_of ⟨"LyndonBenchModel", "joinKept", "()I"⟩ prog_9_method_95_code zc_241 _ rfl rfl rfl rfl
  (z_bulk0 (own := "LyndonBenchModel") (TB := zTB_6) (zTBk_6 xs) rfl zdd_241 (by decide +kernel))
  (z_fn)
theorem zdd_242 : ∀ q ∈ zc_242, decode prog_9_method_96_code q.1 = Except.ok (q.2.1, q.2.2.1) := zdw (by decide +kernel)
theorem zk_242 (xs : List Int32) : z_okm (za_T xs) za_P za_M 242 := z_okm_of ⟨"LyndonBenchModel", "undo", "()I"⟩ prog_9_method_96_code zc_242 _ rfl rfl rfl rfl
  (z_bulk0 (own := "LyndonBenchModel") (TB := zTB_6) (zTBk_6 xs) rfl zdd_242 (by decide +kernel))
  (z_fn)
theorem zdd_243 : ∀ q ∈ zc_243, decode prog_9_method_97_code q.1 = Except.ok (q.2.1, q.2.2.1) := zdw (by decide +kernel)
theorem zk_243 (xs : List Int32) : z_okm (za_T xs) za_P za_M 243 := z_okm_of ⟨"LyndonBenchModel", "undoCount", "()I"⟩ prog_9_method_97_code zc_243 _ rfl rfl rfl rfl
  (z_bulk0 (own := "LyndonBenchModel") (TB := zTB_6) (zTBk_6 xs) rfl zdd_243 (by decide +kernel))
  (z_fn)
theorem zdd_244 : ∀ q ∈ zc_244, decode prog_9_method_98_code q.1 = Except.ok (q.2.1, q.2.2.1) := zdw (by decide +kernel)
theorem zk_244 (xs : List Int32) : z_okm (za_T xs) za_P za_M 244 := z_okm_of ⟨"LyndonBenchModel", "saveSnapshot", "()I"⟩ prog_9_method_98_code zc_244 _ rfl rfl rfl rfl
  (z_bulk0 (own := "LyndonBenchModel") (TB := zTB_6) (zTBk_6 xs) rfl zdd_244 (by decide +kernel))
  (z_fn)
theorem zdd_245 : ∀ q ∈ zc_245, decode prog_9_method_99_code q.1 = Except.ok (q.2.1, q.2.2.1) := zdw (by decide +kernel)
theorem zk_245 (xs : List Int32) : z_okm (za_T xs) za_P za_M 245 := z_okm_of ⟨"LyndonBenchModel", "restoreSnapshot", "()I"⟩ prog_9_method_99_code zc_245 _ rfl rfl rfl rfl
  (z_bulk0 (own := "LyndonBenchModel") (TB := zTB_6) (zTBk_6 xs) rfl zdd_245 (by decide +kernel))
  (z_fn)
theorem zdd_246 : ∀ q ∈ zc_246, decode prog_9_method_100_code q.1 = Except.ok (q.2.1, q.2.2.1) := zdw (by decide +kernel)
theorem zk_246 (xs : List Int32) : z_okm (za_T xs) za_P za_M 246 := z_okm_of ⟨"LyndonBenchModel", "scriptErrorKind", "()I"⟩ prog_9_method_100_code zc_246 _ rfl rfl rfl rfl
  (z_bulk0 (own := "LyndonBenchModel") (TB := zTB_6) (zTBk_6 xs) rfl zdd_246 (by decide +kernel))
  (z_fn)
theorem zdd_247 : ∀ q ∈ zc_247, decode prog_9_method_101_code q.1 = Except.ok (q.2.1, q.2.2.1) := zdw (by decide +kernel)
theorem zk_247 (xs : List Int32) : z_okm (za_T xs) za_P za_M 247 := z_okm_of ⟨"LyndonBenchModel", "scriptErrorOffset", "()I"⟩ prog_9_method_101_code zc_247 _ rfl rfl rfl rfl
  (z_bulk0 (own := "LyndonBenchModel") (TB := zTB_6) (zTBk_6 xs) rfl zdd_247 (by decide +kernel))
  (z_fn)
theorem zdd_248 : ∀ q ∈ zc_248, decode prog_9_method_102_code q.1 = Except.ok (q.2.1, q.2.2.1) := zdw (by decide +kernel)
theorem zk_248 (xs : List Int32) : z_okm (za_T xs) za_P za_M 248 := z_okm_of ⟨"LyndonBenchModel", "told", "(I)I"⟩ prog_9_method_102_code zc_248 _ rfl rfl rfl rfl
  (z_bulk0 (own := "LyndonBenchModel") (TB := zTB_6) (zTBk_6 xs) rfl zdd_248 (by decide +kernel))
  (z_fn)
theorem zdd_249 : ∀ q ∈ zc_249, decode prog_9_method_103_code q.1 = Except.ok (q.2.1, q.2.2.1) := zdw (by decide +kernel)
theorem zk_249 (xs : List Int32) : z_okm (za_T xs) za_P za_M 249 := z_okm_of ⟨"LyndonBenchModel", "letters", "()I"⟩ prog_9_method_103_code zc_249 _ rfl rfl rfl rfl
  (z_bulk0 (own := "LyndonBenchModel") (TB := zTB_6) (zTBk_6 xs) rfl zdd_249 (by decide +kernel))
  (z_fn)
theorem zdd_250 : ∀ q ∈ zc_250, decode prog_9_method_104_code q.1 = Except.ok (q.2.1, q.2.2.1) := zdw (by decide +kernel)
theorem zk_250 (xs : List Int32) : z_okm (za_T xs) za_P za_M 250 := z_okm_of ⟨"LyndonBenchModel", "length", "()I"⟩ prog_9_method_104_code zc_250 _ rfl rfl rfl rfl
  (z_bulk0 (own := "LyndonBenchModel") (TB := zTB_6) (zTBk_6 xs) rfl zdd_250 (by decide +kernel))
  (z_fn)
theorem zdd_251 : ∀ q ∈ zc_251, decode prog_9_method_105_code q.1 = Except.ok (q.2.1, q.2.2.1) := zdw (by decide +kernel)
theorem zk_251 (xs : List Int32) : z_okm (za_T xs) za_P za_M 251 := z_okm_of ⟨"LyndonBenchModel", "letterAt", "(I)I"⟩ prog_9_method_105_code zc_251 _ rfl rfl rfl rfl
  (z_bulk0 (own := "LyndonBenchModel") (TB := zTB_6) (zTBk_6 xs) rfl zdd_251 (by decide +kernel))
  (z_fn)
theorem zdd_252 : ∀ q ∈ zc_252, decode prog_9_method_106_code q.1 = Except.ok (q.2.1, q.2.2.1) := zdw (by decide +kernel)
theorem zk_252 (xs : List Int32) : z_okm (za_T xs) za_P za_M 252 := z_okm_of ⟨"LyndonBenchModel", "isPart", "(II)Z"⟩ prog_9_method_106_code zc_252 _ rfl rfl rfl rfl
  (z_bulk0 (own := "LyndonBenchModel") (TB := zTB_6) (zTBk_6 xs) rfl zdd_252 (by decide +kernel))
  (z_fn)
theorem zdd_253 : ∀ q ∈ zc_253, decode prog_9_method_107_code q.1 = Except.ok (q.2.1, q.2.2.1) := zdw (by decide +kernel)
theorem zk_253 (xs : List Int32) : z_okm (za_T xs) za_P za_M 253 := z_okm_of ⟨"LyndonBenchModel", "compareParts", "(IIII)I"⟩ prog_9_method_107_code zc_253 _ rfl rfl rfl rfl
  (z_bulk0 (own := "LyndonBenchModel") (TB := zTB_6) (zTBk_6 xs) rfl zdd_253 (by decide +kernel))
  (z_fn)
theorem zdd_254 : ∀ q ∈ zc_254, decode prog_9_method_108_code q.1 = Except.ok (q.2.1, q.2.2.1) := zdw (by decide +kernel)
theorem zk_254 (xs : List Int32) : z_okm (za_T xs) za_P za_M 254 := z_okm_of ⟨"LyndonBenchModel", "factorCount", "()I"⟩ prog_9_method_108_code zc_254 _ rfl rfl rfl rfl
  (z_bulk0 (own := "LyndonBenchModel") (TB := zTB_6) (zTBk_6 xs) rfl zdd_254 (by decide +kernel))
  (z_fn)
theorem zdd_255 : ∀ q ∈ zc_255, decode prog_9_method_109_code q.1 = Except.ok (q.2.1, q.2.2.1) := zdw (by decide +kernel)
theorem zk_255 (xs : List Int32) : z_okm (za_T xs) za_P za_M 255 := z_okm_of ⟨"LyndonBenchModel", "throwsFactor", "(I)Z"⟩ prog_9_method_109_code zc_255 _ rfl rfl rfl rfl
  (z_bulk0 (own := "LyndonBenchModel") (TB := zTB_6) (zTBk_6 xs) rfl zdd_255 (by decide +kernel))
  (z_fn)
theorem zdd_256 : ∀ q ∈ zc_256, decode prog_9_method_110_code q.1 = Except.ok (q.2.1, q.2.2.1) := zdw (by decide +kernel)
theorem zk_256 (xs : List Int32) : z_okm (za_T xs) za_P za_M 256 := z_okm_of ⟨"LyndonBenchModel", "factorStart", "(I)I"⟩ prog_9_method_110_code zc_256 _ rfl rfl rfl rfl
  (z_bulk0 (own := "LyndonBenchModel") (TB := zTB_6) (zTBk_6 xs) rfl zdd_256 (by decide +kernel))
  (z_fn)
theorem zdd_257 : ∀ q ∈ zc_257, decode prog_9_method_111_code q.1 = Except.ok (q.2.1, q.2.2.1) := zdw (by decide +kernel)
theorem zk_257 (xs : List Int32) : z_okm (za_T xs) za_P za_M 257 := z_okm_of ⟨"LyndonBenchModel", "factorLength", "(I)I"⟩ prog_9_method_111_code zc_257 _ rfl rfl rfl rfl
  (z_bulk0 (own := "LyndonBenchModel") (TB := zTB_6) (zTBk_6 xs) rfl zdd_257 (by decide +kernel))
  (z_fn)
theorem zdd_258 : ∀ q ∈ zc_258, decode prog_9_method_112_code q.1 = Except.ok (q.2.1, q.2.2.1) := zdw (by decide +kernel)
theorem zk_258 (xs : List Int32) : z_okm (za_T xs) za_P za_M 258 := z_okm_of ⟨"LyndonBenchModel", "areAlike", "(II)Z"⟩ prog_9_method_112_code zc_258 _ rfl rfl rfl rfl
  (z_bulk0 (own := "LyndonBenchModel") (TB := zTB_6) (zTBk_6 xs) rfl zdd_258 (by decide +kernel))
  (z_fn)
theorem zdd_259 : ∀ q ∈ zc_259, decode prog_9_method_113_code q.1 = Except.ok (q.2.1, q.2.2.1) := zdw (by decide +kernel)
theorem zk_259 (xs : List Int32) : z_okm (za_T xs) za_P za_M 259 := z_okm_of ⟨"LyndonBenchModel", "powerOf", "(II)I"⟩ prog_9_method_113_code zc_259 _ rfl rfl rfl rfl
  (z_bulk0 (own := "LyndonBenchModel") (TB := zTB_6) (zTBk_6 xs) rfl zdd_259 (by decide +kernel))
  (z_fn)
theorem zdd_260 : ∀ q ∈ zc_260, decode prog_9_method_114_code q.1 = Except.ok (q.2.1, q.2.2.1) := zdw (by decide +kernel)
theorem zk_260 (xs : List Int32) : z_okm (za_T xs) za_P za_M 260 := z_okm_of ⟨"LyndonBenchModel", "factorPower", "(I)I"⟩ prog_9_method_114_code zc_260 _ rfl rfl rfl rfl
  (z_bulk0 (own := "LyndonBenchModel") (TB := zTB_6) (zTBk_6 xs) rfl zdd_260 (by decide +kernel))
  (z_fn)
theorem zdd_261 : ∀ q ∈ zc_261, decode prog_9_method_115_code q.1 = Except.ok (q.2.1, q.2.2.1) := zdw (by decide +kernel)
theorem zk_261 (xs : List Int32) : z_okm (za_T xs) za_P za_M 261 := z_okm_of ⟨"LyndonBenchModel", "factorOf", "(I)I"⟩ prog_9_method_115_code zc_261 _ rfl rfl rfl rfl
  (z_bulk0 (own := "LyndonBenchModel") (TB := zTB_6) (zTBk_6 xs) rfl zdd_261 (by decide +kernel))
  (z_fn)
theorem zdd_262 : ∀ q ∈ zc_262, decode prog_9_method_116_code q.1 = Except.ok (q.2.1, q.2.2.1) := zdw (by decide +kernel)
theorem zk_262 (xs : List Int32) : z_okm (za_T xs) za_P za_M 262 := z_okm_of ⟨"LyndonBenchModel", "longestFactor", "()I"⟩ prog_9_method_116_code zc_262 _ rfl rfl rfl rfl
  (z_bulk0 (own := "LyndonBenchModel") (TB := zTB_6) (zTBk_6 xs) rfl zdd_262 (by decide +kernel))
  (z_fn)
theorem zdd_263 : ∀ q ∈ zc_263, decode prog_9_method_117_code q.1 = Except.ok (q.2.1, q.2.2.1) := zdw (by decide +kernel)
theorem zk_263 (xs : List Int32) : z_okm (za_T xs) za_P za_M 263 := z_okm_of ⟨"LyndonBenchModel", "factorsIfAppended", "(I)I"⟩ prog_9_method_117_code zc_263 _ rfl rfl rfl rfl
  (z_bulk0 (own := "LyndonBenchModel") (TB := zTB_6) (zTBk_6 xs) rfl zdd_263 (by decide +kernel))
  (z_fn)
theorem zdd_264 : ∀ q ∈ zc_264, decode prog_9_method_118_code q.1 = Except.ok (q.2.1, q.2.2.1) := zdw (by decide +kernel)
theorem zk_264 (xs : List Int32) : z_okm (za_T xs) za_P za_M 264 := z_okm_of ⟨"LyndonBenchModel", "factorsIfRotated", "(I)I"⟩ prog_9_method_118_code zc_264 _ rfl rfl rfl rfl
  (z_bulk0 (own := "LyndonBenchModel") (TB := zTB_6) (zTBk_6 xs) rfl zdd_264 (by decide +kernel))
  (z_fn)
theorem zdd_265 : ∀ q ∈ zc_265, decode prog_9_method_119_code q.1 = Except.ok (q.2.1, q.2.2.1) := zdw (by decide +kernel)
theorem zk_265 (xs : List Int32) : z_okm (za_T xs) za_P za_M 265 := z_okm_of ⟨"LyndonBenchModel", "numberOf", "(II)I"⟩ prog_9_method_119_code zc_265 _ rfl rfl rfl rfl
  (z_bulk0 (own := "LyndonBenchModel") (TB := zTB_6) (zTBk_6 xs) rfl zdd_265 (by decide +kernel))
  (z_fn)
theorem zdd_266 : ∀ q ∈ zc_266, decode prog_9_method_120_code q.1 = Except.ok (q.2.1, q.2.2.1) := zdw (by decide +kernel)
theorem zk_266 (xs : List Int32) : z_okm (za_T xs) za_P za_M 266 := z_okm_of ⟨"LyndonBenchModel", "rankOf", "(I)I"⟩ prog_9_method_120_code zc_266 _ rfl rfl rfl rfl
  (z_bulk0 (own := "LyndonBenchModel") (TB := zTB_6) (zTBk_6 xs) rfl zdd_266 (by decide +kernel))
  (z_fn)
theorem zdd_267 : ∀ q ∈ zc_267, decode prog_9_method_121_code q.1 = Except.ok (q.2.1, q.2.2.1) := zdw (by decide +kernel)
theorem zk_267 (xs : List Int32) : z_okm (za_T xs) za_P za_M 267 := z_okm_of ⟨"LyndonBenchModel", "isLyndon", "()Z"⟩ prog_9_method_121_code zc_267 _ rfl rfl rfl rfl
  (z_bulk0 (own := "LyndonBenchModel") (TB := zTB_6) (zTBk_6 xs) rfl zdd_267 (by decide +kernel))
  (z_fn)
theorem zdd_268 : ∀ q ∈ zc_268, decode prog_9_method_122_code q.1 = Except.ok (q.2.1, q.2.2.1) := zdw (by decide +kernel)
theorem zk_268 (xs : List Int32) : z_okm (za_T xs) za_P za_M 268 := z_okm_of ⟨"LyndonBenchModel", "whyNotLyndon", "()I"⟩ prog_9_method_122_code zc_268 _ rfl rfl rfl rfl
  (z_bulk0 (own := "LyndonBenchModel") (TB := zTB_6) (zTBk_6 xs) rfl zdd_268 (by decide +kernel))
  (z_fn)
theorem zdd_269 : ∀ q ∈ zc_269, decode prog_9_method_123_code q.1 = Except.ok (q.2.1, q.2.2.1) := zdw (by decide +kernel)
theorem zk_269 (xs : List Int32) : z_okm (za_T xs) za_P za_M 269 := z_okm_of ⟨"LyndonBenchModel", "isNecklace", "()Z"⟩ prog_9_method_123_code zc_269 _ rfl rfl rfl rfl
  (z_bulk0 (own := "LyndonBenchModel") (TB := zTB_6) (zTBk_6 xs) rfl zdd_269 (by decide +kernel))
  (z_fn)
theorem zdd_270 : ∀ q ∈ zc_270, decode prog_9_method_124_code q.1 = Except.ok (q.2.1, q.2.2.1) := zdw (by decide +kernel)
theorem zk_270 (xs : List Int32) : z_okm (za_T xs) za_P za_M 270 := z_okm_of ⟨"LyndonBenchModel", "isPrenecklace", "()Z"⟩ prog_9_method_124_code zc_270 _ rfl rfl rfl rfl
  (z_bulk0 (own := "LyndonBenchModel") (TB := zTB_6) (zTBk_6 xs) rfl zdd_270 (by decide +kernel))
  (z_fn)
theorem zdd_271 : ∀ q ∈ zc_271, decode prog_9_method_125_code q.1 = Except.ok (q.2.1, q.2.2.1) := zdw (by decide +kernel)
theorem zk_271 (xs : List Int32) : z_okm (za_T xs) za_P za_M 271 := z_okm_of ⟨"LyndonBenchModel", "keepingLetter", "()I"⟩ prog_9_method_125_code zc_271 _ rfl rfl rfl rfl
  (z_bulk0 (own := "LyndonBenchModel") (TB := zTB_6) (zTBk_6 xs) rfl zdd_271 (by decide +kernel))
  (z_fn)
theorem zdd_272 : ∀ q ∈ zc_272, decode prog_9_method_126_code q.1 = Except.ok (q.2.1, q.2.2.1) := zdw (by decide +kernel)
theorem zk_272 (xs : List Int32) : z_okm (za_T xs) za_P za_M 272 := z_okm_of ⟨"LyndonBenchModel", "leastRotation", "()I"⟩ prog_9_method_126_code zc_272 _ rfl rfl rfl rfl
  (z_bulk0 (own := "LyndonBenchModel") (TB := zTB_6) (zTBk_6 xs) rfl zdd_272 (by decide +kernel))
  (z_fn)
theorem zdd_273 : ∀ q ∈ zc_273, decode prog_9_method_127_code q.1 = Except.ok (q.2.1, q.2.2.1) := zdw (by decide +kernel)
theorem zk_273 (xs : List Int32) : z_okm (za_T xs) za_P za_M 273 := z_okm_of ⟨"LyndonBenchModel", "rotationCount", "()I"⟩ prog_9_method_127_code zc_273 _ rfl rfl rfl rfl
  (z_bulk0 (own := "LyndonBenchModel") (TB := zTB_6) (zTBk_6 xs) rfl zdd_273 (by decide +kernel))
  (z_fn)
theorem zdd_274 : ∀ q ∈ zc_274, decode prog_9_method_128_code q.1 = Except.ok (q.2.1, q.2.2.1) := zdw (by decide +kernel)
theorem zk_274 (xs : List Int32) : z_okm (za_T xs) za_P za_M 274 := z_okm_of ⟨"LyndonBenchModel", "smallestPeriod", "()I"⟩ prog_9_method_128_code zc_274 _ rfl rfl rfl rfl
  (z_bulk0 (own := "LyndonBenchModel") (TB := zTB_6) (zTBk_6 xs) rfl zdd_274 (by decide +kernel))
  (z_fn)
theorem zdd_275 : ∀ q ∈ zc_275, decode prog_9_method_129_code q.1 = Except.ok (q.2.1, q.2.2.1) := zdw (by decide +kernel)
theorem zk_275 (xs : List Int32) : z_okm (za_T xs) za_P za_M 275 := z_okm_of ⟨"LyndonBenchModel", "longestBorder", "()I"⟩ prog_9_method_129_code zc_275 _ rfl rfl rfl rfl
  (z_bulk0 (own := "LyndonBenchModel") (TB := zTB_6) (zTBk_6 xs) rfl zdd_275 (by decide +kernel))
  (z_fn)
theorem zdd_276 : ∀ q ∈ zc_276, decode prog_9_method_130_code q.1 = Except.ok (q.2.1, q.2.2.1) := zdw (by decide +kernel)
theorem zk_276 (xs : List Int32) : z_okm (za_T xs) za_P za_M 276 := z_okm_of ⟨"LyndonBenchModel", "leastSuffix", "()I"⟩ prog_9_method_130_code zc_276 _ rfl rfl rfl rfl
  (z_bulk0 (own := "LyndonBenchModel") (TB := zTB_6) (zTBk_6 xs) rfl zdd_276 (by decide +kernel))
  (z_fn)
theorem zdd_277 : ∀ q ∈ zc_277, decode prog_9_method_131_code q.1 = Except.ok (q.2.1, q.2.2.1) := zdw (by decide +kernel)
theorem zk_277 (xs : List Int32) : z_okm (za_T xs) za_P za_M 277 := z_okm_of ⟨"LyndonBenchModel", "greatestSuffix", "()I"⟩ prog_9_method_131_code zc_277 _ rfl rfl rfl rfl
  (z_bulk0 (own := "LyndonBenchModel") (TB := zTB_6) (zTBk_6 xs) rfl zdd_277 (by decide +kernel))
  (z_fn)
theorem zdd_278 : ∀ q ∈ zc_278, decode prog_9_method_132_code q.1 = Except.ok (q.2.1, q.2.2.1) := zdw (by decide +kernel)
theorem zk_278 (xs : List Int32) : z_okm (za_T xs) za_P za_M 278 := z_okm_of ⟨"LyndonBenchModel", "lyndonWords", "(I)J"⟩ prog_9_method_132_code zc_278 _ rfl rfl rfl rfl
  (z_bulk0 (own := "LyndonBenchModel") (TB := zTB_6) (zTBk_6 xs) rfl zdd_278 (by decide +kernel))
  (z_fn)
theorem zdd_279 : ∀ q ∈ zc_279, decode prog_9_method_133_code q.1 = Except.ok (q.2.1, q.2.2.1) := zdw (by decide +kernel)
theorem zk_279 (xs : List Int32) : z_okm (za_T xs) za_P za_M 279 := z_okm_of ⟨"LyndonBenchModel", "necklaces", "(I)J"⟩ prog_9_method_133_code zc_279 _ rfl rfl rfl rfl
  (z_bulk0 (own := "LyndonBenchModel") (TB := zTB_6) (zTBk_6 xs) rfl zdd_279 (by decide +kernel))
  (z_fn)
theorem zdd_280 : ∀ q ∈ zc_280, decode prog_9_method_134_code q.1 = Except.ok (q.2.1, q.2.2.1) := zdw (by decide +kernel)
theorem zk_280 (xs : List Int32) : z_okm (za_T xs) za_P za_M 280 := z_okm_of ⟨"LyndonBenchModel", "bruijnLetter", "(II)I"⟩ prog_9_method_134_code zc_280 _ rfl rfl rfl rfl
  (z_bulk0 (own := "LyndonBenchModel") (TB := zTB_6) (zTBk_6 xs) rfl zdd_280 (by decide +kernel))
  (z_fn)
theorem zdd_281 : ∀ q ∈ zc_281, decode prog_9_method_135_code q.1 = Except.ok (q.2.1, q.2.2.1) := zdw (by decide +kernel)
theorem zk_281 (xs : List Int32) : z_okm (za_T xs) za_P za_M 281 := z_okm_of ⟨"LyndonBenchModel", "keptCount", "()I"⟩ prog_9_method_135_code zc_281 _ rfl rfl rfl rfl
  (z_bulk0 (own := "LyndonBenchModel") (TB := zTB_6) (zTBk_6 xs) rfl zdd_281 (by decide +kernel))
  (z_fn)
theorem zdd_282 : ∀ q ∈ zc_282, decode prog_9_method_136_code q.1 = Except.ok (q.2.1, q.2.2.1) := zdw (by decide +kernel)
theorem zk_282 (xs : List Int32) : z_okm (za_T xs) za_P za_M 282 := z_okm_of ⟨"LyndonBenchModel", "keptLength", "(I)I"⟩ prog_9_method_136_code zc_282 _ rfl rfl rfl rfl
  (z_bulk0 (own := "LyndonBenchModel") (TB := zTB_6) (zTBk_6 xs) rfl zdd_282 (by decide +kernel))
  (z_fn)
theorem zdd_283 : ∀ q ∈ zc_283, decode prog_9_method_137_code q.1 = Except.ok (q.2.1, q.2.2.1) := zdw (by decide +kernel)
theorem zk_283 (xs : List Int32) : z_okm (za_T xs) za_P za_M 283 := z_okm_of ⟨"LyndonBenchModel", "keptLetter", "(II)I"⟩ prog_9_method_137_code zc_283 _ rfl rfl rfl rfl
  (z_bulk0 (own := "LyndonBenchModel") (TB := zTB_6) (zTBk_6 xs) rfl zdd_283 (by decide +kernel))
  (z_fn)
theorem zdd_284 : ∀ q ∈ zc_284, decode prog_9_method_138_code q.1 = Except.ok (q.2.1, q.2.2.1) := zdw (by decide +kernel)
theorem zk_284 (xs : List Int32) : z_okm (za_T xs) za_P za_M 284 := z_okm_of ⟨"LyndonBenchModel", "isShelfFalling", "()Z"⟩ prog_9_method_138_code zc_284 _ rfl rfl rfl rfl
  (z_bulk0 (own := "LyndonBenchModel") (TB := zTB_6) (zTBk_6 xs) rfl zdd_284 (by decide +kernel))
  (z_fn)
theorem zdd_285 : ∀ q ∈ zc_285, decode prog_9_method_139_code q.1 = Except.ok (q.2.1, q.2.2.1) := zdw (by decide +kernel)
theorem zk_285 (xs : List Int32) : z_okm (za_T xs) za_P za_M 285 := z_okm_of ⟨"LyndonBenchModel", "greatestKept", "()I"⟩ prog_9_method_139_code zc_285 _ rfl rfl rfl rfl
  (z_bulk0 (own := "LyndonBenchModel") (TB := zTB_6) (zTBk_6 xs) rfl zdd_285 (by decide +kernel))
  (z_fn)
theorem zdd_286 : ∀ q ∈ zc_286, decode prog_9_method_140_code q.1 = Except.ok (q.2.1, q.2.2.1) := zdw (by decide +kernel)
theorem zk_286 (xs : List Int32) : z_okm (za_T xs) za_P za_M 286 := z_okm_of ⟨"LyndonBenchModel", "meanFactor", "()D"⟩ prog_9_method_140_code zc_286 _ rfl rfl rfl rfl
  (z_bulk0 (own := "LyndonBenchModel") (TB := zTB_6) (zTBk_6 xs) rfl zdd_286 (by decide +kernel))
  (z_fn)
theorem zdd_287 : ∀ q ∈ zc_287, decode prog_9_method_141_code q.1 = Except.ok (q.2.1, q.2.2.1) := zdw (by decide +kernel)
theorem zk_287 (xs : List Int32) : z_okm (za_T xs) za_P za_M 287 := z_okm_of ⟨"LyndonBenchModel", "lyndonShare", "()F"⟩ prog_9_method_141_code zc_287 _ rfl rfl rfl rfl
  (z_bulk0 (own := "LyndonBenchModel") (TB := zTB_6) (zTBk_6 xs) rfl zdd_287 (by decide +kernel))
  (z_fn)
theorem zdd_288 : ∀ q ∈ zc_288, decode prog_9_method_142_code q.1 = Except.ok (q.2.1, q.2.2.1) := zdw (by decide +kernel)
theorem zk_288 (xs : List Int32) : z_okm (za_T xs) za_P za_M 288 := z_okm_of ⟨"LyndonBenchModel", "violations", "()I"⟩ prog_9_method_142_code zc_288 _ rfl rfl rfl rfl
  (z_bulk0 (own := "LyndonBenchModel") (TB := zTB_6) (zTBk_6 xs) rfl zdd_288 (by decide +kernel))
  (z_fn)
theorem zdd_289 : ∀ q ∈ zc_289, decode prog_9_method_143_code q.1 = Except.ok (q.2.1, q.2.2.1) := zdw (by decide +kernel)
theorem zk_289 (xs : List Int32) : z_okm (za_T xs) za_P za_M 289 := z_okm_of ⟨"LyndonBenchModel", "write", "(I)V"⟩ prog_9_method_143_code zc_289 _ rfl rfl rfl rfl
  (z_bulk0 (own := "LyndonBenchModel") (TB := zTB_6) (zTBk_6 xs) rfl zdd_289 (by decide +kernel))
  (z_fn)
theorem zdd_290 : ∀ q ∈ zc_290, decode prog_9_method_144_code q.1 = Except.ok (q.2.1, q.2.2.1) := zdw (by decide +kernel)
theorem zk_290 (xs : List Int32) : z_okm (za_T xs) za_P za_M 290 := z_okm_of ⟨"LyndonBenchModel", "writeNumber", "(I)V"⟩ prog_9_method_144_code zc_290 _ rfl rfl rfl rfl
  (z_bulk0 (own := "LyndonBenchModel") (TB := zTB_6) (zTBk_6 xs) rfl zdd_290 (by decide +kernel))
  (z_fn)
theorem zdd_291 : ∀ q ∈ zc_291, decode prog_9_method_145_code q.1 = Except.ok (q.2.1, q.2.2.1) := zdw (by decide +kernel)
theorem zk_291 (xs : List Int32) : z_okm (za_T xs) za_P za_M 291 := z_okm_of ⟨"LyndonBenchModel", "writeFactor", "(II)V"⟩ prog_9_method_145_code zc_291 _ rfl rfl rfl rfl
  (z_bulk0 (own := "LyndonBenchModel") (TB := zTB_6) (zTBk_6 xs) rfl zdd_291 (by decide +kernel))
  (z_fn)
theorem zdd_292 : ∀ q ∈ zc_292, decode prog_9_method_146_code q.1 = Except.ok (q.2.1, q.2.2.1) := zdw (by decide +kernel)
theorem zk_292 (xs : List Int32) : z_okm (za_T xs) za_P za_M 292 := z_okm_of ⟨"LyndonBenchModel", "writeFactors", "()I"⟩ prog_9_method_146_code zc_292 _ rfl rfl rfl rfl
  (z_bulk0 (own := "LyndonBenchModel") (TB := zTB_6) (zTBk_6 xs) rfl zdd_292 (by decide +kernel))
  (z_fn)
theorem zdd_293 : ∀ q ∈ zc_293, decode prog_9_method_147_code q.1 = Except.ok (q.2.1, q.2.2.1) := zdw (by decide +kernel)
theorem zk_293 (xs : List Int32) : z_okm (za_T xs) za_P za_M 293 := z_okm_of ⟨"LyndonBenchModel", "reportByte", "(I)I"⟩ prog_9_method_147_code zc_293 _ rfl rfl rfl rfl
  (z_bulk0 (own := "LyndonBenchModel") (TB := zTB_6) (zTBk_6 xs) rfl zdd_293 (by decide +kernel))
  (z_fn)
theorem zdd_294 : ∀ q ∈ zc_294, decode prog_13_method_2_code q.1 = Except.ok (q.2.1, q.2.2.1) := zdw (by decide +kernel)
theorem zk_294 (xs : List Int32) : z_okm (za_T xs) za_P za_M 294 := z_okm_of ⟨"java/lang/Enum", "ordinal", "()I"⟩ prog_13_method_2_code zc_294 _ rfl rfl rfl rfl
  (z_bulk0 (own := "java/lang/Enum") (TB := zTB_7) (zTBk_7 xs) rfl zdd_294 (by decide +kernel))
  (z_fn)
theorem zdd_295 : ∀ q ∈ zc_295, decode prog_20_method_54_code q.1 = Except.ok (q.2.1, q.2.2.1) := zdw (by decide +kernel)
theorem zk_295 (xs : List Int32) : z_okm (za_T xs) za_P za_M 295 := z_okm_of ⟨"java/lang/String", "length", "()I"⟩ prog_20_method_54_code zc_295 _ rfl rfl rfl rfl
  (z_bulk0 (own := "java/lang/String") (TB := zTB_8) (zTBk_8 xs) rfl zdd_295 (by decide +kernel))
  (z_fn)
theorem zdd_296 : ∀ q ∈ zc_296, decode prog_20_method_56_code q.1 = Except.ok (q.2.1, q.2.2.1) := zdw (by decide +kernel)
theorem zk_296 (xs : List Int32) : z_okm (za_T xs) za_P za_M 296 := z_okm_of ⟨"java/lang/String", "charAt", "(I)C"⟩ prog_20_method_56_code zc_296 _ rfl rfl rfl rfl
  (z_bulk0 (own := "java/lang/String") (TB := zTB_8) (zTBk_8 xs) rfl zdd_296 (by decide +kernel))
  (z_fn)
theorem zdd_297 : ∀ q ∈ zc_297, decode prog_20_method_152_code q.1 = Except.ok (q.2.1, q.2.2.1) := zdw (by decide +kernel)
theorem zk_297 (xs : List Int32) : z_okm (za_T xs) za_P za_M 297 := z_okm_of ⟨"java/lang/String", "coder", "()B"⟩ prog_20_method_152_code zc_297 _ rfl rfl rfl rfl
  (z_bulk0 (own := "java/lang/String") (TB := zTB_8) (zTBk_8 xs) rfl zdd_297 (by decide +kernel))
  (z_fn)
theorem zdd_298 : ∀ q ∈ zc_298, decode prog_20_method_154_code q.1 = Except.ok (q.2.1, q.2.2.1) := zdw (by decide +kernel)
theorem zk_298 (xs : List Int32) : z_okm (za_T xs) za_P za_M 298 := z_okm_of ⟨"java/lang/String", "isLatin1", "()Z"⟩ prog_20_method_154_code zc_298 _ rfl rfl rfl rfl
  (z_bulk0 (own := "java/lang/String") (TB := zTB_8) (zTBk_8 xs) rfl zdd_298 (by decide +kernel))
  (z_fn)
theorem zdd_299 : ∀ q ∈ zc_299, decode prog_20_method_155_code q.1 = Except.ok (q.2.1, q.2.2.1) := zdw (by decide +kernel)
theorem zk_299 (xs : List Int32) : z_okm (za_T xs) za_P za_M 299 := z_okm_of ⟨"java/lang/String", "checkIndex", "(II)V"⟩ prog_20_method_155_code zc_299 _ rfl rfl rfl rfl
  (z_bulk0 (own := "java/lang/String") (TB := zTB_8) (zTBk_8 xs) rfl zdd_299 (by decide +kernel))
  (z_fn)
theorem zdd_300 : ∀ q ∈ zc_300, decode prog_21_method_2_code q.1 = Except.ok (q.2.1, q.2.2.1) := zdw (by decide +kernel)
theorem zk_300 (xs : List Int32) : z_okm (za_T xs) za_P za_M 300 := z_okm_of ⟨"java/lang/StringLatin1", "charAt", "([BI)C"⟩ prog_21_method_2_code zc_300 _ rfl rfl rfl rfl
  (z_bulk0 (own := "java/lang/StringLatin1") (TB := zTB_9) (zTBk_9 xs) rfl zdd_300 (by decide +kernel))
  (z_fn)
theorem zdd_301 : ∀ q ∈ zc_301, decode prog_27_method_11_code q.1 = Except.ok (q.2.1, q.2.2.1) := zdw (by decide +kernel)
theorem zk_301 (xs : List Int32) : z_okm (za_T xs) za_P za_M 301 := z_okm_of ⟨"jdk/internal/util/Preconditions", "checkIndex", "(IILjava/util/function/BiFunction;)I"⟩ prog_27_method_11_code zc_301 _ rfl rfl rfl rfl
  (z_bulk0 (own := "jdk/internal/util/Preconditions") (TB := []) z_fn rfl zdd_301 (by decide +kernel))
  (z_fn)
theorem zdd_302 : ∀ q ∈ zc_302, decode method_3_code q.1 = Except.ok (q.2.1, q.2.2.1) := zdw (by decide +kernel)
theorem zk_302 (xs : List Int32) : z_okm (za_T xs) za_P za_M 302 := z_okm_of ⟨"LyndonBenchLaw", "truncateInput", "(LLyndonBench;I[J)I"⟩ method_3_code zc_302 _ rfl rfl rfl rfl
  (z_bulk0 (own := "LyndonBenchLaw") (TB := zTB_10) (zTBk_10 xs) rfl zdd_302 (by decide +kernel))
  (z_fc (⟨by decide, zw_799, by decide +kernel, rfl, 1, Or.inl ⟨3, by decide +kernel, Nat.le_of_ble_eq_true rfl, rfl⟩, 1, by decide +kernel, rfl, by decide +kernel⟩) <|
  z_fn)
theorem zdd_303 : ∀ q ∈ zc_303, decode method_4_code q.1 = Except.ok (q.2.1, q.2.2.1) := zdw (by decide +kernel)
theorem zk_303 (xs : List Int32) : z_okm (za_T xs) za_P za_M 303 := z_okm_of ⟨"LyndonBenchLaw", "setLetters", "(LLyndonBench;I[J)I"⟩ method_4_code zc_303 _ rfl rfl rfl rfl
  (z_bulk0 (own := "LyndonBenchLaw") (TB := zTB_10) (zTBk_10 xs) rfl zdd_303 (by decide +kernel))
  (z_fc (⟨by decide, zw_799, by decide +kernel, rfl, 1, Or.inl ⟨3, by decide +kernel, Nat.le_of_ble_eq_true rfl, rfl⟩, 1, by decide +kernel, rfl, by decide +kernel⟩) <|
  z_fc (⟨by decide, zw_876, by decide +kernel, rfl, 1, Or.inl ⟨3, by decide +kernel, Nat.le_of_ble_eq_true rfl, rfl⟩, 2, by decide +kernel, rfl, by decide +kernel⟩) <|
  z_fn)
theorem zdd_304 : ∀ q ∈ zc_304, decode method_5_code q.1 = Except.ok (q.2.1, q.2.2.1) := zdw (by decide +kernel)
theorem zk_304 (xs : List Int32) : z_okm (za_T xs) za_P za_M 304 := z_okm_of ⟨"LyndonBenchLaw", "readText", "(LLyndonBench;[J)I"⟩ method_5_code zc_304 _ rfl rfl rfl rfl
  (z_bulk0 (own := "LyndonBenchLaw") (TB := zTB_10) (zTBk_10 xs) rfl zdd_304 (by decide +kernel))
  (z_fc (⟨by decide, zw_876, by decide +kernel, rfl, 1, Or.inl ⟨2, by decide +kernel, Nat.le_of_ble_eq_true rfl, rfl⟩, 1, by decide +kernel, rfl, by decide +kernel⟩) <|
  z_fn)
theorem zdd_305 : ∀ q ∈ zc_305, decode method_6_code q.1 = Except.ok (q.2.1, q.2.2.1) := zdw (by decide +kernel)
theorem zk_305 (xs : List Int32) : z_okm (za_T xs) za_P za_M 305 := z_okm_of ⟨"LyndonBenchLaw", "appendLetter", "(LLyndonBench;I[J)I"⟩ method_6_code zc_305 _ rfl rfl rfl rfl
  (z_bulk0 (own := "LyndonBenchLaw") (TB := zTB_10) (zTBk_10 xs) rfl zdd_305 (by decide +kernel))
  (z_fc (⟨by decide, zw_799, by decide +kernel, rfl, 1, Or.inl ⟨3, by decide +kernel, Nat.le_of_ble_eq_true rfl, rfl⟩, 1, by decide +kernel, rfl, by decide +kernel⟩) <|
  z_fc (⟨by decide, zw_876, by decide +kernel, rfl, 1, Or.inl ⟨3, by decide +kernel, Nat.le_of_ble_eq_true rfl, rfl⟩, 2, by decide +kernel, rfl, by decide +kernel⟩) <|
  z_fn)
theorem zdd_306 : ∀ q ∈ zc_306, decode method_7_code q.1 = Except.ok (q.2.1, q.2.2.1) := zdw (by decide +kernel)
theorem zk_306 (xs : List Int32) : z_okm (za_T xs) za_P za_M 306 := z_okm_of ⟨"LyndonBenchLaw", "dropLast", "(LLyndonBench;I[J)I"⟩ method_7_code zc_306 _ rfl rfl rfl rfl
  (z_bulk0 (own := "LyndonBenchLaw") (TB := zTB_10) (zTBk_10 xs) rfl zdd_306 (by decide +kernel))
  (z_fc (⟨by decide, zw_799, by decide +kernel, rfl, 1, Or.inl ⟨3, by decide +kernel, Nat.le_of_ble_eq_true rfl, rfl⟩, 1, by decide +kernel, rfl, by decide +kernel⟩) <|
  z_fn)
theorem zdd_307 : ∀ q ∈ zc_307, decode method_8_code q.1 = Except.ok (q.2.1, q.2.2.1) := zdw (by decide +kernel)
theorem zk_307 (xs : List Int32) : z_okm (za_T xs) za_P za_M 307 := z_okm_of ⟨"LyndonBenchLaw", "cutPart", "(LLyndonBench;II[J)I"⟩ method_8_code zc_307 _ rfl rfl rfl rfl
  (z_bulk0 (own := "LyndonBenchLaw") (TB := zTB_10) (zTBk_10 xs) rfl zdd_307 (by decide +kernel))
  (z_fc (⟨by decide, zw_799, by decide +kernel, rfl, 2, Or.inr ⟨4, by decide +kernel, Nat.le_of_ble_eq_true rfl, rfl⟩, 1, by decide +kernel, rfl, by decide +kernel⟩) <|
  z_fn)
theorem zdd_308 : ∀ q ∈ zc_308, decode method_9_code q.1 = Except.ok (q.2.1, q.2.2.1) := zdw (by decide +kernel)
theorem zk_308 (xs : List Int32) : z_okm (za_T xs) za_P za_M 308 := z_okm_of ⟨"LyndonBenchLaw", "rotate", "(LLyndonBench;I[J)I"⟩ method_9_code zc_308 _ rfl rfl rfl rfl
  (z_bulk0 (own := "LyndonBenchLaw") (TB := zTB_10) (zTBk_10 xs) rfl zdd_308 (by decide +kernel))
  (z_fc (⟨by decide, zw_799, by decide +kernel, rfl, 1, Or.inl ⟨3, by decide +kernel, Nat.le_of_ble_eq_true rfl, rfl⟩, 1, by decide +kernel, rfl, by decide +kernel⟩) <|
  z_fn)
theorem zdd_309 : ∀ q ∈ zc_309, decode method_10_code q.1 = Except.ok (q.2.1, q.2.2.1) := zdw (by decide +kernel)
theorem zk_309 (xs : List Int32) : z_okm (za_T xs) za_P za_M 309 := z_okm_of ⟨"LyndonBenchLaw", "rotateToLeast", "(LLyndonBench;[J)I"⟩ method_10_code zc_309 _ rfl rfl rfl rfl
  (z_bulk0 (own := "LyndonBenchLaw") (TB := zTB_10) (zTBk_10 xs) rfl zdd_309 (by decide +kernel))
  (z_fc (⟨by decide, zw_876, by decide +kernel, rfl, 1, Or.inl ⟨2, by decide +kernel, Nat.le_of_ble_eq_true rfl, rfl⟩, 1, by decide +kernel, rfl, by decide +kernel⟩) <|
  z_fn)
theorem zdd_310 : ∀ q ∈ zc_310, decode method_11_code q.1 = Except.ok (q.2.1, q.2.2.1) := zdw (by decide +kernel)
theorem zk_310 (xs : List Int32) : z_okm (za_T xs) za_P za_M 310 := z_okm_of ⟨"LyndonBenchLaw", "nextLyndon", "(LLyndonBench;I[J)I"⟩ method_11_code zc_310 _ rfl rfl rfl rfl
  (z_bulk0 (own := "LyndonBenchLaw") (TB := zTB_10) (zTBk_10 xs) rfl zdd_310 (by decide +kernel))
  (z_fc (⟨by decide, zw_799, by decide +kernel, rfl, 1, Or.inl ⟨3, by decide +kernel, Nat.le_of_ble_eq_true rfl, rfl⟩, 1, by decide +kernel, rfl, by decide +kernel⟩) <|
  z_fc (⟨by decide, zw_876, by decide +kernel, rfl, 1, Or.inl ⟨3, by decide +kernel, Nat.le_of_ble_eq_true rfl, rfl⟩, 2, by decide +kernel, rfl, by decide +kernel⟩) <|
  z_fn)
theorem zdd_311 : ∀ q ∈ zc_311, decode method_12_code q.1 = Except.ok (q.2.1, q.2.2.1) := zdw (by decide +kernel)
theorem zk_311 (xs : List Int32) : z_okm (za_T xs) za_P za_M 311 := z_okm_of ⟨"LyndonBenchLaw", "keepFactor", "(LLyndonBench;I[J)I"⟩ method_12_code zc_311 _ rfl rfl rfl rfl
  (z_bulk0 (own := "LyndonBenchLaw") (TB := zTB_10) (zTBk_10 xs) rfl zdd_311 (by decide +kernel))
  (z_fc (⟨by decide, zw_983, by decide +kernel, rfl, 1, Or.inl ⟨3, by decide +kernel, Nat.le_of_ble_eq_true rfl, rfl⟩, 1, by decide +kernel, rfl, by decide +kernel⟩) <|
  z_fc (⟨by decide, zw_876, by decide +kernel, rfl, 1, Or.inl ⟨3, by decide +kernel, Nat.le_of_ble_eq_true rfl, rfl⟩, 2, by decide +kernel, rfl, by decide +kernel⟩) <|
  z_fn)
theorem zdd_312 : ∀ q ∈ zc_312, decode method_13_code q.1 = Except.ok (q.2.1, q.2.2.1) := zdw (by decide +kernel)
theorem zk_312 (xs : List Int32) : z_okm (za_T xs) za_P za_M 312 := z_okm_of ⟨"LyndonBenchLaw", "keepText", "(LLyndonBench;[J)I"⟩ method_13_code zc_312 _ rfl rfl rfl rfl
  (z_bulk0 (own := "LyndonBenchLaw") (TB := zTB_10) (zTBk_10 xs) rfl zdd_312 (by decide +kernel))
  (z_fc (⟨by decide, zw_876, by decide +kernel, rfl, 1, Or.inl ⟨2, by decide +kernel, Nat.le_of_ble_eq_true rfl, rfl⟩, 1, by decide +kernel, rfl, by decide +kernel⟩) <|
  z_fn)
theorem zdd_313 : ∀ q ∈ zc_313, decode method_14_code q.1 = Except.ok (q.2.1, q.2.2.1) := zdw (by decide +kernel)
theorem zk_313 (xs : List Int32) : z_okm (za_T xs) za_P za_M 313 := z_okm_of ⟨"LyndonBenchLaw", "removeKept", "(LLyndonBench;I[J)I"⟩ method_14_code zc_313 _ rfl rfl rfl rfl
  (z_bulk0 (own := "LyndonBenchLaw") (TB := zTB_10) (zTBk_10 xs) rfl zdd_313 (by decide +kernel))
  (z_fc (⟨by decide, zw_983, by decide +kernel, rfl, 1, Or.inl ⟨3, by decide +kernel, Nat.le_of_ble_eq_true rfl, rfl⟩, 1, by decide +kernel, rfl, by decide +kernel⟩) <|
  z_fn)
theorem zdd_314 : ∀ q ∈ zc_314, decode method_15_code q.1 = Except.ok (q.2.1, q.2.2.1) := zdw (by decide +kernel)
theorem zk_314 (xs : List Int32) : z_okm (za_T xs) za_P za_M 314 := z_okm_of ⟨"LyndonBenchLaw", "joinKept", "(LLyndonBench;[J)I"⟩ method_15_code zc_314 _ rfl rfl rfl rfl
  (z_bulk0 (own := "LyndonBenchLaw") (TB := zTB_10) (zTBk_10 xs) rfl zdd_314 (by decide +kernel))
  (z_fc (⟨by decide, zw_876, by decide +kernel, rfl, 1, Or.inl ⟨2, by decide +kernel, Nat.le_of_ble_eq_true rfl, rfl⟩, 1, by decide +kernel, rfl, by decide +kernel⟩) <|
  z_fn)
theorem zdd_315 : ∀ q ∈ zc_315, decode method_16_code q.1 = Except.ok (q.2.1, q.2.2.1) := zdw (by decide +kernel)
theorem zk_315 (xs : List Int32) : z_okm (za_T xs) za_P za_M 315 := z_okm_of ⟨"LyndonBenchLaw", "restoreSnapshot", "(LLyndonBench;[J)I"⟩ method_16_code zc_315 _ rfl rfl rfl rfl
  (z_bulk0 (own := "LyndonBenchLaw") (TB := zTB_10) (zTBk_10 xs) rfl zdd_315 (by decide +kernel))
  (z_fc (⟨by decide, zw_1041, by decide +kernel, rfl, 1, Or.inl ⟨2, by decide +kernel, Nat.le_of_ble_eq_true rfl, rfl⟩, 1, by decide +kernel, rfl, by decide +kernel⟩) <|
  z_fn)
theorem zdd_316 : ∀ q ∈ zc_316, decode method_17_code q.1 = Except.ok (q.2.1, q.2.2.1) := zdw (by decide +kernel)
theorem zk_316 (xs : List Int32) : z_okm (za_T xs) za_P za_M 316 := z_okm_of ⟨"LyndonBenchLaw", "compareParts", "(LLyndonBench;IIII[J)I"⟩ method_17_code zc_316 _ rfl rfl rfl rfl
  (z_bulk0 (own := "LyndonBenchLaw") (TB := zTB_10) (zTBk_10 xs) rfl zdd_316 (by decide +kernel))
  (z_fc (⟨by decide, zw_799, by decide +kernel, rfl, 2, Or.inr ⟨6, by decide +kernel, Nat.le_of_ble_eq_true rfl, rfl⟩, 1, by decide +kernel, rfl, by decide +kernel⟩) <|
  z_fn)
theorem zdd_317 : ∀ q ∈ zc_317, decode method_18_code q.1 = Except.ok (q.2.1, q.2.2.1) := zdw (by decide +kernel)
theorem zk_317 (xs : List Int32) : z_okm (za_T xs) za_P za_M 317 := z_okm_of ⟨"LyndonBenchLaw", "factorStart", "(LLyndonBench;I[J)I"⟩ method_18_code zc_317 _ rfl rfl rfl rfl
  (z_bulk0 (own := "LyndonBenchLaw") (TB := zTB_10) (zTBk_10 xs) rfl zdd_317 (by decide +kernel))
  (z_fc (⟨by decide, zw_983, by decide +kernel, rfl, 1, Or.inl ⟨3, by decide +kernel, Nat.le_of_ble_eq_true rfl, rfl⟩, 1, by decide +kernel, rfl, by decide +kernel⟩) <|
  z_fn)
theorem zdd_318 : ∀ q ∈ zc_318, decode method_19_code q.1 = Except.ok (q.2.1, q.2.2.1) := zdw (by decide +kernel)
theorem zk_318 (xs : List Int32) : z_okm (za_T xs) za_P za_M 318 := z_okm_of ⟨"LyndonBenchLaw", "factorLength", "(LLyndonBench;I[J)I"⟩ method_19_code zc_318 _ rfl rfl rfl rfl
  (z_bulk0 (own := "LyndonBenchLaw") (TB := zTB_10) (zTBk_10 xs) rfl zdd_318 (by decide +kernel))
  (z_fc (⟨by decide, zw_983, by decide +kernel, rfl, 1, Or.inl ⟨3, by decide +kernel, Nat.le_of_ble_eq_true rfl, rfl⟩, 1, by decide +kernel, rfl, by decide +kernel⟩) <|
  z_fn)
theorem zdd_319 : ∀ q ∈ zc_319, decode method_20_code q.1 = Except.ok (q.2.1, q.2.2.1) := zdw (by decide +kernel)
theorem zk_319 (xs : List Int32) : z_okm (za_T xs) za_P za_M 319 := z_okm_of ⟨"LyndonBenchLaw", "factorPower", "(LLyndonBench;I[J)I"⟩ method_20_code zc_319 _ rfl rfl rfl rfl
  (z_bulk0 (own := "LyndonBenchLaw") (TB := zTB_10) (zTBk_10 xs) rfl zdd_319 (by decide +kernel))
  (z_fc (⟨by decide, zw_983, by decide +kernel, rfl, 1, Or.inl ⟨3, by decide +kernel, Nat.le_of_ble_eq_true rfl, rfl⟩, 1, by decide +kernel, rfl, by decide +kernel⟩) <|
  z_fn)
theorem zdd_320 : ∀ q ∈ zc_320, decode method_21_code q.1 = Except.ok (q.2.1, q.2.2.1) := zdw (by decide +kernel)
theorem zk_320 (xs : List Int32) : z_okm (za_T xs) za_P za_M 320 := z_okm_of ⟨"LyndonBenchLaw", "factorsIfAppended", "(LLyndonBench;I[J)I"⟩ method_21_code zc_320 _ rfl rfl rfl rfl
  (z_bulk0 (own := "LyndonBenchLaw") (TB := zTB_10) (zTBk_10 xs) rfl zdd_320 (by decide +kernel))
  (z_fc (⟨by decide, zw_799, by decide +kernel, rfl, 1, Or.inl ⟨3, by decide +kernel, Nat.le_of_ble_eq_true rfl, rfl⟩, 1, by decide +kernel, rfl, by decide +kernel⟩) <|
  z_fn)
theorem zdd_321 : ∀ q ∈ zc_321, decode method_22_code q.1 = Except.ok (q.2.1, q.2.2.1) := zdw (by decide +kernel)
theorem zk_321 (xs : List Int32) : z_okm (za_T xs) za_P za_M 321 := z_okm_of ⟨"LyndonBenchLaw", "factorsIfRotated", "(LLyndonBench;I[J)I"⟩ method_22_code zc_321 _ rfl rfl rfl rfl
  (z_bulk0 (own := "LyndonBenchLaw") (TB := zTB_10) (zTBk_10 xs) rfl zdd_321 (by decide +kernel))
  (z_fc (⟨by decide, zw_799, by decide +kernel, rfl, 1, Or.inl ⟨3, by decide +kernel, Nat.le_of_ble_eq_true rfl, rfl⟩, 1, by decide +kernel, rfl, by decide +kernel⟩) <|
  z_fn)
theorem zdd_322 : ∀ q ∈ zc_322, decode method_23_code q.1 = Except.ok (q.2.1, q.2.2.1) := zdw (by decide +kernel)
theorem zk_322 (xs : List Int32) : z_okm (za_T xs) za_P za_M 322 := z_okm_of ⟨"LyndonBenchLaw", "rankOf", "(LLyndonBench;I[J)I"⟩ method_23_code zc_322 _ rfl rfl rfl rfl
  (z_bulk0 (own := "LyndonBenchLaw") (TB := zTB_10) (zTBk_10 xs) rfl zdd_322 (by decide +kernel))
  (z_fc (⟨by decide, zw_983, by decide +kernel, rfl, 1, Or.inl ⟨3, by decide +kernel, Nat.le_of_ble_eq_true rfl, rfl⟩, 1, by decide +kernel, rfl, by decide +kernel⟩) <|
  z_fn)
theorem zdd_323 : ∀ q ∈ zc_323, decode method_24_code q.1 = Except.ok (q.2.1, q.2.2.1) := zdw (by decide +kernel)
theorem zk_323 (xs : List Int32) : z_okm (za_T xs) za_P za_M 323 := z_okm_of ⟨"LyndonBenchLaw", "lyndonWords", "(LLyndonBench;I[J)I"⟩ method_24_code zc_323 _ rfl rfl rfl rfl
  (z_bulk0 (own := "LyndonBenchLaw") (TB := zTB_10) (zTBk_10 xs) rfl zdd_323 (by decide +kernel))
  (z_fc (⟨by decide, zw_799, by decide +kernel, rfl, 1, Or.inl ⟨3, by decide +kernel, Nat.le_of_ble_eq_true rfl, rfl⟩, 1, by decide +kernel, rfl, by decide +kernel⟩) <|
  z_fn)
theorem zdd_324 : ∀ q ∈ zc_324, decode method_25_code q.1 = Except.ok (q.2.1, q.2.2.1) := zdw (by decide +kernel)
theorem zk_324 (xs : List Int32) : z_okm (za_T xs) za_P za_M 324 := z_okm_of ⟨"LyndonBenchLaw", "necklaces", "(LLyndonBench;I[J)I"⟩ method_25_code zc_324 _ rfl rfl rfl rfl
  (z_bulk0 (own := "LyndonBenchLaw") (TB := zTB_10) (zTBk_10 xs) rfl zdd_324 (by decide +kernel))
  (z_fc (⟨by decide, zw_799, by decide +kernel, rfl, 1, Or.inl ⟨3, by decide +kernel, Nat.le_of_ble_eq_true rfl, rfl⟩, 1, by decide +kernel, rfl, by decide +kernel⟩) <|
  z_fn)
theorem zdd_325 : ∀ q ∈ zc_325, decode method_26_code q.1 = Except.ok (q.2.1, q.2.2.1) := zdw (by decide +kernel)
theorem zk_325 (xs : List Int32) : z_okm (za_T xs) za_P za_M 325 := z_okm_of ⟨"LyndonBenchLaw", "bruijnLetter", "(LLyndonBench;II[J)I"⟩ method_26_code zc_325 _ rfl rfl rfl rfl
  (z_bulk0 (own := "LyndonBenchLaw") (TB := zTB_10) (zTBk_10 xs) rfl zdd_325 (by decide +kernel))
  (z_fc (⟨by decide, zw_799, by decide +kernel, rfl, 2, Or.inr ⟨4, by decide +kernel, Nat.le_of_ble_eq_true rfl, rfl⟩, 1, by decide +kernel, rfl, by decide +kernel⟩) <|
  z_fc (⟨by decide, zw_983, by decide +kernel, rfl, 2, Or.inr ⟨4, by decide +kernel, Nat.le_of_ble_eq_true rfl, rfl⟩, 2, by decide +kernel, rfl, by decide +kernel⟩) <|
  z_fn)
theorem zdd_326 : ∀ q ∈ zc_326, decode method_27_code q.1 = Except.ok (q.2.1, q.2.2.1) := zdw (by decide +kernel)
theorem zk_326 (xs : List Int32) : z_okm (za_T xs) za_P za_M 326 := z_okm_of ⟨"LyndonBenchLaw", "keptLength", "(LLyndonBench;I[J)I"⟩ method_27_code zc_326 _ rfl rfl rfl rfl
  (z_bulk0 (own := "LyndonBenchLaw") (TB := zTB_10) (zTBk_10 xs) rfl zdd_326 (by decide +kernel))
  (z_fc (⟨by decide, zw_983, by decide +kernel, rfl, 1, Or.inl ⟨3, by decide +kernel, Nat.le_of_ble_eq_true rfl, rfl⟩, 1, by decide +kernel, rfl, by decide +kernel⟩) <|
  z_fn)
theorem zdd_327 : ∀ q ∈ zc_327, decode method_28_code q.1 = Except.ok (q.2.1, q.2.2.1) := zdw (by decide +kernel)
theorem zk_327 (xs : List Int32) : z_okm (za_T xs) za_P za_M 327 := z_okm_of ⟨"LyndonBenchLaw", "keptLetter", "(LLyndonBench;II[J)I"⟩ method_28_code zc_327 _ rfl rfl rfl rfl
  (z_bulk0 (own := "LyndonBenchLaw") (TB := zTB_10) (zTBk_10 xs) rfl zdd_327 (by decide +kernel))
  (z_fc (⟨by decide, zw_983, by decide +kernel, rfl, 2, Or.inr ⟨4, by decide +kernel, Nat.le_of_ble_eq_true rfl, rfl⟩, 1, by decide +kernel, rfl, by decide +kernel⟩) <|
  z_fn)
