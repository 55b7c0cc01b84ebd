/-! the instructions as equations: PuncturesAreViews -/
-- 61: PuncturesAreViews.<init>()V loops at [94, 125, 176]
def q61 : MI := (yX8_init, cX8_init, 2, none, 8, 0)
theorem mq61 : mtab[61]? = some q61 := rfl
theorem h61_0 : mfetch q61.2.1 0 = some (.aload_n 0) := by decide +kernel
theorem h61_1 : mfetch q61.2.1 1 = some (.invokespecial 1) := by decide +kernel
theorem h61_4 : mfetch q61.2.1 4 = some (.aload_n 0) := by decide +kernel
theorem h61_5 : mfetch q61.2.1 5 = some (.bipush 6) := by decide +kernel
theorem h61_7 : mfetch q61.2.1 7 = some (.anewarray 9) := by decide +kernel
theorem h61_10 : mfetch q61.2.1 10 = some (.putfield 11) := by decide +kernel
theorem h61_13 : mfetch q61.2.1 13 = some (.aload_n 0) := by decide +kernel
theorem h61_14 : mfetch q61.2.1 14 = some (.new 15) := by decide +kernel
theorem h61_17 : mfetch q61.2.1 17 = some (.dup) := by decide +kernel
theorem h61_18 : mfetch q61.2.1 18 = some (.invokespecial 17) := by decide +kernel
theorem h61_21 : mfetch q61.2.1 21 = some (.putfield 18) := by decide +kernel
theorem h61_24 : mfetch q61.2.1 24 = some (.aload_n 0) := by decide +kernel
theorem h61_25 : mfetch q61.2.1 25 = some (.new 22) := by decide +kernel
theorem h61_28 : mfetch q61.2.1 28 = some (.dup) := by decide +kernel
theorem h61_29 : mfetch q61.2.1 29 = some (.invokespecial 24) := by decide +kernel
theorem h61_32 : mfetch q61.2.1 32 = some (.putfield 25) := by decide +kernel
theorem h61_35 : mfetch q61.2.1 35 = some (.aload_n 0) := by decide +kernel
theorem h61_36 : mfetch q61.2.1 36 = some (.new 22) := by decide +kernel
theorem h61_39 : mfetch q61.2.1 39 = some (.dup) := by decide +kernel
theorem h61_40 : mfetch q61.2.1 40 = some (.invokespecial 24) := by decide +kernel
theorem h61_43 : mfetch q61.2.1 43 = some (.putfield 29) := by decide +kernel
theorem h61_46 : mfetch q61.2.1 46 = some (.aload_n 0) := by decide +kernel
theorem h61_47 : mfetch q61.2.1 47 = some (.iconst 4) := by decide +kernel
theorem h61_48 : mfetch q61.2.1 48 = some (.anewarray 32) := by decide +kernel
theorem h61_51 : mfetch q61.2.1 51 = some (.putfield 34) := by decide +kernel
theorem h61_54 : mfetch q61.2.1 54 = some (.aload_n 0) := by decide +kernel
theorem h61_55 : mfetch q61.2.1 55 = some (.new 38) := by decide +kernel
theorem h61_58 : mfetch q61.2.1 58 = some (.dup) := by decide +kernel
theorem h61_59 : mfetch q61.2.1 59 = some (.invokespecial 40) := by decide +kernel
theorem h61_62 : mfetch q61.2.1 62 = some (.putfield 41) := by decide +kernel
theorem h61_65 : mfetch q61.2.1 65 = some (.aload_n 0) := by decide +kernel
theorem h61_66 : mfetch q61.2.1 66 = some (.new 38) := by decide +kernel
theorem h61_69 : mfetch q61.2.1 69 = some (.dup) := by decide +kernel
theorem h61_70 : mfetch q61.2.1 70 = some (.invokespecial 40) := by decide +kernel
theorem h61_73 : mfetch q61.2.1 73 = some (.putfield 45) := by decide +kernel
theorem h61_76 : mfetch q61.2.1 76 = some (.aload_n 0) := by decide +kernel
theorem h61_77 : mfetch q61.2.1 77 = some (.bipush 24) := by decide +kernel
theorem h61_79 : mfetch q61.2.1 79 = some (.newarray .int) := by decide +kernel
theorem h61_81 : mfetch q61.2.1 81 = some (.putfield 48) := by decide +kernel
theorem h61_84 : mfetch q61.2.1 84 = some (.aload_n 0) := by decide +kernel
theorem h61_85 : mfetch q61.2.1 85 = some (.bipush 30) := by decide +kernel
theorem h61_87 : mfetch q61.2.1 87 = some (.newarray .int) := by decide +kernel
theorem h61_89 : mfetch q61.2.1 89 = some (.putfield 52) := by decide +kernel
theorem h61_92 : mfetch q61.2.1 92 = some (.iconst 0) := by decide +kernel
theorem h61_93 : mfetch q61.2.1 93 = some (.istore_n 1) := by decide +kernel
theorem h61_94 : mfetch q61.2.1 94 = some (.iload_n 1) := by decide +kernel
theorem h61_95 : mfetch q61.2.1 95 = some (.aload_n 0) := by decide +kernel
theorem h61_96 : mfetch q61.2.1 96 = some (.getfield 11) := by decide +kernel
theorem h61_99 : mfetch q61.2.1 99 = some (.arraylength) := by decide +kernel
theorem h61_100 : mfetch q61.2.1 100 = some (.if_icmp .ge 23) := by decide +kernel
theorem h61_103 : mfetch q61.2.1 103 = some (.aload_n 0) := by decide +kernel
theorem h61_104 : mfetch q61.2.1 104 = some (.getfield 11) := by decide +kernel
theorem h61_107 : mfetch q61.2.1 107 = some (.iload_n 1) := by decide +kernel
theorem h61_108 : mfetch q61.2.1 108 = some (.new 9) := by decide +kernel
theorem h61_111 : mfetch q61.2.1 111 = some (.dup) := by decide +kernel
theorem h61_112 : mfetch q61.2.1 112 = some (.iload_n 1) := by decide +kernel
theorem h61_113 : mfetch q61.2.1 113 = some (.invokespecial 55) := by decide +kernel
theorem h61_116 : mfetch q61.2.1 116 = some (.aastore) := by decide +kernel
theorem h61_117 : mfetch q61.2.1 117 = some (.iinc 1 1) := by decide +kernel
theorem h61_120 : mfetch q61.2.1 120 = some (.goto (-26)) := by decide +kernel
theorem h61_123 : mfetch q61.2.1 123 = some (.iconst 0) := by decide +kernel
theorem h61_124 : mfetch q61.2.1 124 = some (.istore_n 1) := by decide +kernel
theorem h61_125 : mfetch q61.2.1 125 = some (.iload_n 1) := by decide +kernel
theorem h61_126 : mfetch q61.2.1 126 = some (.aload_n 0) := by decide +kernel
theorem h61_127 : mfetch q61.2.1 127 = some (.getfield 34) := by decide +kernel
theorem h61_130 : mfetch q61.2.1 130 = some (.arraylength) := by decide +kernel
theorem h61_131 : mfetch q61.2.1 131 = some (.if_icmp .ge 22) := by decide +kernel
theorem h61_134 : mfetch q61.2.1 134 = some (.aload_n 0) := by decide +kernel
theorem h61_135 : mfetch q61.2.1 135 = some (.getfield 34) := by decide +kernel
theorem h61_138 : mfetch q61.2.1 138 = some (.iload_n 1) := by decide +kernel
theorem h61_139 : mfetch q61.2.1 139 = some (.new 32) := by decide +kernel
theorem h61_142 : mfetch q61.2.1 142 = some (.dup) := by decide +kernel
theorem h61_143 : mfetch q61.2.1 143 = some (.invokespecial 58) := by decide +kernel
theorem h61_146 : mfetch q61.2.1 146 = some (.aastore) := by decide +kernel
theorem h61_147 : mfetch q61.2.1 147 = some (.iinc 1 1) := by decide +kernel
theorem h61_150 : mfetch q61.2.1 150 = some (.goto (-25)) := by decide +kernel
theorem h61_153 : mfetch q61.2.1 153 = some (.aload_n 0) := by decide +kernel
theorem h61_154 : mfetch q61.2.1 154 = some (.new 59) := by decide +kernel
theorem h61_157 : mfetch q61.2.1 157 = some (.dup) := by decide +kernel
theorem h61_158 : mfetch q61.2.1 158 = some (.aload_n 0) := by decide +kernel
theorem h61_159 : mfetch q61.2.1 159 = some (.getfield 18) := by decide +kernel
theorem h61_162 : mfetch q61.2.1 162 = some (.aload_n 0) := by decide +kernel
theorem h61_163 : mfetch q61.2.1 163 = some (.getfield 11) := by decide +kernel
theorem h61_166 : mfetch q61.2.1 166 = some (.iconst 0) := by decide +kernel
theorem h61_167 : mfetch q61.2.1 167 = some (.aaload) := by decide +kernel
theorem h61_168 : mfetch q61.2.1 168 = some (.invokespecial 61) := by decide +kernel
theorem h61_171 : mfetch q61.2.1 171 = some (.putfield 64) := by decide +kernel
theorem h61_174 : mfetch q61.2.1 174 = some (.iconst 0) := by decide +kernel
theorem h61_175 : mfetch q61.2.1 175 = some (.istore_n 1) := by decide +kernel
theorem h61_176 : mfetch q61.2.1 176 = some (.iload_n 1) := by decide +kernel
theorem h61_177 : mfetch q61.2.1 177 = some (.ldc 68) := by decide +kernel
theorem h61_179 : mfetch q61.2.1 179 = some (.invokevirtual 70) := by decide +kernel
theorem h61_182 : mfetch q61.2.1 182 = some (.if_icmp .ge 23) := by decide +kernel
theorem h61_185 : mfetch q61.2.1 185 = some (.aload_n 0) := by decide +kernel
theorem h61_186 : mfetch q61.2.1 186 = some (.getfield 18) := by decide +kernel
theorem h61_189 : mfetch q61.2.1 189 = some (.ldc 68) := by decide +kernel
theorem h61_191 : mfetch q61.2.1 191 = some (.iload_n 1) := by decide +kernel
theorem h61_192 : mfetch q61.2.1 192 = some (.invokevirtual 76) := by decide +kernel
theorem h61_195 : mfetch q61.2.1 195 = some (.invokevirtual 80) := by decide +kernel
theorem h61_198 : mfetch q61.2.1 198 = some (.pop) := by decide +kernel
theorem h61_199 : mfetch q61.2.1 199 = some (.iinc 1 1) := by decide +kernel
theorem h61_202 : mfetch q61.2.1 202 = some (.goto (-26)) := by decide +kernel
theorem h61_205 : mfetch q61.2.1 205 = some (.aload_n 0) := by decide +kernel
theorem h61_206 : mfetch q61.2.1 206 = some (.getfield 64) := by decide +kernel
theorem h61_209 : mfetch q61.2.1 209 = some (.aload_n 0) := by decide +kernel
theorem h61_210 : mfetch q61.2.1 210 = some (.getfield 11) := by decide +kernel
theorem h61_213 : mfetch q61.2.1 213 = some (.iconst 0) := by decide +kernel
theorem h61_214 : mfetch q61.2.1 214 = some (.aaload) := by decide +kernel
theorem h61_215 : mfetch q61.2.1 215 = some (.invokevirtual 84) := by decide +kernel
theorem h61_218 : mfetch q61.2.1 218 = some (.pop) := by decide +kernel
theorem h61_219 : mfetch q61.2.1 219 = some (.aload_n 0) := by decide +kernel
theorem h61_220 : mfetch q61.2.1 220 = some (.getfield 18) := by decide +kernel
theorem h61_223 : mfetch q61.2.1 223 = some (.iconst 0) := by decide +kernel
theorem h61_224 : mfetch q61.2.1 224 = some (.putfield 88) := by decide +kernel
theorem h61_227 : mfetch q61.2.1 227 = some (.aload_n 0) := by decide +kernel
theorem h61_228 : mfetch q61.2.1 228 = some (.iconst 1) := by decide +kernel
theorem h61_229 : mfetch q61.2.1 229 = some (.putfield 92) := by decide +kernel
theorem h61_232 : mfetch q61.2.1 232 = some (.aload_n 0) := by decide +kernel
theorem h61_233 : mfetch q61.2.1 233 = some (.new 95) := by decide +kernel
theorem h61_236 : mfetch q61.2.1 236 = some (.dup) := by decide +kernel
theorem h61_237 : mfetch q61.2.1 237 = some (.aload_n 0) := by decide +kernel
theorem h61_238 : mfetch q61.2.1 238 = some (.getfield 11) := by decide +kernel
theorem h61_241 : mfetch q61.2.1 241 = some (.iconst 0) := by decide +kernel
theorem h61_242 : mfetch q61.2.1 242 = some (.aaload) := by decide +kernel
theorem h61_243 : mfetch q61.2.1 243 = some (.invokespecial 97) := by decide +kernel
theorem h61_246 : mfetch q61.2.1 246 = some (.putfield 100) := by decide +kernel
theorem h61_249 : mfetch q61.2.1 249 = some (.aload_n 0) := by decide +kernel
theorem h61_250 : mfetch q61.2.1 250 = some (.new 95) := by decide +kernel
theorem h61_253 : mfetch q61.2.1 253 = some (.dup) := by decide +kernel
theorem h61_254 : mfetch q61.2.1 254 = some (.aload_n 0) := by decide +kernel
theorem h61_255 : mfetch q61.2.1 255 = some (.getfield 11) := by decide +kernel
theorem h61_258 : mfetch q61.2.1 258 = some (.iconst 0) := by decide +kernel
theorem h61_259 : mfetch q61.2.1 259 = some (.aaload) := by decide +kernel
theorem h61_260 : mfetch q61.2.1 260 = some (.invokespecial 97) := by decide +kernel
theorem h61_263 : mfetch q61.2.1 263 = some (.putfield 104) := by decide +kernel
theorem h61_266 : mfetch q61.2.1 266 = some (.aload_n 0) := by decide +kernel
theorem h61_267 : mfetch q61.2.1 267 = some (.new 95) := by decide +kernel
theorem h61_270 : mfetch q61.2.1 270 = some (.dup) := by decide +kernel
theorem h61_271 : mfetch q61.2.1 271 = some (.aload_n 0) := by decide +kernel
theorem h61_272 : mfetch q61.2.1 272 = some (.getfield 11) := by decide +kernel
theorem h61_275 : mfetch q61.2.1 275 = some (.iconst 0) := by decide +kernel
theorem h61_276 : mfetch q61.2.1 276 = some (.aaload) := by decide +kernel
theorem h61_277 : mfetch q61.2.1 277 = some (.invokespecial 97) := by decide +kernel
theorem h61_280 : mfetch q61.2.1 280 = some (.putfield 107) := by decide +kernel
theorem h61_283 : mfetch q61.2.1 283 = some (.return_) := by decide +kernel
theorem E61_0 : (∀ (d : Nat) (l1 : Option Value) (x : Nat) (st : List Value) (h : MH) (P : MP), mFr d 61 0 [some (.ref x), l1] st h P = mFr d 61 1 [some (.ref x), l1] (.ref x :: st) h P) ∧
  (∀ (d : Nat) (loc : List (Option Value)) (a : Nat) (h : MH) (P : MP), mFr d 61 1 loc [.ref a] h P = if a < 900 then mFr d 61 4 loc ([]) h P else False) ∧
  (∀ (d : Nat) (l1 : Option Value) (x : Nat) (st : List Value) (h : MH) (P : MP), mFr d 61 4 [some (.ref x), l1] st h P = mFr d 61 5 [some (.ref x), l1] (.ref x :: st) h P) ∧
  (∀ (d : Nat) (loc : List (Option Value)) (st : List Value) (h : MH) (P : MP), mFr d 61 5 loc st h P = mFr d 61 7 loc (.int 6 :: st) h P) ∧
  (∀ (d : Nat) (loc : List (Option Value)) (a : Nat) (x : Nat) (st : List Value) (h : MH) (P : MP), mFr d 61 10 loc (.ref x :: .ref a :: st) h P = pput h a 8 0 (.ref x) (fun h' => mFr d 61 13 loc (st) h' P)) ∧
  (∀ (d : Nat) (l1 : Option Value) (x : Nat) (st : List Value) (h : MH) (P : MP), mFr d 61 13 [some (.ref x), l1] st h P = mFr d 61 14 [some (.ref x), l1] (.ref x :: st) h P) ∧
  (∀ (d : Nat) (loc : List (Option Value)) (x : Nat) (st : List Value) (h : MH) (P : MP), mFr d 61 17 loc (.ref x :: st) h P = mFr d 61 18 loc (.ref x :: .ref x :: st) h P) ∧
  (∀ (d : Nat) (loc : List (Option Value)) (b : Nat) (s0 : Nat) (s1 : Nat) (h : MH) (P : MP), mFr d 61 18 loc (.ref b :: [.ref s0, .ref s1]) h P = if mrcv h b 4 = true then mRun d 26 [.ref b] h (fun v h' => mFr d 61 21 loc (v.toList ++ [.ref s0, .ref s1]) h' P) else False) ∧
  (∀ (d : Nat) (loc : List (Option Value)) (a : Nat) (x : Nat) (st : List Value) (h : MH) (P : MP), mFr d 61 21 loc (.ref x :: .ref a :: st) h P = pput h a 8 1 (.ref x) (fun h' => mFr d 61 24 loc (st) h' P)) ∧
  (∀ (d : Nat) (l1 : Option Value) (x : Nat) (st : List Value) (h : MH) (P : MP), mFr d 61 24 [some (.ref x), l1] st h P = mFr d 61 25 [some (.ref x), l1] (.ref x :: st) h P) ∧
  (∀ (d : Nat) (loc : List (Option Value)) (x : Nat) (st : List Value) (h : MH) (P : MP), mFr d 61 28 loc (.ref x :: st) h P = mFr d 61 29 loc (.ref x :: .ref x :: st) h P) ∧
  (∀ (d : Nat) (loc : List (Option Value)) (b : Nat) (s0 : Nat) (s1 : Nat) (h : MH) (P : MP), mFr d 61 29 loc (.ref b :: [.ref s0, .ref s1]) h P = if mrcv h b 0 = true then mRun d 0 [.ref b] h (fun v h' => mFr d 61 32 loc (v.toList ++ [.ref s0, .ref s1]) h' P) else False) ∧
  (∀ (d : Nat) (loc : List (Option Value)) (a : Nat) (x : Nat) (st : List Value) (h : MH) (P : MP), mFr d 61 32 loc (.ref x :: .ref a :: st) h P = pput h a 8 5 (.ref x) (fun h' => mFr d 61 35 loc (st) h' P)) ∧
  (∀ (d : Nat) (l1 : Option Value) (x : Nat) (st : List Value) (h : MH) (P : MP), mFr d 61 35 [some (.ref x), l1] st h P = mFr d 61 36 [some (.ref x), l1] (.ref x :: st) h P) ∧
  (∀ (d : Nat) (loc : List (Option Value)) (x : Nat) (st : List Value) (h : MH) (P : MP), mFr d 61 39 loc (.ref x :: st) h P = mFr d 61 40 loc (.ref x :: .ref x :: st) h P) ∧
  (∀ (d : Nat) (loc : List (Option Value)) (b : Nat) (s0 : Nat) (s1 : Nat) (h : MH) (P : MP), mFr d 61 40 loc (.ref b :: [.ref s0, .ref s1]) h P = if mrcv h b 0 = true then mRun d 0 [.ref b] h (fun v h' => mFr d 61 43 loc (v.toList ++ [.ref s0, .ref s1]) h' P) else False) ∧
  (∀ (d : Nat) (loc : List (Option Value)) (a : Nat) (x : Nat) (st : List Value) (h : MH) (P : MP), mFr d 61 43 loc (.ref x :: .ref a :: st) h P = pput h a 8 7 (.ref x) (fun h' => mFr d 61 46 loc (st) h' P)) ∧
  (∀ (d : Nat) (l1 : Option Value) (x : Nat) (st : List Value) (h : MH) (P : MP), mFr d 61 46 [some (.ref x), l1] st h P = mFr d 61 47 [some (.ref x), l1] (.ref x :: st) h P) ∧
  (∀ (d : Nat) (loc : List (Option Value)) (st : List Value) (h : MH) (P : MP), mFr d 61 47 loc st h P = mFr d 61 48 loc (.int 4 :: st) h P) ∧
  (∀ (d : Nat) (loc : List (Option Value)) (a : Nat) (x : Nat) (st : List Value) (h : MH) (P : MP), mFr d 61 51 loc (.ref x :: .ref a :: st) h P = pput h a 8 9 (.ref x) (fun h' => mFr d 61 54 loc (st) h' P)) ∧
  (∀ (d : Nat) (l1 : Option Value) (x : Nat) (st : List Value) (h : MH) (P : MP), mFr d 61 54 [some (.ref x), l1] st h P = mFr d 61 55 [some (.ref x), l1] (.ref x :: st) h P) ∧
  (∀ (d : Nat) (loc : List (Option Value)) (x : Nat) (st : List Value) (h : MH) (P : MP), mFr d 61 58 loc (.ref x :: st) h P = mFr d 61 59 loc (.ref x :: .ref x :: st) h P) ∧
  (∀ (d : Nat) (loc : List (Option Value)) (b : Nat) (s0 : Nat) (s1 : Nat) (h : MH) (P : MP), mFr d 61 59 loc (.ref b :: [.ref s0, .ref s1]) h P = if mrcv h b 1 = true then mRun d 7 [.ref b] h (fun v h' => mFr d 61 62 loc (v.toList ++ [.ref s0, .ref s1]) h' P) else False) ∧
  (∀ (d : Nat) (loc : List (Option Value)) (a : Nat) (x : Nat) (st : List Value) (h : MH) (P : MP), mFr d 61 62 loc (.ref x :: .ref a :: st) h P = pput h a 8 11 (.ref x) (fun h' => mFr d 61 65 loc (st) h' P)) ∧
  (∀ (d : Nat) (l1 : Option Value) (x : Nat) (st : List Value) (h : MH) (P : MP), mFr d 61 65 [some (.ref x), l1] st h P = mFr d 61 66 [some (.ref x), l1] (.ref x :: st) h P) ∧
  (∀ (d : Nat) (loc : List (Option Value)) (x : Nat) (st : List Value) (h : MH) (P : MP), mFr d 61 69 loc (.ref x :: st) h P = mFr d 61 70 loc (.ref x :: .ref x :: st) h P) ∧
  (∀ (d : Nat) (loc : List (Option Value)) (b : Nat) (s0 : Nat) (s1 : Nat) (h : MH) (P : MP), mFr d 61 70 loc (.ref b :: [.ref s0, .ref s1]) h P = if mrcv h b 1 = true then mRun d 7 [.ref b] h (fun v h' => mFr d 61 73 loc (v.toList ++ [.ref s0, .ref s1]) h' P) else False) ∧
  (∀ (d : Nat) (loc : List (Option Value)) (a : Nat) (x : Nat) (st : List Value) (h : MH) (P : MP), mFr d 61 73 loc (.ref x :: .ref a :: st) h P = pput h a 8 12 (.ref x) (fun h' => mFr d 61 76 loc (st) h' P)) ∧
  (∀ (d : Nat) (l1 : Option Value) (x : Nat) (st : List Value) (h : MH) (P : MP), mFr d 61 76 [some (.ref x), l1] st h P = mFr d 61 77 [some (.ref x), l1] (.ref x :: st) h P) ∧
  (∀ (d : Nat) (loc : List (Option Value)) (st : List Value) (h : MH) (P : MP), mFr d 61 77 loc st h P = mFr d 61 79 loc (.int 24 :: st) h P) ∧
  (∀ (d : Nat) (loc : List (Option Value)) (a : Nat) (x : Nat) (st : List Value) (h : MH) (P : MP), mFr d 61 81 loc (.ref x :: .ref a :: st) h P = pput h a 8 13 (.ref x) (fun h' => mFr d 61 84 loc (st) h' P)) ∧
  (∀ (d : Nat) (l1 : Option Value) (x : Nat) (st : List Value) (h : MH) (P : MP), mFr d 61 84 [some (.ref x), l1] st h P = mFr d 61 85 [some (.ref x), l1] (.ref x :: st) h P) ∧
  (∀ (d : Nat) (loc : List (Option Value)) (st : List Value) (h : MH) (P : MP), mFr d 61 85 loc st h P = mFr d 61 87 loc (.int 30 :: st) h P) ∧
  (∀ (d : Nat) (loc : List (Option Value)) (a : Nat) (x : Nat) (st : List Value) (h : MH) (P : MP), mFr d 61 89 loc (.ref x :: .ref a :: st) h P = pput h a 8 14 (.ref x) (fun h' => mFr d 61 92 loc (st) h' P)) ∧
  (∀ (d : Nat) (loc : List (Option Value)) (st : List Value) (h : MH) (P : MP), mFr d 61 92 loc st h P = mFr d 61 93 loc (.int 0 :: st) h P) ∧
  (∀ (d : Nat) (l0 : Option Value) (l1 : Option Value) (x : Int32) (st : List Value) (h : MH) (P : MP), mnl l0 = true → mFr d 61 93 [l0, l1] (.int x :: st) h P = mFr d 61 94 [l0, some (.int x)] (st) h P) := ⟨fun _ _ _ _ _ _ => (mFr_S mq61 h61_0).trans rfl,
  fun _ _ _ _ _ => F_obj mq61 h61_1 (rfl : _ = some (1, 7, 0, 0)) (Nat.zero_le _),
  fun _ _ _ _ _ _ => (mFr_S mq61 h61_4).trans rfl,
  fun _ _ _ _ _ => (mFr_S mq61 h61_5).trans rfl,
  fun _ _ _ _ _ _ _ => F_put mq61 h61_10 (Or.inl ⟨(rfl : _ = some (11, 0, 8, 0)), Or.inr ⟨by decide, rfl⟩⟩),
  fun _ _ _ _ _ _ => (mFr_S mq61 h61_13).trans rfl,
  fun _ _ _ _ _ _ => (mFr_S mq61 h61_17).trans rfl,
  fun _ _ b s0 s1 _ _ => F_callV (as := []) (rest := [.ref s0, .ref s1]) mq61 (Or.inr h61_18) (rfl : _ = some (17, 6, 26, 5)) (Or.inr ⟨h61_18, by decide⟩) (by rfl) (by rfl) (by rfl) (Nat.le_of_ble_eq_true rfl),
  fun _ _ _ _ _ _ _ => F_put mq61 h61_21 (Or.inl ⟨(rfl : _ = some (18, 0, 8, 1)), Or.inr ⟨by decide, rfl⟩⟩),
  fun _ _ _ _ _ _ => (mFr_S mq61 h61_24).trans rfl,
  fun _ _ _ _ _ _ => (mFr_S mq61 h61_28).trans rfl,
  fun _ _ b s0 s1 _ _ => F_callV (as := []) (rest := [.ref s0, .ref s1]) mq61 (Or.inr h61_29) (rfl : _ = some (24, 6, 0, 5)) (Or.inr ⟨h61_29, by decide⟩) (by rfl) (by rfl) (by rfl) (Nat.le_of_ble_eq_true rfl),
  fun _ _ _ _ _ _ _ => F_put mq61 h61_32 (Or.inl ⟨(rfl : _ = some (25, 0, 8, 5)), Or.inr ⟨by decide, rfl⟩⟩),
  fun _ _ _ _ _ _ => (mFr_S mq61 h61_35).trans rfl,
  fun _ _ _ _ _ _ => (mFr_S mq61 h61_39).trans rfl,
  fun _ _ b s0 s1 _ _ => F_callV (as := []) (rest := [.ref s0, .ref s1]) mq61 (Or.inr h61_40) (rfl : _ = some (24, 6, 0, 5)) (Or.inr ⟨h61_40, by decide⟩) (by rfl) (by rfl) (by rfl) (Nat.le_of_ble_eq_true rfl),
  fun _ _ _ _ _ _ _ => F_put mq61 h61_43 (Or.inl ⟨(rfl : _ = some (29, 0, 8, 7)), Or.inr ⟨by decide, rfl⟩⟩),
  fun _ _ _ _ _ _ => (mFr_S mq61 h61_46).trans rfl,
  fun _ _ _ _ _ => (mFr_S mq61 h61_47).trans rfl,
  fun _ _ _ _ _ _ _ => F_put mq61 h61_51 (Or.inl ⟨(rfl : _ = some (34, 0, 8, 9)), Or.inr ⟨by decide, rfl⟩⟩),
  fun _ _ _ _ _ _ => (mFr_S mq61 h61_54).trans rfl,
  fun _ _ _ _ _ _ => (mFr_S mq61 h61_58).trans rfl,
  fun _ _ b s0 s1 _ _ => F_callV (as := []) (rest := [.ref s0, .ref s1]) mq61 (Or.inr h61_59) (rfl : _ = some (40, 6, 7, 5)) (Or.inr ⟨h61_59, by decide⟩) (by rfl) (by rfl) (by rfl) (Nat.le_of_ble_eq_true rfl),
  fun _ _ _ _ _ _ _ => F_put mq61 h61_62 (Or.inl ⟨(rfl : _ = some (41, 0, 8, 11)), Or.inr ⟨by decide, rfl⟩⟩),
  fun _ _ _ _ _ _ => (mFr_S mq61 h61_65).trans rfl,
  fun _ _ _ _ _ _ => (mFr_S mq61 h61_69).trans rfl,
  fun _ _ b s0 s1 _ _ => F_callV (as := []) (rest := [.ref s0, .ref s1]) mq61 (Or.inr h61_70) (rfl : _ = some (40, 6, 7, 5)) (Or.inr ⟨h61_70, by decide⟩) (by rfl) (by rfl) (by rfl) (Nat.le_of_ble_eq_true rfl),
  fun _ _ _ _ _ _ _ => F_put mq61 h61_73 (Or.inl ⟨(rfl : _ = some (45, 0, 8, 12)), Or.inr ⟨by decide, rfl⟩⟩),
  fun _ _ _ _ _ _ => (mFr_S mq61 h61_76).trans rfl,
  fun _ _ _ _ _ => (mFr_S mq61 h61_77).trans rfl,
  fun _ _ _ _ _ _ _ => F_put mq61 h61_81 (Or.inl ⟨(rfl : _ = some (48, 0, 8, 13)), Or.inr ⟨by decide, rfl⟩⟩),
  fun _ _ _ _ _ _ => (mFr_S mq61 h61_84).trans rfl,
  fun _ _ _ _ _ => (mFr_S mq61 h61_85).trans rfl,
  fun _ _ _ _ _ _ _ => F_put mq61 h61_89 (Or.inl ⟨(rfl : _ = some (52, 0, 8, 14)), Or.inr ⟨by decide, rfl⟩⟩),
  fun _ _ _ _ _ => (mFr_S mq61 h61_92).trans rfl,
  fun _ _ _ _ _ _ _ hm => (mFr_S mq61 h61_93).trans (by simp only [mgo.eq_1, mstep, mi1, ml1, mast, mst, mst2, mprev, List.length_cons, List.length_nil, List.getElem?_cons_succ, List.getElem?_cons_zero, hm]; rfl)⟩
theorem E61_94 : (∀ (d : Nat) (l0 : Option Value) (x : Int32) (st : List Value) (h : MH) (P : MP), mFr d 61 94 [l0, some (.int x)] st h P = mFr d 61 95 [l0, some (.int x)] (.int x :: st) h P) ∧
  (∀ (d : Nat) (l1 : Option Value) (x : Nat) (st : List Value) (h : MH) (P : MP), mFr d 61 95 [some (.ref x), l1] st h P = mFr d 61 96 [some (.ref x), l1] (.ref x :: st) h P) ∧
  (∀ (d : Nat) (loc : List (Option Value)) (a : Nat) (st : List Value) (h : MH) (P : MP), mFr d 61 96 loc (.ref a :: st) h P = pget h a 8 0 (fun v => mFr d 61 99 loc (v :: st) h P)) ∧
  (∀ (d : Nat) (loc : List (Option Value)) (a : Nat) (st : List Value) (h : MH) (P : MP), mFr d 61 99 loc (.ref a :: st) h P = palen h a (fun n => mFr d 61 100 loc (.int (Int32.ofNat n) :: st) h P)) ∧
  (∀ (d : Nat) (loc : List (Option Value)) (x y : Int32) (st : List Value) (h : MH) (P : MP), mFr d 61 100 loc (.int y :: .int x :: st) h P = if x < y then mFr d 61 103 loc (st) h P else mFr d 61 123 loc (st) h P) := ⟨fun _ _ _ _ _ _ => (mFr_S mq61 h61_94).trans rfl,
  fun _ _ _ _ _ _ => (mFr_S mq61 h61_95).trans rfl,
  fun _ _ _ _ _ _ => F_get mq61 h61_96 (Or.inl (rfl : _ = some (11, 0, 8, 0))),
  fun _ _ _ _ _ _ => F_alen mq61 h61_99,
  fun _ _ _ _ _ _ _ => (F_icmp 123 mq61 h61_100 (by decide)).trans mif_ge⟩
theorem E61_103 : (∀ (d : Nat) (l1 : Option Value) (x : Nat) (st : List Value) (h : MH) (P : MP), mFr d 61 103 [some (.ref x), l1] st h P = mFr d 61 104 [some (.ref x), l1] (.ref x :: st) h P) ∧
  (∀ (d : Nat) (loc : List (Option Value)) (a : Nat) (st : List Value) (h : MH) (P : MP), mFr d 61 104 loc (.ref a :: st) h P = pget h a 8 0 (fun v => mFr d 61 107 loc (v :: st) h P)) ∧
  (∀ (d : Nat) (l0 : Option Value) (x : Int32) (st : List Value) (h : MH) (P : MP), mFr d 61 107 [l0, some (.int x)] st h P = mFr d 61 108 [l0, some (.int x)] (.int x :: st) h P) ∧
  (∀ (d : Nat) (loc : List (Option Value)) (x : Nat) (st : List Value) (h : MH) (P : MP), mFr d 61 111 loc (.ref x :: st) h P = mFr d 61 112 loc (.ref x :: .ref x :: st) h P) ∧
  (∀ (d : Nat) (l0 : Option Value) (x : Int32) (st : List Value) (h : MH) (P : MP), mFr d 61 112 [l0, some (.int x)] st h P = mFr d 61 113 [l0, some (.int x)] (.int x :: st) h P) ∧
  (∀ (d : Nat) (loc : List (Option Value)) (b : Nat) (a0 : Int32) (s0 : Nat) (s1 : Int32) (s2 : Nat) (h : MH) (P : MP), mFr d 61 113 loc ((.int a0) :: .ref b :: [.ref s0, .int s1, .ref s2]) h P = if mrcv h b 5 = true then mRun d 29 [.ref b, .int a0] h (fun v h' => mFr d 61 116 loc (v.toList ++ [.ref s0, .int s1, .ref s2]) h' P) else False) ∧
  (∀ (d : Nat) (l0 : Option Value) (x : Int32) (st : List Value) (h : MH) (P : MP), mnl l0 = true → mFr d 61 117 [l0, some (.int x)] st h P = mFr d 61 120 [l0, some (.int (x + 1))] (st) h P) ∧
  (∀ (d : Nat) (loc : List (Option Value)) (st : List Value) (h : MH) (P : MP), mFr d 61 120 loc st h P = mFr d 61 94 loc (st) h P) := ⟨fun _ _ _ _ _ _ => (mFr_S mq61 h61_103).trans rfl,
  fun _ _ _ _ _ _ => F_get mq61 h61_104 (Or.inl (rfl : _ = some (11, 0, 8, 0))),
  fun _ _ _ _ _ _ => (mFr_S mq61 h61_107).trans rfl,
  fun _ _ _ _ _ _ => (mFr_S mq61 h61_111).trans rfl,
  fun _ _ _ _ _ _ => (mFr_S mq61 h61_112).trans rfl,
  fun _ _ b a0 s0 s1 s2 _ _ => F_callV (as := [.int a0]) (rest := [.ref s0, .int s1, .ref s2]) mq61 (Or.inr h61_113) (rfl : _ = some (55, 6, 29, 5)) (Or.inr ⟨h61_113, by decide⟩) (by rfl) (by rfl) (by rfl) (Nat.le_of_ble_eq_true rfl),
  fun _ _ _ _ _ _ hm => (mFr_S mq61 h61_117).trans (by simp only [mgo.eq_1, mstep, mld, mst, mprev, List.length_cons, List.length_nil, List.getElem?_cons_succ, List.getElem?_cons_zero, hm]; rfl),
  fun _ _ _ _ _ => F_goto 94 mq61 h61_120 (by decide)⟩
theorem E61_123 : (∀ (d : Nat) (loc : List (Option Value)) (st : List Value) (h : MH) (P : MP), mFr d 61 123 loc st h P = mFr d 61 124 loc (.int 0 :: st) h P) ∧
  (∀ (d : Nat) (l0 : Option Value) (l1 : Option Value) (x : Int32) (st : List Value) (h : MH) (P : MP), mnl l0 = true → mFr d 61 124 [l0, l1] (.int x :: st) h P = mFr d 61 125 [l0, some (.int x)] (st) h P) := ⟨fun _ _ _ _ _ => (mFr_S mq61 h61_123).trans rfl,
  fun _ _ _ _ _ _ _ hm => (mFr_S mq61 h61_124).trans (by simp only [mgo.eq_1, mstep, mi1, ml1, mast, mst, mst2, mprev, List.length_cons, List.length_nil, List.getElem?_cons_succ, List.getElem?_cons_zero, hm]; rfl)⟩
theorem E61_125 : (∀ (d : Nat) (l0 : Option Value) (x : Int32) (st : List Value) (h : MH) (P : MP), mFr d 61 125 [l0, some (.int x)] st h P = mFr d 61 126 [l0, some (.int x)] (.int x :: st) h P) ∧
  (∀ (d : Nat) (l1 : Option Value) (x : Nat) (st : List Value) (h : MH) (P : MP), mFr d 61 126 [some (.ref x), l1] st h P = mFr d 61 127 [some (.ref x), l1] (.ref x :: st) h P) ∧
  (∀ (d : Nat) (loc : List (Option Value)) (a : Nat) (st : List Value) (h : MH) (P : MP), mFr d 61 127 loc (.ref a :: st) h P = pget h a 8 9 (fun v => mFr d 61 130 loc (v :: st) h P)) ∧
  (∀ (d : Nat) (loc : List (Option Value)) (a : Nat) (st : List Value) (h : MH) (P : MP), mFr d 61 130 loc (.ref a :: st) h P = palen h a (fun n => mFr d 61 131 loc (.int (Int32.ofNat n) :: st) h P)) ∧
  (∀ (d : Nat) (loc : List (Option Value)) (x y : Int32) (st : List Value) (h : MH) (P : MP), mFr d 61 131 loc (.int y :: .int x :: st) h P = if x < y then mFr d 61 134 loc (st) h P else mFr d 61 153 loc (st) h P) := ⟨fun _ _ _ _ _ _ => (mFr_S mq61 h61_125).trans rfl,
  fun _ _ _ _ _ _ => (mFr_S mq61 h61_126).trans rfl,
  fun _ _ _ _ _ _ => F_get mq61 h61_127 (Or.inl (rfl : _ = some (34, 0, 8, 9))),
  fun _ _ _ _ _ _ => F_alen mq61 h61_130,
  fun _ _ _ _ _ _ _ => (F_icmp 153 mq61 h61_131 (by decide)).trans mif_ge⟩
theorem E61_134 : (∀ (d : Nat) (l1 : Option Value) (x : Nat) (st : List Value) (h : MH) (P : MP), mFr d 61 134 [some (.ref x), l1] st h P = mFr d 61 135 [some (.ref x), l1] (.ref x :: st) h P) ∧
  (∀ (d : Nat) (loc : List (Option Value)) (a : Nat) (st : List Value) (h : MH) (P : MP), mFr d 61 135 loc (.ref a :: st) h P = pget h a 8 9 (fun v => mFr d 61 138 loc (v :: st) h P)) ∧
  (∀ (d : Nat) (l0 : Option Value) (x : Int32) (st : List Value) (h : MH) (P : MP), mFr d 61 138 [l0, some (.int x)] st h P = mFr d 61 139 [l0, some (.int x)] (.int x :: st) h P) ∧
  (∀ (d : Nat) (loc : List (Option Value)) (x : Nat) (st : List Value) (h : MH) (P : MP), mFr d 61 142 loc (.ref x :: st) h P = mFr d 61 143 loc (.ref x :: .ref x :: st) h P) ∧
  (∀ (d : Nat) (loc : List (Option Value)) (b : Nat) (s0 : Nat) (s1 : Int32) (s2 : Nat) (h : MH) (P : MP), mFr d 61 143 loc (.ref b :: [.ref s0, .int s1, .ref s2]) h P = if mrcv h b 3 = true then mRun d 21 [.ref b] h (fun v h' => mFr d 61 146 loc (v.toList ++ [.ref s0, .int s1, .ref s2]) h' P) else False) ∧
  (∀ (d : Nat) (l0 : Option Value) (x : Int32) (st : List Value) (h : MH) (P : MP), mnl l0 = true → mFr d 61 147 [l0, some (.int x)] st h P = mFr d 61 150 [l0, some (.int (x + 1))] (st) h P) ∧
  (∀ (d : Nat) (loc : List (Option Value)) (st : List Value) (h : MH) (P : MP), mFr d 61 150 loc st h P = mFr d 61 125 loc (st) h P) := ⟨fun _ _ _ _ _ _ => (mFr_S mq61 h61_134).trans rfl,
  fun _ _ _ _ _ _ => F_get mq61 h61_135 (Or.inl (rfl : _ = some (34, 0, 8, 9))),
  fun _ _ _ _ _ _ => (mFr_S mq61 h61_138).trans rfl,
  fun _ _ _ _ _ _ => (mFr_S mq61 h61_142).trans rfl,
  fun _ _ b s0 s1 s2 _ _ => F_callV (as := []) (rest := [.ref s0, .int s1, .ref s2]) mq61 (Or.inr h61_143) (rfl : _ = some (58, 6, 21, 5)) (Or.inr ⟨h61_143, by decide⟩) (by rfl) (by rfl) (by rfl) (Nat.le_of_ble_eq_true rfl),
  fun _ _ _ _ _ _ hm => (mFr_S mq61 h61_147).trans (by simp only [mgo.eq_1, mstep, mld, mst, mprev, List.length_cons, List.length_nil, List.getElem?_cons_succ, List.getElem?_cons_zero, hm]; rfl),
  fun _ _ _ _ _ => F_goto 125 mq61 h61_150 (by decide)⟩
theorem E61_153 : (∀ (d : Nat) (l1 : Option Value) (x : Nat) (st : List Value) (h : MH) (P : MP), mFr d 61 153 [some (.ref x), l1] st h P = mFr d 61 154 [some (.ref x), l1] (.ref x :: st) h P) ∧
  (∀ (d : Nat) (loc : List (Option Value)) (x : Nat) (st : List Value) (h : MH) (P : MP), mFr d 61 157 loc (.ref x :: st) h P = mFr d 61 158 loc (.ref x :: .ref x :: st) h P) ∧
  (∀ (d : Nat) (l1 : Option Value) (x : Nat) (st : List Value) (h : MH) (P : MP), mFr d 61 158 [some (.ref x), l1] st h P = mFr d 61 159 [some (.ref x), l1] (.ref x :: st) h P) ∧
  (∀ (d : Nat) (loc : List (Option Value)) (a : Nat) (st : List Value) (h : MH) (P : MP), mFr d 61 159 loc (.ref a :: st) h P = pget h a 8 1 (fun v => mFr d 61 162 loc (v :: st) h P)) ∧
  (∀ (d : Nat) (l1 : Option Value) (x : Nat) (st : List Value) (h : MH) (P : MP), mFr d 61 162 [some (.ref x), l1] st h P = mFr d 61 163 [some (.ref x), l1] (.ref x :: st) h P) ∧
  (∀ (d : Nat) (loc : List (Option Value)) (a : Nat) (st : List Value) (h : MH) (P : MP), mFr d 61 163 loc (.ref a :: st) h P = pget h a 8 0 (fun v => mFr d 61 166 loc (v :: st) h P)) ∧
  (∀ (d : Nat) (loc : List (Option Value)) (st : List Value) (h : MH) (P : MP), mFr d 61 166 loc st h P = mFr d 61 167 loc (.int 0 :: st) h P) ∧
  (∀ (d : Nat) (loc : List (Option Value)) (a : Nat) (i : Int32) (st : List Value) (h : MH) (P : MP), mFr d 61 167 loc (.int i :: .ref a :: st) h P = paal h a i (fun v => mFr d 61 168 loc (v :: st) h P)) ∧
  (∀ (d : Nat) (loc : List (Option Value)) (b : Nat) (a0 : Nat) (a1 : Nat) (s0 : Nat) (s1 : Nat) (h : MH) (P : MP), mFr d 61 168 loc ((.ref a1) :: (.ref a0) :: .ref b :: [.ref s0, .ref s1]) h P = if mrcv h b 6 = true then mRun d 37 [.ref b, .ref a0, .ref a1] h (fun v h' => mFr d 61 171 loc (v.toList ++ [.ref s0, .ref s1]) h' P) else False) ∧
  (∀ (d : Nat) (loc : List (Option Value)) (a : Nat) (x : Nat) (st : List Value) (h : MH) (P : MP), mFr d 61 171 loc (.ref x :: .ref a :: st) h P = pput h a 8 2 (.ref x) (fun h' => mFr d 61 174 loc (st) h' P)) ∧
  (∀ (d : Nat) (loc : List (Option Value)) (st : List Value) (h : MH) (P : MP), mFr d 61 174 loc st h P = mFr d 61 175 loc (.int 0 :: st) h P) ∧
  (∀ (d : Nat) (l0 : Option Value) (l1 : Option Value) (x : Int32) (st : List Value) (h : MH) (P : MP), mnl l0 = true → mFr d 61 175 [l0, l1] (.int x :: st) h P = mFr d 61 176 [l0, some (.int x)] (st) h P) := ⟨fun _ _ _ _ _ _ => (mFr_S mq61 h61_153).trans rfl,
  fun _ _ _ _ _ _ => (mFr_S mq61 h61_157).trans rfl,
  fun _ _ _ _ _ _ => (mFr_S mq61 h61_158).trans rfl,
  fun _ _ _ _ _ _ => F_get mq61 h61_159 (Or.inl (rfl : _ = some (18, 0, 8, 1))),
  fun _ _ _ _ _ _ => (mFr_S mq61 h61_162).trans rfl,
  fun _ _ _ _ _ _ => F_get mq61 h61_163 (Or.inl (rfl : _ = some (11, 0, 8, 0))),
  fun _ _ _ _ _ => (mFr_S mq61 h61_166).trans rfl,
  fun _ _ _ _ _ _ _ => F_aald mq61 h61_167,
  fun _ _ b a0 a1 s0 s1 _ _ => F_callV (as := [.ref a0, .ref a1]) (rest := [.ref s0, .ref s1]) mq61 (Or.inr h61_168) (rfl : _ = some (61, 6, 37, 5)) (Or.inr ⟨h61_168, by decide⟩) (by rfl) (by rfl) (by rfl) (Nat.le_of_ble_eq_true rfl),
  fun _ _ _ _ _ _ _ => F_put mq61 h61_171 (Or.inl ⟨(rfl : _ = some (64, 0, 8, 2)), Or.inr ⟨by decide, rfl⟩⟩),
  fun _ _ _ _ _ => (mFr_S mq61 h61_174).trans rfl,
  fun _ _ _ _ _ _ _ hm => (mFr_S mq61 h61_175).trans (by simp only [mgo.eq_1, mstep, mi1, ml1, mast, mst, mst2, mprev, List.length_cons, List.length_nil, List.getElem?_cons_succ, List.getElem?_cons_zero, hm]; rfl)⟩
theorem E61_176 : (∀ (d : Nat) (l0 : Option Value) (x : Int32) (st : List Value) (h : MH) (P : MP), mFr d 61 176 [l0, some (.int x)] st h P = mFr d 61 177 [l0, some (.int x)] (.int x :: st) h P) ∧
  (∀ (d : Nat) (loc : List (Option Value)) (st : List Value) (h : MH) (P : MP), mFr d 61 177 loc st h P = mFr d 61 179 loc (.ref 1010 :: st) h P) ∧
  (∀ (d : Nat) (loc : List (Option Value)) (b : Nat) (s0 : Int32) (h : MH) (P : MP), mFr d 61 179 loc (.ref b :: [.int s0]) h P = if mrcv h b 10 = true then mRun d 192 [.ref b] h (fun v h' => mFr d 61 182 loc (v.toList ++ [.int s0]) h' P) else False) ∧
  (∀ (d : Nat) (loc : List (Option Value)) (x y : Int32) (st : List Value) (h : MH) (P : MP), mFr d 61 182 loc (.int y :: .int x :: st) h P = if x < y then mFr d 61 185 loc (st) h P else mFr d 61 205 loc (st) h P) := ⟨fun _ _ _ _ _ _ => (mFr_S mq61 h61_176).trans rfl,
  fun _ _ _ _ _ => (mFr_S mq61 h61_177).trans rfl,
  fun _ _ b s0 _ _ => F_callV (as := []) (rest := [.int s0]) mq61 (Or.inl h61_179) (rfl : _ = some (70, 6, 192, 0)) (Or.inl ⟨h61_179, by decide⟩) (by rfl) (by rfl) (by rfl) (Nat.le_of_ble_eq_true rfl),
  fun _ _ _ _ _ _ _ => (F_icmp 205 mq61 h61_182 (by decide)).trans mif_ge⟩
theorem E61_185 : (∀ (d : Nat) (l1 : Option Value) (x : Nat) (st : List Value) (h : MH) (P : MP), mFr d 61 185 [some (.ref x), l1] st h P = mFr d 61 186 [some (.ref x), l1] (.ref x :: st) h P) ∧
  (∀ (d : Nat) (loc : List (Option Value)) (a : Nat) (st : List Value) (h : MH) (P : MP), mFr d 61 186 loc (.ref a :: st) h P = pget h a 8 1 (fun v => mFr d 61 189 loc (v :: st) h P)) ∧
  (∀ (d : Nat) (loc : List (Option Value)) (st : List Value) (h : MH) (P : MP), mFr d 61 189 loc st h P = mFr d 61 191 loc (.ref 1010 :: st) h P) ∧
  (∀ (d : Nat) (l0 : Option Value) (x : Int32) (st : List Value) (h : MH) (P : MP), mFr d 61 191 [l0, some (.int x)] st h P = mFr d 61 192 [l0, some (.int x)] (.int x :: st) h P) ∧
  (∀ (d : Nat) (loc : List (Option Value)) (b : Nat) (a0 : Int32) (s0 : Nat) (h : MH) (P : MP), mFr d 61 192 loc ((.int a0) :: .ref b :: [.ref s0]) h P = if mrcv h b 10 = true then mRun d 193 [.ref b, .int a0] h (fun v h' => mFr d 61 195 loc (v.toList ++ [.ref s0]) h' P) else False) ∧
  (∀ (d : Nat) (loc : List (Option Value)) (b : Nat) (a0 : Int32) (h : MH) (P : MP), mFr d 61 195 loc ((.int a0) :: .ref b :: []) h P = if mrcv h b 4 = true then mRun d 27 [.ref b, .int a0] h (fun v h' => mFr d 61 198 loc (v.toList ++ []) h' P) else False) ∧
  (∀ (d : Nat) (loc : List (Option Value)) (x : Int32) (st : List Value) (h : MH) (P : MP), mFr d 61 198 loc (.int x :: st) h P = mFr d 61 199 loc (st) h P) ∧
  (∀ (d : Nat) (l0 : Option Value) (x : Int32) (st : List Value) (h : MH) (P : MP), mnl l0 = true → mFr d 61 199 [l0, some (.int x)] st h P = mFr d 61 202 [l0, some (.int (x + 1))] (st) h P) ∧
  (∀ (d : Nat) (loc : List (Option Value)) (st : List Value) (h : MH) (P : MP), mFr d 61 202 loc st h P = mFr d 61 176 loc (st) h P) := ⟨fun _ _ _ _ _ _ => (mFr_S mq61 h61_185).trans rfl,
  fun _ _ _ _ _ _ => F_get mq61 h61_186 (Or.inl (rfl : _ = some (18, 0, 8, 1))),
  fun _ _ _ _ _ => (mFr_S mq61 h61_189).trans rfl,
  fun _ _ _ _ _ _ => (mFr_S mq61 h61_191).trans rfl,
  fun _ _ b a0 s0 _ _ => F_callV (as := [.int a0]) (rest := [.ref s0]) mq61 (Or.inl h61_192) (rfl : _ = some (76, 6, 193, 0)) (Or.inl ⟨h61_192, by decide⟩) (by rfl) (by rfl) (by rfl) (Nat.le_of_ble_eq_true rfl),
  fun _ _ b a0 _ _ => F_callV (as := [.int a0]) (rest := []) mq61 (Or.inl h61_195) (rfl : _ = some (80, 6, 27, 1)) (Or.inl ⟨h61_195, by decide⟩) (by rfl) (by rfl) (by rfl) (Nat.le_of_ble_eq_true rfl),
  fun _ _ _ _ _ _ => (mFr_S mq61 h61_198).trans rfl,
  fun _ _ _ _ _ _ hm => (mFr_S mq61 h61_199).trans (by simp only [mgo.eq_1, mstep, mld, mst, mprev, List.length_cons, List.length_nil, List.getElem?_cons_succ, List.getElem?_cons_zero, hm]; rfl),
  fun _ _ _ _ _ => F_goto 176 mq61 h61_202 (by decide)⟩
theorem E61_205 : (∀ (d : Nat) (l1 : Option Value) (x : Nat) (st : List Value) (h : MH) (P : MP), mFr d 61 205 [some (.ref x), l1] st h P = mFr d 61 206 [some (.ref x), l1] (.ref x :: st) h P) ∧
  (∀ (d : Nat) (loc : List (Option Value)) (a : Nat) (st : List Value) (h : MH) (P : MP), mFr d 61 206 loc (.ref a :: st) h P = pget h a 8 2 (fun v => mFr d 61 209 loc (v :: st) h P)) ∧
  (∀ (d : Nat) (l1 : Option Value) (x : Nat) (st : List Value) (h : MH) (P : MP), mFr d 61 209 [some (.ref x), l1] st h P = mFr d 61 210 [some (.ref x), l1] (.ref x :: st) h P) ∧
  (∀ (d : Nat) (loc : List (Option Value)) (a : Nat) (st : List Value) (h : MH) (P : MP), mFr d 61 210 loc (.ref a :: st) h P = pget h a 8 0 (fun v => mFr d 61 213 loc (v :: st) h P)) ∧
  (∀ (d : Nat) (loc : List (Option Value)) (st : List Value) (h : MH) (P : MP), mFr d 61 213 loc st h P = mFr d 61 214 loc (.int 0 :: st) h P) ∧
  (∀ (d : Nat) (loc : List (Option Value)) (a : Nat) (i : Int32) (st : List Value) (h : MH) (P : MP), mFr d 61 214 loc (.int i :: .ref a :: st) h P = paal h a i (fun v => mFr d 61 215 loc (v :: st) h P)) ∧
  (∀ (d : Nat) (loc : List (Option Value)) (b : Nat) (a0 : Nat) (h : MH) (P : MP), mFr d 61 215 loc ((.ref a0) :: .ref b :: []) h P = if mrcv h b 6 = true then mRun d 38 [.ref b, .ref a0] h (fun v h' => mFr d 61 218 loc (v.toList ++ []) h' P) else False) ∧
  (∀ (d : Nat) (loc : List (Option Value)) (x : Int32) (st : List Value) (h : MH) (P : MP), mFr d 61 218 loc (.int x :: st) h P = mFr d 61 219 loc (st) h P) ∧
  (∀ (d : Nat) (l1 : Option Value) (x : Nat) (st : List Value) (h : MH) (P : MP), mFr d 61 219 [some (.ref x), l1] st h P = mFr d 61 220 [some (.ref x), l1] (.ref x :: st) h P) ∧
  (∀ (d : Nat) (loc : List (Option Value)) (a : Nat) (st : List Value) (h : MH) (P : MP), mFr d 61 220 loc (.ref a :: st) h P = pget h a 8 1 (fun v => mFr d 61 223 loc (v :: st) h P)) ∧
  (∀ (d : Nat) (loc : List (Option Value)) (st : List Value) (h : MH) (P : MP), mFr d 61 223 loc st h P = mFr d 61 224 loc (.int 0 :: st) h P) ∧
  (∀ (d : Nat) (loc : List (Option Value)) (a : Nat) (x : Int32) (st : List Value) (h : MH) (P : MP), mFr d 61 224 loc (.int x :: .ref a :: st) h P = pput h a 4 1 (.int x) (fun h' => mFr d 61 227 loc (st) h' P)) ∧
  (∀ (d : Nat) (l1 : Option Value) (x : Nat) (st : List Value) (h : MH) (P : MP), mFr d 61 227 [some (.ref x), l1] st h P = mFr d 61 228 [some (.ref x), l1] (.ref x :: st) h P) ∧
  (∀ (d : Nat) (loc : List (Option Value)) (st : List Value) (h : MH) (P : MP), mFr d 61 228 loc st h P = mFr d 61 229 loc (.int 1 :: st) h P) ∧
  (∀ (d : Nat) (loc : List (Option Value)) (a : Nat) (x : Int32) (st : List Value) (h : MH) (P : MP), mFr d 61 229 loc (.int x :: .ref a :: st) h P = pput h a 8 3 (.int x) (fun h' => mFr d 61 232 loc (st) h' P)) ∧
  (∀ (d : Nat) (l1 : Option Value) (x : Nat) (st : List Value) (h : MH) (P : MP), mFr d 61 232 [some (.ref x), l1] st h P = mFr d 61 233 [some (.ref x), l1] (.ref x :: st) h P) ∧
  (∀ (d : Nat) (loc : List (Option Value)) (x : Nat) (st : List Value) (h : MH) (P : MP), mFr d 61 236 loc (.ref x :: st) h P = mFr d 61 237 loc (.ref x :: .ref x :: st) h P) ∧
  (∀ (d : Nat) (l1 : Option Value) (x : Nat) (st : List Value) (h : MH) (P : MP), mFr d 61 237 [some (.ref x), l1] st h P = mFr d 61 238 [some (.ref x), l1] (.ref x :: st) h P) ∧
  (∀ (d : Nat) (loc : List (Option Value)) (a : Nat) (st : List Value) (h : MH) (P : MP), mFr d 61 238 loc (.ref a :: st) h P = pget h a 8 0 (fun v => mFr d 61 241 loc (v :: st) h P)) ∧
  (∀ (d : Nat) (loc : List (Option Value)) (st : List Value) (h : MH) (P : MP), mFr d 61 241 loc st h P = mFr d 61 242 loc (.int 0 :: st) h P) ∧
  (∀ (d : Nat) (loc : List (Option Value)) (a : Nat) (i : Int32) (st : List Value) (h : MH) (P : MP), mFr d 61 242 loc (.int i :: .ref a :: st) h P = paal h a i (fun v => mFr d 61 243 loc (v :: st) h P)) ∧
  (∀ (d : Nat) (loc : List (Option Value)) (b : Nat) (a0 : Nat) (s0 : Nat) (s1 : Nat) (h : MH) (P : MP), mFr d 61 243 loc ((.ref a0) :: .ref b :: [.ref s0, .ref s1]) h P = if mrcv h b 2 = true then mRun d 16 [.ref b, .ref a0] h (fun v h' => mFr d 61 246 loc (v.toList ++ [.ref s0, .ref s1]) h' P) else False) ∧
  (∀ (d : Nat) (loc : List (Option Value)) (a : Nat) (x : Nat) (st : List Value) (h : MH) (P : MP), mFr d 61 246 loc (.ref x :: .ref a :: st) h P = pput h a 8 4 (.ref x) (fun h' => mFr d 61 249 loc (st) h' P)) ∧
  (∀ (d : Nat) (l1 : Option Value) (x : Nat) (st : List Value) (h : MH) (P : MP), mFr d 61 249 [some (.ref x), l1] st h P = mFr d 61 250 [some (.ref x), l1] (.ref x :: st) h P) ∧
  (∀ (d : Nat) (loc : List (Option Value)) (x : Nat) (st : List Value) (h : MH) (P : MP), mFr d 61 253 loc (.ref x :: st) h P = mFr d 61 254 loc (.ref x :: .ref x :: st) h P) ∧
  (∀ (d : Nat) (l1 : Option Value) (x : Nat) (st : List Value) (h : MH) (P : MP), mFr d 61 254 [some (.ref x), l1] st h P = mFr d 61 255 [some (.ref x), l1] (.ref x :: st) h P) ∧
  (∀ (d : Nat) (loc : List (Option Value)) (a : Nat) (st : List Value) (h : MH) (P : MP), mFr d 61 255 loc (.ref a :: st) h P = pget h a 8 0 (fun v => mFr d 61 258 loc (v :: st) h P)) ∧
  (∀ (d : Nat) (loc : List (Option Value)) (st : List Value) (h : MH) (P : MP), mFr d 61 258 loc st h P = mFr d 61 259 loc (.int 0 :: st) h P) ∧
  (∀ (d : Nat) (loc : List (Option Value)) (a : Nat) (i : Int32) (st : List Value) (h : MH) (P : MP), mFr d 61 259 loc (.int i :: .ref a :: st) h P = paal h a i (fun v => mFr d 61 260 loc (v :: st) h P)) ∧
  (∀ (d : Nat) (loc : List (Option Value)) (b : Nat) (a0 : Nat) (s0 : Nat) (s1 : Nat) (h : MH) (P : MP), mFr d 61 260 loc ((.ref a0) :: .ref b :: [.ref s0, .ref s1]) h P = if mrcv h b 2 = true then mRun d 16 [.ref b, .ref a0] h (fun v h' => mFr d 61 263 loc (v.toList ++ [.ref s0, .ref s1]) h' P) else False) ∧
  (∀ (d : Nat) (loc : List (Option Value)) (a : Nat) (x : Nat) (st : List Value) (h : MH) (P : MP), mFr d 61 263 loc (.ref x :: .ref a :: st) h P = pput h a 8 6 (.ref x) (fun h' => mFr d 61 266 loc (st) h' P)) ∧
  (∀ (d : Nat) (l1 : Option Value) (x : Nat) (st : List Value) (h : MH) (P : MP), mFr d 61 266 [some (.ref x), l1] st h P = mFr d 61 267 [some (.ref x), l1] (.ref x :: st) h P) ∧
  (∀ (d : Nat) (loc : List (Option Value)) (x : Nat) (st : List Value) (h : MH) (P : MP), mFr d 61 270 loc (.ref x :: st) h P = mFr d 61 271 loc (.ref x :: .ref x :: st) h P) ∧
  (∀ (d : Nat) (l1 : Option Value) (x : Nat) (st : List Value) (h : MH) (P : MP), mFr d 61 271 [some (.ref x), l1] st h P = mFr d 61 272 [some (.ref x), l1] (.ref x :: st) h P) ∧
  (∀ (d : Nat) (loc : List (Option Value)) (a : Nat) (st : List Value) (h : MH) (P : MP), mFr d 61 272 loc (.ref a :: st) h P = pget h a 8 0 (fun v => mFr d 61 275 loc (v :: st) h P)) ∧
  (∀ (d : Nat) (loc : List (Option Value)) (st : List Value) (h : MH) (P : MP), mFr d 61 275 loc st h P = mFr d 61 276 loc (.int 0 :: st) h P) ∧
  (∀ (d : Nat) (loc : List (Option Value)) (a : Nat) (i : Int32) (st : List Value) (h : MH) (P : MP), mFr d 61 276 loc (.int i :: .ref a :: st) h P = paal h a i (fun v => mFr d 61 277 loc (v :: st) h P)) ∧
  (∀ (d : Nat) (loc : List (Option Value)) (b : Nat) (a0 : Nat) (s0 : Nat) (s1 : Nat) (h : MH) (P : MP), mFr d 61 277 loc ((.ref a0) :: .ref b :: [.ref s0, .ref s1]) h P = if mrcv h b 2 = true then mRun d 16 [.ref b, .ref a0] h (fun v h' => mFr d 61 280 loc (v.toList ++ [.ref s0, .ref s1]) h' P) else False) ∧
  (∀ (d : Nat) (loc : List (Option Value)) (a : Nat) (x : Nat) (st : List Value) (h : MH) (P : MP), mFr d 61 280 loc (.ref x :: .ref a :: st) h P = pput h a 8 10 (.ref x) (fun h' => mFr d 61 283 loc (st) h' P)) ∧
  (∀ (d : Nat) (loc : List (Option Value)) (h : MH) (P : MP), mFr d 61 283 loc [] h P = P none h) := ⟨fun _ _ _ _ _ _ => (mFr_S mq61 h61_205).trans rfl,
  fun _ _ _ _ _ _ => F_get mq61 h61_206 (Or.inl (rfl : _ = some (64, 0, 8, 2))),
  fun _ _ _ _ _ _ => (mFr_S mq61 h61_209).trans rfl,
  fun _ _ _ _ _ _ => F_get mq61 h61_210 (Or.inl (rfl : _ = some (11, 0, 8, 0))),
  fun _ _ _ _ _ => (mFr_S mq61 h61_213).trans rfl,
  fun _ _ _ _ _ _ _ => F_aald mq61 h61_214,
  fun _ _ b a0 _ _ => F_callV (as := [.ref a0]) (rest := []) mq61 (Or.inl h61_215) (rfl : _ = some (84, 6, 38, 1)) (Or.inl ⟨h61_215, by decide⟩) (by rfl) (by rfl) (by rfl) (Nat.le_of_ble_eq_true rfl),
  fun _ _ _ _ _ _ => (mFr_S mq61 h61_218).trans rfl,
  fun _ _ _ _ _ _ => (mFr_S mq61 h61_219).trans rfl,
  fun _ _ _ _ _ _ => F_get mq61 h61_220 (Or.inl (rfl : _ = some (18, 0, 8, 1))),
  fun _ _ _ _ _ => (mFr_S mq61 h61_223).trans rfl,
  fun _ _ _ _ _ _ _ => F_put mq61 h61_224 (Or.inr ⟨(rfl : _ = some (88, 1, 4, 1)), rfl⟩),
  fun _ _ _ _ _ _ => (mFr_S mq61 h61_227).trans rfl,
  fun _ _ _ _ _ => (mFr_S mq61 h61_228).trans rfl,
  fun _ _ _ _ _ _ _ => F_put mq61 h61_229 (Or.inl ⟨(rfl : _ = some (92, 0, 8, 3)), Or.inl rfl⟩),
  fun _ _ _ _ _ _ => (mFr_S mq61 h61_232).trans rfl,
  fun _ _ _ _ _ _ => (mFr_S mq61 h61_236).trans rfl,
  fun _ _ _ _ _ _ => (mFr_S mq61 h61_237).trans rfl,
  fun _ _ _ _ _ _ => F_get mq61 h61_238 (Or.inl (rfl : _ = some (11, 0, 8, 0))),
  fun _ _ _ _ _ => (mFr_S mq61 h61_241).trans rfl,
  fun _ _ _ _ _ _ _ => F_aald mq61 h61_242,
  fun _ _ b a0 s0 s1 _ _ => F_callV (as := [.ref a0]) (rest := [.ref s0, .ref s1]) mq61 (Or.inr h61_243) (rfl : _ = some (97, 6, 16, 5)) (Or.inr ⟨h61_243, by decide⟩) (by rfl) (by rfl) (by rfl) (Nat.le_of_ble_eq_true rfl),
  fun _ _ _ _ _ _ _ => F_put mq61 h61_246 (Or.inl ⟨(rfl : _ = some (100, 0, 8, 4)), Or.inr ⟨by decide, rfl⟩⟩),
  fun _ _ _ _ _ _ => (mFr_S mq61 h61_249).trans rfl,
  fun _ _ _ _ _ _ => (mFr_S mq61 h61_253).trans rfl,
  fun _ _ _ _ _ _ => (mFr_S mq61 h61_254).trans rfl,
  fun _ _ _ _ _ _ => F_get mq61 h61_255 (Or.inl (rfl : _ = some (11, 0, 8, 0))),
  fun _ _ _ _ _ => (mFr_S mq61 h61_258).trans rfl,
  fun _ _ _ _ _ _ _ => F_aald mq61 h61_259,
  fun _ _ b a0 s0 s1 _ _ => F_callV (as := [.ref a0]) (rest := [.ref s0, .ref s1]) mq61 (Or.inr h61_260) (rfl : _ = some (97, 6, 16, 5)) (Or.inr ⟨h61_260, by decide⟩) (by rfl) (by rfl) (by rfl) (Nat.le_of_ble_eq_true rfl),
  fun _ _ _ _ _ _ _ => F_put mq61 h61_263 (Or.inl ⟨(rfl : _ = some (104, 0, 8, 6)), Or.inr ⟨by decide, rfl⟩⟩),
  fun _ _ _ _ _ _ => (mFr_S mq61 h61_266).trans rfl,
  fun _ _ _ _ _ _ => (mFr_S mq61 h61_270).trans rfl,
  fun _ _ _ _ _ _ => (mFr_S mq61 h61_271).trans rfl,
  fun _ _ _ _ _ _ => F_get mq61 h61_272 (Or.inl (rfl : _ = some (11, 0, 8, 0))),
  fun _ _ _ _ _ => (mFr_S mq61 h61_275).trans rfl,
  fun _ _ _ _ _ _ _ => F_aald mq61 h61_276,
  fun _ _ b a0 s0 s1 _ _ => F_callV (as := [.ref a0]) (rest := [.ref s0, .ref s1]) mq61 (Or.inr h61_277) (rfl : _ = some (97, 6, 16, 5)) (Or.inr ⟨h61_277, by decide⟩) (by rfl) (by rfl) (by rfl) (Nat.le_of_ble_eq_true rfl),
  fun _ _ _ _ _ _ _ => F_put mq61 h61_280 (Or.inl ⟨(rfl : _ = some (107, 0, 8, 10)), Or.inr ⟨by decide, rfl⟩⟩),
  fun _ _ _ _ => (mFr_S mq61 h61_283).trans rfl⟩
theorem B61 : ∀ (d : Nat) (b : Nat) (h : MH) (P : MP), mRun (d + 1) 61 [.ref b] h P = mFr d 61 0 [some (.ref b), none] [] h P := fun _ _ _ _ => mRun_S mq61 (Nat.le_of_ble_eq_true rfl)
-- 62: PuncturesAreViews.set(III)I
def q62 : MI := (yX8_set, cX8_set, 5, (some .int), 8, 3)
theorem mq62 : mtab[62]? = some q62 := rfl
theorem h62_0 : mfetch q62.2.1 0 = some (.iload_n 1) := by decide +kernel
theorem h62_1 : mfetch q62.2.1 1 = some (.ifCond .lt 24) := by decide +kernel
theorem h62_4 : mfetch q62.2.1 4 = some (.iload_n 1) := by decide +kernel
theorem h62_5 : mfetch q62.2.1 5 = some (.getstatic 110) := by decide +kernel
theorem h62_8 : mfetch q62.2.1 8 = some (.arraylength) := by decide +kernel
theorem h62_9 : mfetch q62.2.1 9 = some (.if_icmp .ge 16) := by decide +kernel
theorem h62_12 : mfetch q62.2.1 12 = some (.iload_n 3) := by decide +kernel
theorem h62_13 : mfetch q62.2.1 13 = some (.ifCond .lt 12) := by decide +kernel
theorem h62_16 : mfetch q62.2.1 16 = some (.iload_n 3) := by decide +kernel
theorem h62_17 : mfetch q62.2.1 17 = some (.getstatic 110) := by decide +kernel
theorem h62_20 : mfetch q62.2.1 20 = some (.iload_n 1) := by decide +kernel
theorem h62_21 : mfetch q62.2.1 21 = some (.iaload) := by decide +kernel
theorem h62_22 : mfetch q62.2.1 22 = some (.if_icmp .le 6) := by decide +kernel
theorem h62_25 : mfetch q62.2.1 25 = some (.bipush (-2)) := by decide +kernel
theorem h62_27 : mfetch q62.2.1 27 = some (.ireturn) := by decide +kernel
theorem h62_28 : mfetch q62.2.1 28 = some (.aload_n 0) := by decide +kernel
theorem h62_29 : mfetch q62.2.1 29 = some (.iload_n 2) := by decide +kernel
theorem h62_30 : mfetch q62.2.1 30 = some (.iload_n 1) := by decide +kernel
theorem h62_31 : mfetch q62.2.1 31 = some (.invokevirtual 113) := by decide +kernel
theorem h62_34 : mfetch q62.2.1 34 = some (.istore 4) := by decide +kernel
theorem h62_36 : mfetch q62.2.1 36 = some (.iload 4) := by decide +kernel
theorem h62_38 : mfetch q62.2.1 38 = some (.bipush (-2)) := by decide +kernel
theorem h62_40 : mfetch q62.2.1 40 = some (.if_icmp .eq 10) := by decide +kernel
theorem h62_43 : mfetch q62.2.1 43 = some (.aload_n 0) := by decide +kernel
theorem h62_44 : mfetch q62.2.1 44 = some (.iload_n 1) := by decide +kernel
theorem h62_45 : mfetch q62.2.1 45 = some (.iload_n 2) := by decide +kernel
theorem h62_46 : mfetch q62.2.1 46 = some (.iload_n 3) := by decide +kernel
theorem h62_47 : mfetch q62.2.1 47 = some (.invokevirtual 117) := by decide +kernel
theorem h62_50 : mfetch q62.2.1 50 = some (.iload 4) := by decide +kernel
theorem h62_52 : mfetch q62.2.1 52 = some (.ireturn) := by decide +kernel
theorem E62_0 : (∀ (d : Nat) (l0 : Option Value) (l2 : Option Value) (l3 : Option Value) (l4 : Option Value) (x : Int32) (st : List Value) (h : MH) (P : MP), mFr d 62 0 [l0, some (.int x), l2, l3, l4] st h P = mFr d 62 1 [l0, some (.int x), l2, l3, l4] (.int x :: st) h P) ∧
  (∀ (d : Nat) (loc : List (Option Value)) (x : Int32) (st : List Value) (h : MH) (P : MP), mFr d 62 1 loc (.int x :: st) h P = if x < 0 then mFr d 62 25 loc (st) h P else mFr d 62 4 loc (st) h P) := ⟨fun _ _ _ _ _ _ _ _ _ => (mFr_S mq62 h62_0).trans rfl,
  fun _ _ _ _ _ _ => (F_ifz 25 mq62 h62_1 (by decide)).trans mif_lt⟩
theorem E62_4 : (∀ (d : Nat) (l0 : Option Value) (l2 : Option Value) (l3 : Option Value) (l4 : Option Value) (x : Int32) (st : List Value) (h : MH) (P : MP), mFr d 62 4 [l0, some (.int x), l2, l3, l4] st h P = mFr d 62 5 [l0, some (.int x), l2, l3, l4] (.int x :: st) h P) ∧
  (∀ (d : Nat) (loc : List (Option Value)) (st : List Value) (h : MH) (P : MP), mFr d 62 5 loc st h P = mFr d 62 8 loc (.ref 1000 :: st) h P) ∧
  (∀ (d : Nat) (loc : List (Option Value)) (a : Nat) (st : List Value) (h : MH) (P : MP), mFr d 62 8 loc (.ref a :: st) h P = palen h a (fun n => mFr d 62 9 loc (.int (Int32.ofNat n) :: st) h P)) ∧
  (∀ (d : Nat) (loc : List (Option Value)) (x y : Int32) (st : List Value) (h : MH) (P : MP), mFr d 62 9 loc (.int y :: .int x :: st) h P = if x < y then mFr d 62 12 loc (st) h P else mFr d 62 25 loc (st) h P) := ⟨fun _ _ _ _ _ _ _ _ _ => (mFr_S mq62 h62_4).trans rfl,
  fun _ _ _ _ _ => (mFr_S mq62 h62_5).trans rfl,
  fun _ _ _ _ _ _ => F_alen mq62 h62_8,
  fun _ _ _ _ _ _ _ => (F_icmp 25 mq62 h62_9 (by decide)).trans mif_ge⟩
theorem E62_12 : (∀ (d : Nat) (l0 : Option Value) (l1 : Option Value) (l2 : Option Value) (l4 : Option Value) (x : Int32) (st : List Value) (h : MH) (P : MP), mFr d 62 12 [l0, l1, l2, some (.int x), l4] st h P = mFr d 62 13 [l0, l1, l2, some (.int x), l4] (.int x :: st) h P) ∧
  (∀ (d : Nat) (loc : List (Option Value)) (x : Int32) (st : List Value) (h : MH) (P : MP), mFr d 62 13 loc (.int x :: st) h P = if x < 0 then mFr d 62 25 loc (st) h P else mFr d 62 16 loc (st) h P) := ⟨fun _ _ _ _ _ _ _ _ _ => (mFr_S mq62 h62_12).trans rfl,
  fun _ _ _ _ _ _ => (F_ifz 25 mq62 h62_13 (by decide)).trans mif_lt⟩
theorem E62_16 : (∀ (d : Nat) (l0 : Option Value) (l1 : Option Value) (l2 : Option Value) (l4 : Option Value) (x : Int32) (st : List Value) (h : MH) (P : MP), mFr d 62 16 [l0, l1, l2, some (.int x), l4] st h P = mFr d 62 17 [l0, l1, l2, some (.int x), l4] (.int x :: st) h P) ∧
  (∀ (d : Nat) (loc : List (Option Value)) (st : List Value) (h : MH) (P : MP), mFr d 62 17 loc st h P = mFr d 62 20 loc (.ref 1000 :: st) h P) ∧
  (∀ (d : Nat) (l0 : Option Value) (l2 : Option Value) (l3 : Option Value) (l4 : Option Value) (x : Int32) (st : List Value) (h : MH) (P : MP), mFr d 62 20 [l0, some (.int x), l2, l3, l4] st h P = mFr d 62 21 [l0, some (.int x), l2, l3, l4] (.int x :: st) h P) ∧
  (∀ (d : Nat) (loc : List (Option Value)) (a : Nat) (i : Int32) (st : List Value) (h : MH) (P : MP), mFr d 62 21 loc (.int i :: .ref a :: st) h P = pial h a i (fun x => mFr d 62 22 loc (.int x :: st) h P)) ∧
  (∀ (d : Nat) (loc : List (Option Value)) (x y : Int32) (st : List Value) (h : MH) (P : MP), mFr d 62 22 loc (.int y :: .int x :: st) h P = if y < x then mFr d 62 25 loc (st) h P else mFr d 62 28 loc (st) h P) := ⟨fun _ _ _ _ _ _ _ _ _ => (mFr_S mq62 h62_16).trans rfl,
  fun _ _ _ _ _ => (mFr_S mq62 h62_17).trans rfl,
  fun _ _ _ _ _ _ _ _ _ => (mFr_S mq62 h62_20).trans rfl,
  fun _ _ _ _ _ _ _ => F_iald mq62 h62_21,
  fun _ _ _ _ _ _ _ => (F_icmp 28 mq62 h62_22 (by decide)).trans mif_le⟩
theorem E62_25 : (∀ (d : Nat) (loc : List (Option Value)) (st : List Value) (h : MH) (P : MP), mFr d 62 25 loc st h P = mFr d 62 27 loc (.int (-2) :: st) h P) ∧
  (∀ (d : Nat) (loc : List (Option Value)) (x : Int32) (h : MH) (P : MP), mFr d 62 27 loc [.int x] h P = P (some (.int x)) h) := ⟨fun _ _ _ _ _ => (mFr_S mq62 h62_25).trans rfl,
  fun _ _ _ _ _ => F_ret mq62 h62_27 rfl rfl⟩
theorem E62_28 : (∀ (d : Nat) (l1 : Option Value) (l2 : Option Value) (l3 : Option Value) (l4 : Option Value) (x : Nat) (st : List Value) (h : MH) (P : MP), mFr d 62 28 [some (.ref x), l1, l2, l3, l4] st h P = mFr d 62 29 [some (.ref x), l1, l2, l3, l4] (.ref x :: st) h P) ∧
  (∀ (d : Nat) (l0 : Option Value) (l1 : Option Value) (l3 : Option Value) (l4 : Option Value) (x : Int32) (st : List Value) (h : MH) (P : MP), mFr d 62 29 [l0, l1, some (.int x), l3, l4] st h P = mFr d 62 30 [l0, l1, some (.int x), l3, l4] (.int x :: st) h P) ∧
  (∀ (d : Nat) (l0 : Option Value) (l2 : Option Value) (l3 : Option Value) (l4 : Option Value) (x : Int32) (st : List Value) (h : MH) (P : MP), mFr d 62 30 [l0, some (.int x), l2, l3, l4] st h P = mFr d 62 31 [l0, some (.int x), l2, l3, l4] (.int x :: st) h P) ∧
  (∀ (d : Nat) (loc : List (Option Value)) (b : Nat) (a0 : Int32) (a1 : Int32) (h : MH) (P : MP), mFr d 62 31 loc ((.int a1) :: (.int a0) :: .ref b :: []) h P = if mrcv h b 8 = true then mRun d 64 [.ref b, .int a0, .int a1] h (fun v h' => mFr d 62 34 loc (v.toList ++ []) h' P) else False) ∧
  (∀ (d : Nat) (l0 : Option Value) (l1 : Option Value) (l2 : Option Value) (l3 : Option Value) (l4 : Option Value) (x : Int32) (st : List Value) (h : MH) (P : MP), mnl l3 = true → mFr d 62 34 [l0, l1, l2, l3, l4] (.int x :: st) h P = mFr d 62 36 [l0, l1, l2, l3, some (.int x)] (st) h P) ∧
  (∀ (d : Nat) (l0 : Option Value) (l1 : Option Value) (l2 : Option Value) (l3 : Option Value) (x : Int32) (st : List Value) (h : MH) (P : MP), mFr d 62 36 [l0, l1, l2, l3, some (.int x)] st h P = mFr d 62 38 [l0, l1, l2, l3, some (.int x)] (.int x :: st) h P) ∧
  (∀ (d : Nat) (loc : List (Option Value)) (st : List Value) (h : MH) (P : MP), mFr d 62 38 loc st h P = mFr d 62 40 loc (.int (-2) :: st) h P) ∧
  (∀ (d : Nat) (loc : List (Option Value)) (x y : Int32) (st : List Value) (h : MH) (P : MP), mFr d 62 40 loc (.int y :: .int x :: st) h P = if x = y then mFr d 62 50 loc (st) h P else mFr d 62 43 loc (st) h P) := ⟨fun _ _ _ _ _ _ _ _ _ => (mFr_S mq62 h62_28).trans rfl,
  fun _ _ _ _ _ _ _ _ _ => (mFr_S mq62 h62_29).trans rfl,
  fun _ _ _ _ _ _ _ _ _ => (mFr_S mq62 h62_30).trans rfl,
  fun _ _ b a0 a1 _ _ => F_callV (as := [.int a0, .int a1]) (rest := []) mq62 (Or.inl h62_31) (rfl : _ = some (113, 6, 64, 0)) (Or.inl ⟨h62_31, by decide⟩) (by rfl) (by rfl) (by rfl) (Nat.le_of_ble_eq_true rfl),
  fun _ _ _ _ _ _ _ _ _ _ hm => (mFr_S mq62 h62_34).trans (by simp only [mgo.eq_1, mstep, mi1, ml1, mast, mst, mst2, mprev, List.length_cons, List.length_nil, List.getElem?_cons_succ, List.getElem?_cons_zero, hm]; rfl),
  fun _ _ _ _ _ _ _ _ _ => (mFr_S mq62 h62_36).trans rfl,
  fun _ _ _ _ _ => (mFr_S mq62 h62_38).trans rfl,
  fun _ _ _ _ _ _ _ => (F_icmp 50 mq62 h62_40 (by decide)).trans mif_eq⟩
theorem E62_43 : (∀ (d : Nat) (l1 : Option Value) (l2 : Option Value) (l3 : Option Value) (l4 : Option Value) (x : Nat) (st : List Value) (h : MH) (P : MP), mFr d 62 43 [some (.ref x), l1, l2, l3, l4] st h P = mFr d 62 44 [some (.ref x), l1, l2, l3, l4] (.ref x :: st) h P) ∧
  (∀ (d : Nat) (l0 : Option Value) (l2 : Option Value) (l3 : Option Value) (l4 : Option Value) (x : Int32) (st : List Value) (h : MH) (P : MP), mFr d 62 44 [l0, some (.int x), l2, l3, l4] st h P = mFr d 62 45 [l0, some (.int x), l2, l3, l4] (.int x :: st) h P) ∧
  (∀ (d : Nat) (l0 : Option Value) (l1 : Option Value) (l3 : Option Value) (l4 : Option Value) (x : Int32) (st : List Value) (h : MH) (P : MP), mFr d 62 45 [l0, l1, some (.int x), l3, l4] st h P = mFr d 62 46 [l0, l1, some (.int x), l3, l4] (.int x :: st) h P) ∧
  (∀ (d : Nat) (l0 : Option Value) (l1 : Option Value) (l2 : Option Value) (l4 : Option Value) (x : Int32) (st : List Value) (h : MH) (P : MP), mFr d 62 46 [l0, l1, l2, some (.int x), l4] st h P = mFr d 62 47 [l0, l1, l2, some (.int x), l4] (.int x :: st) h P) ∧
  (∀ (d : Nat) (loc : List (Option Value)) (b : Nat) (a0 : Int32) (a1 : Int32) (a2 : Int32) (h : MH) (P : MP), mFr d 62 47 loc ((.int a2) :: (.int a1) :: (.int a0) :: .ref b :: []) h P = if mrcv h b 8 = true then mRun d 66 [.ref b, .int a0, .int a1, .int a2] h (fun v h' => mFr d 62 50 loc (v.toList ++ []) h' P) else False) := ⟨fun _ _ _ _ _ _ _ _ _ => (mFr_S mq62 h62_43).trans rfl,
  fun _ _ _ _ _ _ _ _ _ => (mFr_S mq62 h62_44).trans rfl,
  fun _ _ _ _ _ _ _ _ _ => (mFr_S mq62 h62_45).trans rfl,
  fun _ _ _ _ _ _ _ _ _ => (mFr_S mq62 h62_46).trans rfl,
  fun _ _ b a0 a1 a2 _ _ => F_callV (as := [.int a0, .int a1, .int a2]) (rest := []) mq62 (Or.inl h62_47) (rfl : _ = some (117, 6, 66, 0)) (Or.inl ⟨h62_47, by decide⟩) (by rfl) (by rfl) (by rfl) (Nat.le_of_ble_eq_true rfl)⟩
theorem E62_50 : (∀ (d : Nat) (l0 : Option Value) (l1 : Option Value) (l2 : Option Value) (l3 : Option Value) (x : Int32) (st : List Value) (h : MH) (P : MP), mFr d 62 50 [l0, l1, l2, l3, some (.int x)] st h P = mFr d 62 52 [l0, l1, l2, l3, some (.int x)] (.int x :: st) h P) ∧
  (∀ (d : Nat) (loc : List (Option Value)) (x : Int32) (h : MH) (P : MP), mFr d 62 52 loc [.int x] h P = P (some (.int x)) h) := ⟨fun _ _ _ _ _ _ _ _ _ => (mFr_S mq62 h62_50).trans rfl,
  fun _ _ _ _ _ => F_ret mq62 h62_52 rfl rfl⟩
theorem B62 : ∀ (d : Nat) (b : Nat) (a0 : Int32) (a1 : Int32) (a2 : Int32) (h : MH) (P : MP), mRun (d + 1) 62 [.ref b, .int a0, .int a1, .int a2] h P = mFr d 62 0 [some (.ref b), some (.int a0), some (.int a1), some (.int a2), none] [] h P := fun _ _ _ _ _ _ _ => mRun_S mq62 (Nat.le_of_ble_eq_true rfl)
-- 63: PuncturesAreViews.rider(III)I
def q63 : MI := (yX8_rider, cX8_rider, 4, (some .int), 8, 3)
theorem mq63 : mtab[63]? = some q63 := rfl
theorem h63_0 : mfetch q63.2.1 0 = some (.iload_n 1) := by decide +kernel
theorem h63_1 : mfetch q63.2.1 1 = some (.ifCond .lt 23) := by decide +kernel
theorem h63_4 : mfetch q63.2.1 4 = some (.iload_n 1) := by decide +kernel
theorem h63_5 : mfetch q63.2.1 5 = some (.bipush 6) := by decide +kernel
theorem h63_7 : mfetch q63.2.1 7 = some (.if_icmp .ge 17) := by decide +kernel
theorem h63_10 : mfetch q63.2.1 10 = some (.iload_n 2) := by decide +kernel
theorem h63_11 : mfetch q63.2.1 11 = some (.invokestatic 121) := by decide +kernel
theorem h63_14 : mfetch q63.2.1 14 = some (.ifCond .eq 10) := by decide +kernel
theorem h63_17 : mfetch q63.2.1 17 = some (.iload_n 3) := by decide +kernel
theorem h63_18 : mfetch q63.2.1 18 = some (.invokestatic 121) := by decide +kernel
theorem h63_21 : mfetch q63.2.1 21 = some (.ifCond .ne 6) := by decide +kernel
theorem h63_24 : mfetch q63.2.1 24 = some (.bipush (-2)) := by decide +kernel
theorem h63_26 : mfetch q63.2.1 26 = some (.ireturn) := by decide +kernel
theorem h63_27 : mfetch q63.2.1 27 = some (.aload_n 0) := by decide +kernel
theorem h63_28 : mfetch q63.2.1 28 = some (.getfield 25) := by decide +kernel
theorem h63_31 : mfetch q63.2.1 31 = some (.iload_n 1) := by decide +kernel
theorem h63_32 : mfetch q63.2.1 32 = some (.iload_n 2) := by decide +kernel
theorem h63_33 : mfetch q63.2.1 33 = some (.iload_n 3) := by decide +kernel
theorem h63_34 : mfetch q63.2.1 34 = some (.invokevirtual 124) := by decide +kernel
theorem h63_37 : mfetch q63.2.1 37 = some (.ireturn) := by decide +kernel
theorem E63_0 : (∀ (d : Nat) (l0 : Option Value) (l2 : Option Value) (l3 : Option Value) (x : Int32) (st : List Value) (h : MH) (P : MP), mFr d 63 0 [l0, some (.int x), l2, l3] st h P = mFr d 63 1 [l0, some (.int x), l2, l3] (.int x :: st) h P) ∧
  (∀ (d : Nat) (loc : List (Option Value)) (x : Int32) (st : List Value) (h : MH) (P : MP), mFr d 63 1 loc (.int x :: st) h P = if x < 0 then mFr d 63 24 loc (st) h P else mFr d 63 4 loc (st) h P) := ⟨fun _ _ _ _ _ _ _ _ => (mFr_S mq63 h63_0).trans rfl,
  fun _ _ _ _ _ _ => (F_ifz 24 mq63 h63_1 (by decide)).trans mif_lt⟩
theorem E63_4 : (∀ (d : Nat) (l0 : Option Value) (l2 : Option Value) (l3 : Option Value) (x : Int32) (st : List Value) (h : MH) (P : MP), mFr d 63 4 [l0, some (.int x), l2, l3] st h P = mFr d 63 5 [l0, some (.int x), l2, l3] (.int x :: st) h P) ∧
  (∀ (d : Nat) (loc : List (Option Value)) (st : List Value) (h : MH) (P : MP), mFr d 63 5 loc st h P = mFr d 63 7 loc (.int 6 :: st) h P) ∧
  (∀ (d : Nat) (loc : List (Option Value)) (x y : Int32) (st : List Value) (h : MH) (P : MP), mFr d 63 7 loc (.int y :: .int x :: st) h P = if x < y then mFr d 63 10 loc (st) h P else mFr d 63 24 loc (st) h P) := ⟨fun _ _ _ _ _ _ _ _ => (mFr_S mq63 h63_4).trans rfl,
  fun _ _ _ _ _ => (mFr_S mq63 h63_5).trans rfl,
  fun _ _ _ _ _ _ _ => (F_icmp 24 mq63 h63_7 (by decide)).trans mif_ge⟩
theorem E63_10 : (∀ (d : Nat) (l0 : Option Value) (l1 : Option Value) (l3 : Option Value) (x : Int32) (st : List Value) (h : MH) (P : MP), mFr d 63 10 [l0, l1, some (.int x), l3] st h P = mFr d 63 11 [l0, l1, some (.int x), l3] (.int x :: st) h P) ∧
  (∀ (d : Nat) (loc : List (Option Value)) (a0 : Int32) (h : MH) (P : MP), mFr d 63 11 loc ((.int a0) :: []) h P = mRun d 65 [.int a0] h (fun v h' => mFr d 63 14 loc (v.toList ++ []) h' P)) ∧
  (∀ (d : Nat) (loc : List (Option Value)) (x : Int32) (st : List Value) (h : MH) (P : MP), mFr d 63 14 loc (.int x :: st) h P = if x = 0 then mFr d 63 24 loc (st) h P else mFr d 63 17 loc (st) h P) := ⟨fun _ _ _ _ _ _ _ _ => (mFr_S mq63 h63_10).trans rfl,
  fun _ _ a0 _ _ => F_callS (as := [.int a0]) (rest := []) mq63 h63_11 (rfl : _ = some (121, 6, 65, 2)) (by decide) (by rfl) (by rfl) (by rfl) (Nat.le_of_ble_eq_true rfl),
  fun _ _ _ _ _ _ => (F_ifz 24 mq63 h63_14 (by decide)).trans mif_eq⟩
theorem E63_17 : (∀ (d : Nat) (l0 : Option Value) (l1 : Option Value) (l2 : Option Value) (x : Int32) (st : List Value) (h : MH) (P : MP), mFr d 63 17 [l0, l1, l2, some (.int x)] st h P = mFr d 63 18 [l0, l1, l2, some (.int x)] (.int x :: st) h P) ∧
  (∀ (d : Nat) (loc : List (Option Value)) (a0 : Int32) (h : MH) (P : MP), mFr d 63 18 loc ((.int a0) :: []) h P = mRun d 65 [.int a0] h (fun v h' => mFr d 63 21 loc (v.toList ++ []) h' P)) ∧
  (∀ (d : Nat) (loc : List (Option Value)) (x : Int32) (st : List Value) (h : MH) (P : MP), mFr d 63 21 loc (.int x :: st) h P = if x = 0 then mFr d 63 24 loc (st) h P else mFr d 63 27 loc (st) h P) := ⟨fun _ _ _ _ _ _ _ _ => (mFr_S mq63 h63_17).trans rfl,
  fun _ _ a0 _ _ => F_callS (as := [.int a0]) (rest := []) mq63 h63_18 (rfl : _ = some (121, 6, 65, 2)) (by decide) (by rfl) (by rfl) (by rfl) (Nat.le_of_ble_eq_true rfl),
  fun _ _ _ _ _ _ => (F_ifz 27 mq63 h63_21 (by decide)).trans mif_ne⟩
theorem E63_24 : (∀ (d : Nat) (loc : List (Option Value)) (st : List Value) (h : MH) (P : MP), mFr d 63 24 loc st h P = mFr d 63 26 loc (.int (-2) :: st) h P) ∧
  (∀ (d : Nat) (loc : List (Option Value)) (x : Int32) (h : MH) (P : MP), mFr d 63 26 loc [.int x] h P = P (some (.int x)) h) := ⟨fun _ _ _ _ _ => (mFr_S mq63 h63_24).trans rfl,
  fun _ _ _ _ _ => F_ret mq63 h63_26 rfl rfl⟩
theorem E63_27 : (∀ (d : Nat) (l1 : Option Value) (l2 : Option Value) (l3 : Option Value) (x : Nat) (st : List Value) (h : MH) (P : MP), mFr d 63 27 [some (.ref x), l1, l2, l3] st h P = mFr d 63 28 [some (.ref x), l1, l2, l3] (.ref x :: st) h P) ∧
  (∀ (d : Nat) (loc : List (Option Value)) (a : Nat) (st : List Value) (h : MH) (P : MP), mFr d 63 28 loc (.ref a :: st) h P = pget h a 8 5 (fun v => mFr d 63 31 loc (v :: st) h P)) ∧
  (∀ (d : Nat) (l0 : Option Value) (l2 : Option Value) (l3 : Option Value) (x : Int32) (st : List Value) (h : MH) (P : MP), mFr d 63 31 [l0, some (.int x), l2, l3] st h P = mFr d 63 32 [l0, some (.int x), l2, l3] (.int x :: st) h P) ∧
  (∀ (d : Nat) (l0 : Option Value) (l1 : Option Value) (l3 : Option Value) (x : Int32) (st : List Value) (h : MH) (P : MP), mFr d 63 32 [l0, l1, some (.int x), l3] st h P = mFr d 63 33 [l0, l1, some (.int x), l3] (.int x :: st) h P) ∧
  (∀ (d : Nat) (l0 : Option Value) (l1 : Option Value) (l2 : Option Value) (x : Int32) (st : List Value) (h : MH) (P : MP), mFr d 63 33 [l0, l1, l2, some (.int x)] st h P = mFr d 63 34 [l0, l1, l2, some (.int x)] (.int x :: st) h P) ∧
  (∀ (d : Nat) (loc : List (Option Value)) (b : Nat) (a0 : Int32) (a1 : Int32) (a2 : Int32) (h : MH) (P : MP), mFr d 63 34 loc ((.int a2) :: (.int a1) :: (.int a0) :: .ref b :: []) h P = if mrcv h b 0 = true then mRun d 2 [.ref b, .int a0, .int a1, .int a2] h (fun v h' => mFr d 63 37 loc (v.toList ++ []) h' P) else False) ∧
  (∀ (d : Nat) (loc : List (Option Value)) (x : Int32) (h : MH) (P : MP), mFr d 63 37 loc [.int x] h P = P (some (.int x)) h) := ⟨fun _ _ _ _ _ _ _ _ => (mFr_S mq63 h63_27).trans rfl,
  fun _ _ _ _ _ _ => F_get mq63 h63_28 (Or.inl (rfl : _ = some (25, 0, 8, 5))),
  fun _ _ _ _ _ _ _ _ => (mFr_S mq63 h63_31).trans rfl,
  fun _ _ _ _ _ _ _ _ => (mFr_S mq63 h63_32).trans rfl,
  fun _ _ _ _ _ _ _ _ => (mFr_S mq63 h63_33).trans rfl,
  fun _ _ b a0 a1 a2 _ _ => F_callV (as := [.int a0, .int a1, .int a2]) (rest := []) mq63 (Or.inl h63_34) (rfl : _ = some (124, 6, 2, 1)) (Or.inl ⟨h63_34, by decide⟩) (by rfl) (by rfl) (by rfl) (Nat.le_of_ble_eq_true rfl),
  fun _ _ _ _ _ => F_ret mq63 h63_37 rfl rfl⟩
theorem B63 : ∀ (d : Nat) (b : Nat) (a0 : Int32) (a1 : Int32) (a2 : Int32) (h : MH) (P : MP), mRun (d + 1) 63 [.ref b, .int a0, .int a1, .int a2] h P = mFr d 63 0 [some (.ref b), some (.int a0), some (.int a1), some (.int a2)] [] h P := fun _ _ _ _ _ _ _ => mRun_S mq63 (Nat.le_of_ble_eq_true rfl)
-- 64: PuncturesAreViews.told(II)I
def q64 : MI := (yX8_told, cX8_told, 4, (some .int), 8, 2)
theorem mq64 : mtab[64]? = some q64 := rfl
theorem h64_0 : mfetch q64.2.1 0 = some (.iload_n 2) := by decide +kernel
theorem h64_1 : mfetch q64.2.1 1 = some (.ifCond .ne 11) := by decide +kernel
theorem h64_4 : mfetch q64.2.1 4 = some (.aload_n 0) := by decide +kernel
theorem h64_5 : mfetch q64.2.1 5 = some (.getfield 100) := by decide +kernel
theorem h64_8 : mfetch q64.2.1 8 = some (.getfield 128) := by decide +kernel
theorem h64_11 : mfetch q64.2.1 11 = some (.ireturn) := by decide +kernel
theorem h64_12 : mfetch q64.2.1 12 = some (.iload_n 2) := by decide +kernel
theorem h64_13 : mfetch q64.2.1 13 = some (.iconst 1) := by decide +kernel
theorem h64_14 : mfetch q64.2.1 14 = some (.if_icmp .ne 27) := by decide +kernel
theorem h64_17 : mfetch q64.2.1 17 = some (.iload_n 1) := by decide +kernel
theorem h64_18 : mfetch q64.2.1 18 = some (.ifCond .lt 20) := by decide +kernel
theorem h64_21 : mfetch q64.2.1 21 = some (.iload_n 1) := by decide +kernel
theorem h64_22 : mfetch q64.2.1 22 = some (.bipush 24) := by decide +kernel
theorem h64_24 : mfetch q64.2.1 24 = some (.if_icmp .ge 14) := by decide +kernel
theorem h64_27 : mfetch q64.2.1 27 = some (.aload_n 0) := by decide +kernel
theorem h64_28 : mfetch q64.2.1 28 = some (.getfield 100) := by decide +kernel
theorem h64_31 : mfetch q64.2.1 31 = some (.iload_n 1) := by decide +kernel
theorem h64_32 : mfetch q64.2.1 32 = some (.invokevirtual 131) := by decide +kernel
theorem h64_35 : mfetch q64.2.1 35 = some (.goto 5) := by decide +kernel
theorem h64_38 : mfetch q64.2.1 38 = some (.bipush (-2)) := by decide +kernel
theorem h64_40 : mfetch q64.2.1 40 = some (.ireturn) := by decide +kernel
theorem h64_41 : mfetch q64.2.1 41 = some (.aload_n 0) := by decide +kernel
theorem h64_42 : mfetch q64.2.1 42 = some (.getfield 25) := by decide +kernel
theorem h64_45 : mfetch q64.2.1 45 = some (.iload_n 1) := by decide +kernel
theorem h64_46 : mfetch q64.2.1 46 = some (.invokevirtual 135) := by decide +kernel
theorem h64_49 : mfetch q64.2.1 49 = some (.astore_n 3) := by decide +kernel
theorem h64_50 : mfetch q64.2.1 50 = some (.aload_n 3) := by decide +kernel
theorem h64_51 : mfetch q64.2.1 51 = some (.ifnonnull 6) := by decide +kernel
theorem h64_54 : mfetch q64.2.1 54 = some (.bipush (-2)) := by decide +kernel
theorem h64_56 : mfetch q64.2.1 56 = some (.ireturn) := by decide +kernel
theorem h64_57 : mfetch q64.2.1 57 = some (.iload_n 2) := by decide +kernel
theorem h64_58 : mfetch q64.2.1 58 = some (.tableswitch 107 2 10 #[50, 55, 60, 65, 70, 75, 80, 89, 98]) := by decide +kernel
theorem h64_108 : mfetch q64.2.1 108 = some (.aload_n 3) := by decide +kernel
theorem h64_109 : mfetch q64.2.1 109 = some (.getfield 139) := by decide +kernel
theorem h64_112 : mfetch q64.2.1 112 = some (.ireturn) := by decide +kernel
theorem h64_113 : mfetch q64.2.1 113 = some (.aload_n 3) := by decide +kernel
theorem h64_114 : mfetch q64.2.1 114 = some (.getfield 142) := by decide +kernel
theorem h64_117 : mfetch q64.2.1 117 = some (.ireturn) := by decide +kernel
theorem h64_118 : mfetch q64.2.1 118 = some (.aload_n 3) := by decide +kernel
theorem h64_119 : mfetch q64.2.1 119 = some (.getfield 145) := by decide +kernel
theorem h64_122 : mfetch q64.2.1 122 = some (.ireturn) := by decide +kernel
theorem h64_123 : mfetch q64.2.1 123 = some (.aload_n 3) := by decide +kernel
theorem h64_124 : mfetch q64.2.1 124 = some (.getfield 148) := by decide +kernel
theorem h64_127 : mfetch q64.2.1 127 = some (.ireturn) := by decide +kernel
theorem h64_128 : mfetch q64.2.1 128 = some (.aload_n 3) := by decide +kernel
theorem h64_129 : mfetch q64.2.1 129 = some (.getfield 151) := by decide +kernel
theorem h64_132 : mfetch q64.2.1 132 = some (.ireturn) := by decide +kernel
theorem h64_133 : mfetch q64.2.1 133 = some (.aload_n 3) := by decide +kernel
theorem h64_134 : mfetch q64.2.1 134 = some (.getfield 154) := by decide +kernel
theorem h64_137 : mfetch q64.2.1 137 = some (.ireturn) := by decide +kernel
theorem h64_138 : mfetch q64.2.1 138 = some (.aload_n 3) := by decide +kernel
theorem h64_139 : mfetch q64.2.1 139 = some (.aload_n 0) := by decide +kernel
theorem h64_140 : mfetch q64.2.1 140 = some (.getfield 100) := by decide +kernel
theorem h64_143 : mfetch q64.2.1 143 = some (.invokevirtual 157) := by decide +kernel
theorem h64_146 : mfetch q64.2.1 146 = some (.ireturn) := by decide +kernel
theorem h64_147 : mfetch q64.2.1 147 = some (.aload_n 3) := by decide +kernel
theorem h64_148 : mfetch q64.2.1 148 = some (.aload_n 0) := by decide +kernel
theorem h64_149 : mfetch q64.2.1 149 = some (.getfield 100) := by decide +kernel
theorem h64_152 : mfetch q64.2.1 152 = some (.invokevirtual 161) := by decide +kernel
theorem h64_155 : mfetch q64.2.1 155 = some (.ireturn) := by decide +kernel
theorem h64_156 : mfetch q64.2.1 156 = some (.aload_n 3) := by decide +kernel
theorem h64_157 : mfetch q64.2.1 157 = some (.aload_n 0) := by decide +kernel
theorem h64_158 : mfetch q64.2.1 158 = some (.getfield 100) := by decide +kernel
theorem h64_161 : mfetch q64.2.1 161 = some (.invokevirtual 164) := by decide +kernel
theorem h64_164 : mfetch q64.2.1 164 = some (.ireturn) := by decide +kernel
theorem h64_165 : mfetch q64.2.1 165 = some (.bipush (-2)) := by decide +kernel
theorem h64_167 : mfetch q64.2.1 167 = some (.ireturn) := by decide +kernel
theorem E64_0 : (∀ (d : Nat) (l0 : Option Value) (l1 : Option Value) (l3 : Option Value) (x : Int32) (st : List Value) (h : MH) (P : MP), mFr d 64 0 [l0, l1, some (.int x), l3] st h P = mFr d 64 1 [l0, l1, some (.int x), l3] (.int x :: st) h P) ∧
  (∀ (d : Nat) (loc : List (Option Value)) (x : Int32) (st : List Value) (h : MH) (P : MP), mFr d 64 1 loc (.int x :: st) h P = if x = 0 then mFr d 64 4 loc (st) h P else mFr d 64 12 loc (st) h P) := ⟨fun _ _ _ _ _ _ _ _ => (mFr_S mq64 h64_0).trans rfl,
  fun _ _ _ _ _ _ => (F_ifz 12 mq64 h64_1 (by decide)).trans mif_ne⟩
theorem E64_4 : (∀ (d : Nat) (l1 : Option Value) (l2 : Option Value) (l3 : Option Value) (x : Nat) (st : List Value) (h : MH) (P : MP), mFr d 64 4 [some (.ref x), l1, l2, l3] st h P = mFr d 64 5 [some (.ref x), l1, l2, l3] (.ref x :: st) h P) ∧
  (∀ (d : Nat) (loc : List (Option Value)) (a : Nat) (st : List Value) (h : MH) (P : MP), mFr d 64 5 loc (.ref a :: st) h P = pget h a 8 4 (fun v => mFr d 64 8 loc (v :: st) h P)) ∧
  (∀ (d : Nat) (loc : List (Option Value)) (a : Nat) (st : List Value) (h : MH) (P : MP), mFr d 64 8 loc (.ref a :: st) h P = pget h a 2 1 (fun v => mFr d 64 11 loc (v :: st) h P)) ∧
  (∀ (d : Nat) (loc : List (Option Value)) (x : Int32) (h : MH) (P : MP), mFr d 64 11 loc [.int x] h P = P (some (.int x)) h) := ⟨fun _ _ _ _ _ _ _ _ => (mFr_S mq64 h64_4).trans rfl,
  fun _ _ _ _ _ _ => F_get mq64 h64_5 (Or.inl (rfl : _ = some (100, 0, 8, 4))),
  fun _ _ _ _ _ _ => F_get mq64 h64_8 (Or.inr (rfl : _ = some (128, 1, 2, 1))),
  fun _ _ _ _ _ => F_ret mq64 h64_11 rfl rfl⟩
theorem E64_12 : (∀ (d : Nat) (l0 : Option Value) (l1 : Option Value) (l3 : Option Value) (x : Int32) (st : List Value) (h : MH) (P : MP), mFr d 64 12 [l0, l1, some (.int x), l3] st h P = mFr d 64 13 [l0, l1, some (.int x), l3] (.int x :: st) h P) ∧
  (∀ (d : Nat) (loc : List (Option Value)) (st : List Value) (h : MH) (P : MP), mFr d 64 13 loc st h P = mFr d 64 14 loc (.int 1 :: st) h P) ∧
  (∀ (d : Nat) (loc : List (Option Value)) (x y : Int32) (st : List Value) (h : MH) (P : MP), mFr d 64 14 loc (.int y :: .int x :: st) h P = if x = y then mFr d 64 17 loc (st) h P else mFr d 64 41 loc (st) h P) := ⟨fun _ _ _ _ _ _ _ _ => (mFr_S mq64 h64_12).trans rfl,
  fun _ _ _ _ _ => (mFr_S mq64 h64_13).trans rfl,
  fun _ _ _ _ _ _ _ => (F_icmp 41 mq64 h64_14 (by decide)).trans mif_ne⟩
theorem E64_17 : (∀ (d : Nat) (l0 : Option Value) (l2 : Option Value) (l3 : Option Value) (x : Int32) (st : List Value) (h : MH) (P : MP), mFr d 64 17 [l0, some (.int x), l2, l3] st h P = mFr d 64 18 [l0, some (.int x), l2, l3] (.int x :: st) h P) ∧
  (∀ (d : Nat) (loc : List (Option Value)) (x : Int32) (st : List Value) (h : MH) (P : MP), mFr d 64 18 loc (.int x :: st) h P = if x < 0 then mFr d 64 38 loc (st) h P else mFr d 64 21 loc (st) h P) := ⟨fun _ _ _ _ _ _ _ _ => (mFr_S mq64 h64_17).trans rfl,
  fun _ _ _ _ _ _ => (F_ifz 38 mq64 h64_18 (by decide)).trans mif_lt⟩
theorem E64_21 : (∀ (d : Nat) (l0 : Option Value) (l2 : Option Value) (l3 : Option Value) (x : Int32) (st : List Value) (h : MH) (P : MP), mFr d 64 21 [l0, some (.int x), l2, l3] st h P = mFr d 64 22 [l0, some (.int x), l2, l3] (.int x :: st) h P) ∧
  (∀ (d : Nat) (loc : List (Option Value)) (st : List Value) (h : MH) (P : MP), mFr d 64 22 loc st h P = mFr d 64 24 loc (.int 24 :: st) h P) ∧
  (∀ (d : Nat) (loc : List (Option Value)) (x y : Int32) (st : List Value) (h : MH) (P : MP), mFr d 64 24 loc (.int y :: .int x :: st) h P = if x < y then mFr d 64 27 loc (st) h P else mFr d 64 38 loc (st) h P) := ⟨fun _ _ _ _ _ _ _ _ => (mFr_S mq64 h64_21).trans rfl,
  fun _ _ _ _ _ => (mFr_S mq64 h64_22).trans rfl,
  fun _ _ _ _ _ _ _ => (F_icmp 38 mq64 h64_24 (by decide)).trans mif_ge⟩
theorem E64_27 : (∀ (d : Nat) (l1 : Option Value) (l2 : Option Value) (l3 : Option Value) (x : Nat) (st : List Value) (h : MH) (P : MP), mFr d 64 27 [some (.ref x), l1, l2, l3] st h P = mFr d 64 28 [some (.ref x), l1, l2, l3] (.ref x :: st) h P) ∧
  (∀ (d : Nat) (loc : List (Option Value)) (a : Nat) (st : List Value) (h : MH) (P : MP), mFr d 64 28 loc (.ref a :: st) h P = pget h a 8 4 (fun v => mFr d 64 31 loc (v :: st) h P)) ∧
  (∀ (d : Nat) (l0 : Option Value) (l2 : Option Value) (l3 : Option Value) (x : Int32) (st : List Value) (h : MH) (P : MP), mFr d 64 31 [l0, some (.int x), l2, l3] st h P = mFr d 64 32 [l0, some (.int x), l2, l3] (.int x :: st) h P) ∧
  (∀ (d : Nat) (loc : List (Option Value)) (b : Nat) (a0 : Int32) (h : MH) (P : MP), mFr d 64 32 loc ((.int a0) :: .ref b :: []) h P = if mrcv h b 2 = true then mRun d 17 [.ref b, .int a0] h (fun v h' => mFr d 64 35 loc (v.toList ++ []) h' P) else False) ∧
  (∀ (d : Nat) (loc : List (Option Value)) (st : List Value) (h : MH) (P : MP), mFr d 64 35 loc st h P = mFr d 64 40 loc (st) h P) := ⟨fun _ _ _ _ _ _ _ _ => (mFr_S mq64 h64_27).trans rfl,
  fun _ _ _ _ _ _ => F_get mq64 h64_28 (Or.inl (rfl : _ = some (100, 0, 8, 4))),
  fun _ _ _ _ _ _ _ _ => (mFr_S mq64 h64_31).trans rfl,
  fun _ _ b a0 _ _ => F_callV (as := [.int a0]) (rest := []) mq64 (Or.inl h64_32) (rfl : _ = some (131, 6, 17, 1)) (Or.inl ⟨h64_32, by decide⟩) (by rfl) (by rfl) (by rfl) (Nat.le_of_ble_eq_true rfl),
  fun _ _ _ _ _ => F_goto 40 mq64 h64_35 (by decide)⟩
theorem E64_38 : (∀ (d : Nat) (loc : List (Option Value)) (st : List Value) (h : MH) (P : MP), mFr d 64 38 loc st h P = mFr d 64 40 loc (.int (-2) :: st) h P) := fun _ _ _ _ _ => (mFr_S mq64 h64_38).trans rfl
theorem E64_40 : (∀ (d : Nat) (loc : List (Option Value)) (x : Int32) (h : MH) (P : MP), mFr d 64 40 loc [.int x] h P = P (some (.int x)) h) := fun _ _ _ _ _ => F_ret mq64 h64_40 rfl rfl
theorem E64_41 : (∀ (d : Nat) (l1 : Option Value) (l2 : Option Value) (l3 : Option Value) (x : Nat) (st : List Value) (h : MH) (P : MP), mFr d 64 41 [some (.ref x), l1, l2, l3] st h P = mFr d 64 42 [some (.ref x), l1, l2, l3] (.ref x :: st) h P) ∧
  (∀ (d : Nat) (loc : List (Option Value)) (a : Nat) (st : List Value) (h : MH) (P : MP), mFr d 64 42 loc (.ref a :: st) h P = pget h a 8 5 (fun v => mFr d 64 45 loc (v :: st) h P)) ∧
  (∀ (d : Nat) (l0 : Option Value) (l2 : Option Value) (l3 : Option Value) (x : Int32) (st : List Value) (h : MH) (P : MP), mFr d 64 45 [l0, some (.int x), l2, l3] st h P = mFr d 64 46 [l0, some (.int x), l2, l3] (.int x :: st) h P) ∧
  (∀ (d : Nat) (loc : List (Option Value)) (b : Nat) (a0 : Int32) (h : MH) (P : MP), mFr d 64 46 loc ((.int a0) :: .ref b :: []) h P = if mrcv h b 0 = true then mRun d 1 [.ref b, .int a0] h (fun v h' => mFr d 64 49 loc (v.toList ++ []) h' P) else False) ∧
  (∀ (d : Nat) (l0 : Option Value) (l1 : Option Value) (l2 : Option Value) (l3 : Option Value) (x : Nat) (st : List Value) (h : MH) (P : MP), mnl l2 = true → mFr d 64 49 [l0, l1, l2, l3] (.ref x :: st) h P = mFr d 64 50 [l0, l1, l2, some (.ref x)] (st) h P) ∧
  (∀ (d : Nat) (l0 : Option Value) (l1 : Option Value) (l2 : Option Value) (l3 : Option Value) (st : List Value) (h : MH) (P : MP), mnl l2 = true → mFr d 64 49 [l0, l1, l2, l3] (.null :: st) h P = mFr d 64 50 [l0, l1, l2, some .null] (st) h P) ∧
  (∀ (d : Nat) (l0 : Option Value) (l1 : Option Value) (l2 : Option Value) (x : Nat) (st : List Value) (h : MH) (P : MP), mFr d 64 50 [l0, l1, l2, some (.ref x)] st h P = mFr d 64 51 [l0, l1, l2, some (.ref x)] (.ref x :: st) h P) ∧
  (∀ (d : Nat) (l0 : Option Value) (l1 : Option Value) (l2 : Option Value) (st : List Value) (h : MH) (P : MP), mFr d 64 50 [l0, l1, l2, some .null] st h P = mFr d 64 51 [l0, l1, l2, some .null] (.null :: st) h P) ∧
  (∀ (d : Nat) (loc : List (Option Value)) (x : Nat) (st : List Value) (h : MH) (P : MP), mFr d 64 51 loc (.ref x :: st) h P = if x < 900 then mFr d 64 57 loc (st) h P else False) ∧
  (∀ (d : Nat) (loc : List (Option Value)) (st : List Value) (h : MH) (P : MP), mFr d 64 51 loc (.null :: st) h P = mFr d 64 54 loc (st) h P) := ⟨fun _ _ _ _ _ _ _ _ => (mFr_S mq64 h64_41).trans rfl,
  fun _ _ _ _ _ _ => F_get mq64 h64_42 (Or.inl (rfl : _ = some (25, 0, 8, 5))),
  fun _ _ _ _ _ _ _ _ => (mFr_S mq64 h64_45).trans rfl,
  fun _ _ b a0 _ _ => F_callV (as := [.int a0]) (rest := []) mq64 (Or.inl h64_46) (rfl : _ = some (135, 6, 1, 1)) (Or.inl ⟨h64_46, by decide⟩) (by rfl) (by rfl) (by rfl) (Nat.le_of_ble_eq_true rfl),
  fun _ _ _ _ _ _ _ _ _ hm => (mFr_S mq64 h64_49).trans (by simp only [mgo.eq_1, mstep, mi1, ml1, mast, mst, mst2, mprev, List.length_cons, List.length_nil, List.getElem?_cons_succ, List.getElem?_cons_zero, hm]; rfl),
  fun _ _ _ _ _ _ _ _ hm => (mFr_S mq64 h64_49).trans (by simp only [mgo.eq_1, mstep, mi1, ml1, mast, mst, mst2, mprev, List.length_cons, List.length_nil, List.getElem?_cons_succ, List.getElem?_cons_zero, hm]; rfl),
  fun _ _ _ _ _ _ _ _ => (mFr_S mq64 h64_50).trans rfl,
  fun _ _ _ _ _ _ _ => (mFr_S mq64 h64_50).trans rfl,
  fun _ _ _ _ _ _ => F_ifnonnullR 57 mq64 h64_51 (by decide),
  fun _ _ _ _ _ => (mFr_S mq64 h64_51).trans rfl⟩
theorem E64_54 : (∀ (d : Nat) (loc : List (Option Value)) (st : List Value) (h : MH) (P : MP), mFr d 64 54 loc st h P = mFr d 64 56 loc (.int (-2) :: st) h P) ∧
  (∀ (d : Nat) (loc : List (Option Value)) (x : Int32) (h : MH) (P : MP), mFr d 64 56 loc [.int x] h P = P (some (.int x)) h) := ⟨fun _ _ _ _ _ => (mFr_S mq64 h64_54).trans rfl,
  fun _ _ _ _ _ => F_ret mq64 h64_56 rfl rfl⟩
theorem E64_57 : (∀ (d : Nat) (l0 : Option Value) (l1 : Option Value) (l3 : Option Value) (x : Int32) (st : List Value) (h : MH) (P : MP), mFr d 64 57 [l0, l1, some (.int x), l3] st h P = mFr d 64 58 [l0, l1, some (.int x), l3] (.int x :: st) h P) ∧
  (∀ (d : Nat) (loc : List (Option Value)) (x : Int32) (st : List Value) (h : MH) (P : MP), mFr d 64 58 loc (.int x :: st) h P = if x = 2 then mFr d 64 108 loc (st) h P else if x = 3 then mFr d 64 113 loc (st) h P else if x = 4 then mFr d 64 118 loc (st) h P else if x = 5 then mFr d 64 123 loc (st) h P else if x = 6 then mFr d 64 128 loc (st) h P else if x = 7 then mFr d 64 133 loc (st) h P else if x = 8 then mFr d 64 138 loc (st) h P else if x = 9 then mFr d 64 147 loc (st) h P else if x = 10 then mFr d 64 156 loc (st) h P else mFr d 64 165 loc (st) h P) := ⟨fun _ _ _ _ _ _ _ _ => (mFr_S mq64 h64_57).trans rfl,
  fun _ _ _ _ _ _ => F_table 165 [(2, 108), (3, 113), (4, 118), (5, 123), (6, 128), (7, 133), (8, 138), (9, 147), (10, 156)] mq64 h64_58 (by decide) (by decide +kernel) (by decide)⟩
theorem E64_108 : (∀ (d : Nat) (l0 : Option Value) (l1 : Option Value) (l2 : Option Value) (x : Nat) (st : List Value) (h : MH) (P : MP), mFr d 64 108 [l0, l1, l2, some (.ref x)] st h P = mFr d 64 109 [l0, l1, l2, some (.ref x)] (.ref x :: st) h P) ∧
  (∀ (d : Nat) (l0 : Option Value) (l1 : Option Value) (l2 : Option Value) (st : List Value) (h : MH) (P : MP), mFr d 64 108 [l0, l1, l2, some .null] st h P = mFr d 64 109 [l0, l1, l2, some .null] (.null :: st) h P) ∧
  (∀ (d : Nat) (loc : List (Option Value)) (a : Nat) (st : List Value) (h : MH) (P : MP), mFr d 64 109 loc (.ref a :: st) h P = pget h a 1 1 (fun v => mFr d 64 112 loc (v :: st) h P)) ∧
  (∀ (d : Nat) (loc : List (Option Value)) (x : Int32) (h : MH) (P : MP), mFr d 64 112 loc [.int x] h P = P (some (.int x)) h) := ⟨fun _ _ _ _ _ _ _ _ => (mFr_S mq64 h64_108).trans rfl,
  fun _ _ _ _ _ _ _ => (mFr_S mq64 h64_108).trans rfl,
  fun _ _ _ _ _ _ => F_get mq64 h64_109 (Or.inr (rfl : _ = some (139, 1, 1, 1))),
  fun _ _ _ _ _ => F_ret mq64 h64_112 rfl rfl⟩
theorem E64_113 : (∀ (d : Nat) (l0 : Option Value) (l1 : Option Value) (l2 : Option Value) (x : Nat) (st : List Value) (h : MH) (P : MP), mFr d 64 113 [l0, l1, l2, some (.ref x)] st h P = mFr d 64 114 [l0, l1, l2, some (.ref x)] (.ref x :: st) h P) ∧
  (∀ (d : Nat) (l0 : Option Value) (l1 : Option Value) (l2 : Option Value) (st : List Value) (h : MH) (P : MP), mFr d 64 113 [l0, l1, l2, some .null] st h P = mFr d 64 114 [l0, l1, l2, some .null] (.null :: st) h P) ∧
  (∀ (d : Nat) (loc : List (Option Value)) (a : Nat) (st : List Value) (h : MH) (P : MP), mFr d 64 114 loc (.ref a :: st) h P = pget h a 1 2 (fun v => mFr d 64 117 loc (v :: st) h P)) ∧
  (∀ (d : Nat) (loc : List (Option Value)) (x : Int32) (h : MH) (P : MP), mFr d 64 117 loc [.int x] h P = P (some (.int x)) h) := ⟨fun _ _ _ _ _ _ _ _ => (mFr_S mq64 h64_113).trans rfl,
  fun _ _ _ _ _ _ _ => (mFr_S mq64 h64_113).trans rfl,
  fun _ _ _ _ _ _ => F_get mq64 h64_114 (Or.inr (rfl : _ = some (142, 1, 1, 2))),
  fun _ _ _ _ _ => F_ret mq64 h64_117 rfl rfl⟩
theorem E64_118 : (∀ (d : Nat) (l0 : Option Value) (l1 : Option Value) (l2 : Option Value) (x : Nat) (st : List Value) (h : MH) (P : MP), mFr d 64 118 [l0, l1, l2, some (.ref x)] st h P = mFr d 64 119 [l0, l1, l2, some (.ref x)] (.ref x :: st) h P) ∧
  (∀ (d : Nat) (l0 : Option Value) (l1 : Option Value) (l2 : Option Value) (st : List Value) (h : MH) (P : MP), mFr d 64 118 [l0, l1, l2, some .null] st h P = mFr d 64 119 [l0, l1, l2, some .null] (.null :: st) h P) ∧
  (∀ (d : Nat) (loc : List (Option Value)) (a : Nat) (st : List Value) (h : MH) (P : MP), mFr d 64 119 loc (.ref a :: st) h P = pget h a 1 3 (fun v => mFr d 64 122 loc (v :: st) h P)) ∧
  (∀ (d : Nat) (loc : List (Option Value)) (x : Int32) (h : MH) (P : MP), mFr d 64 122 loc [.int x] h P = P (some (.int x)) h) := ⟨fun _ _ _ _ _ _ _ _ => (mFr_S mq64 h64_118).trans rfl,
  fun _ _ _ _ _ _ _ => (mFr_S mq64 h64_118).trans rfl,
  fun _ _ _ _ _ _ => F_get mq64 h64_119 (Or.inr (rfl : _ = some (145, 1, 1, 3))),
  fun _ _ _ _ _ => F_ret mq64 h64_122 rfl rfl⟩
theorem E64_123 : (∀ (d : Nat) (l0 : Option Value) (l1 : Option Value) (l2 : Option Value) (x : Nat) (st : List Value) (h : MH) (P : MP), mFr d 64 123 [l0, l1, l2, some (.ref x)] st h P = mFr d 64 124 [l0, l1, l2, some (.ref x)] (.ref x :: st) h P) ∧
  (∀ (d : Nat) (l0 : Option Value) (l1 : Option Value) (l2 : Option Value) (st : List Value) (h : MH) (P : MP), mFr d 64 123 [l0, l1, l2, some .null] st h P = mFr d 64 124 [l0, l1, l2, some .null] (.null :: st) h P) ∧
  (∀ (d : Nat) (loc : List (Option Value)) (a : Nat) (st : List Value) (h : MH) (P : MP), mFr d 64 124 loc (.ref a :: st) h P = pget h a 1 4 (fun v => mFr d 64 127 loc (v :: st) h P)) ∧
  (∀ (d : Nat) (loc : List (Option Value)) (x : Int32) (h : MH) (P : MP), mFr d 64 127 loc [.int x] h P = P (some (.int x)) h) := ⟨fun _ _ _ _ _ _ _ _ => (mFr_S mq64 h64_123).trans rfl,
  fun _ _ _ _ _ _ _ => (mFr_S mq64 h64_123).trans rfl,
  fun _ _ _ _ _ _ => F_get mq64 h64_124 (Or.inr (rfl : _ = some (148, 1, 1, 4))),
  fun _ _ _ _ _ => F_ret mq64 h64_127 rfl rfl⟩
theorem E64_128 : (∀ (d : Nat) (l0 : Option Value) (l1 : Option Value) (l2 : Option Value) (x : Nat) (st : List Value) (h : MH) (P : MP), mFr d 64 128 [l0, l1, l2, some (.ref x)] st h P = mFr d 64 129 [l0, l1, l2, some (.ref x)] (.ref x :: st) h P) ∧
  (∀ (d : Nat) (l0 : Option Value) (l1 : Option Value) (l2 : Option Value) (st : List Value) (h : MH) (P : MP), mFr d 64 128 [l0, l1, l2, some .null] st h P = mFr d 64 129 [l0, l1, l2, some .null] (.null :: st) h P) ∧
  (∀ (d : Nat) (loc : List (Option Value)) (a : Nat) (st : List Value) (h : MH) (P : MP), mFr d 64 129 loc (.ref a :: st) h P = pget h a 1 0 (fun v => mFr d 64 132 loc (v :: st) h P)) ∧
  (∀ (d : Nat) (loc : List (Option Value)) (x : Int32) (h : MH) (P : MP), mFr d 64 132 loc [.int x] h P = P (some (.int x)) h) := ⟨fun _ _ _ _ _ _ _ _ => (mFr_S mq64 h64_128).trans rfl,
  fun _ _ _ _ _ _ _ => (mFr_S mq64 h64_128).trans rfl,
  fun _ _ _ _ _ _ => F_get mq64 h64_129 (Or.inr (rfl : _ = some (151, 1, 1, 0))),
  fun _ _ _ _ _ => F_ret mq64 h64_132 rfl rfl⟩
theorem E64_133 : (∀ (d : Nat) (l0 : Option Value) (l1 : Option Value) (l2 : Option Value) (x : Nat) (st : List Value) (h : MH) (P : MP), mFr d 64 133 [l0, l1, l2, some (.ref x)] st h P = mFr d 64 134 [l0, l1, l2, some (.ref x)] (.ref x :: st) h P) ∧
  (∀ (d : Nat) (l0 : Option Value) (l1 : Option Value) (l2 : Option Value) (st : List Value) (h : MH) (P : MP), mFr d 64 133 [l0, l1, l2, some .null] st h P = mFr d 64 134 [l0, l1, l2, some .null] (.null :: st) h P) ∧
  (∀ (d : Nat) (loc : List (Option Value)) (a : Nat) (st : List Value) (h : MH) (P : MP), mFr d 64 134 loc (.ref a :: st) h P = pget h a 1 5 (fun v => mFr d 64 137 loc (v :: st) h P)) ∧
  (∀ (d : Nat) (loc : List (Option Value)) (x : Int32) (h : MH) (P : MP), mFr d 64 137 loc [.int x] h P = P (some (.int x)) h) := ⟨fun _ _ _ _ _ _ _ _ => (mFr_S mq64 h64_133).trans rfl,
  fun _ _ _ _ _ _ _ => (mFr_S mq64 h64_133).trans rfl,
  fun _ _ _ _ _ _ => F_get mq64 h64_134 (Or.inr (rfl : _ = some (154, 1, 1, 5))),
  fun _ _ _ _ _ => F_ret mq64 h64_137 rfl rfl⟩
theorem E64_138 : (∀ (d : Nat) (l0 : Option Value) (l1 : Option Value) (l2 : Option Value) (x : Nat) (st : List Value) (h : MH) (P : MP), mFr d 64 138 [l0, l1, l2, some (.ref x)] st h P = mFr d 64 139 [l0, l1, l2, some (.ref x)] (.ref x :: st) h P) ∧
  (∀ (d : Nat) (l0 : Option Value) (l1 : Option Value) (l2 : Option Value) (st : List Value) (h : MH) (P : MP), mFr d 64 138 [l0, l1, l2, some .null] st h P = mFr d 64 139 [l0, l1, l2, some .null] (.null :: st) h P) ∧
  (∀ (d : Nat) (l1 : Option Value) (l2 : Option Value) (l3 : Option Value) (x : Nat) (st : List Value) (h : MH) (P : MP), mFr d 64 139 [some (.ref x), l1, l2, l3] st h P = mFr d 64 140 [some (.ref x), l1, l2, l3] (.ref x :: st) h P) ∧
  (∀ (d : Nat) (loc : List (Option Value)) (a : Nat) (st : List Value) (h : MH) (P : MP), mFr d 64 140 loc (.ref a :: st) h P = pget h a 8 4 (fun v => mFr d 64 143 loc (v :: st) h P)) ∧
  (∀ (d : Nat) (loc : List (Option Value)) (b : Nat) (a0 : Nat) (h : MH) (P : MP), mFr d 64 143 loc ((.ref a0) :: .ref b :: []) h P = if mrcv h b 1 = true then mRun d 12 [.ref b, .ref a0] h (fun v h' => mFr d 64 146 loc (v.toList ++ []) h' P) else False) ∧
  (∀ (d : Nat) (loc : List (Option Value)) (x : Int32) (h : MH) (P : MP), mFr d 64 146 loc [.int x] h P = P (some (.int x)) h) := ⟨fun _ _ _ _ _ _ _ _ => (mFr_S mq64 h64_138).trans rfl,
  fun _ _ _ _ _ _ _ => (mFr_S mq64 h64_138).trans rfl,
  fun _ _ _ _ _ _ _ _ => (mFr_S mq64 h64_139).trans rfl,
  fun _ _ _ _ _ _ => F_get mq64 h64_140 (Or.inl (rfl : _ = some (100, 0, 8, 4))),
  fun _ _ b a0 _ _ => F_callV (as := [.ref a0]) (rest := []) mq64 (Or.inl h64_143) (rfl : _ = some (157, 6, 12, 1)) (Or.inl ⟨h64_143, by decide⟩) (by rfl) (by rfl) (by rfl) (Nat.le_of_ble_eq_true rfl),
  fun _ _ _ _ _ => F_ret mq64 h64_146 rfl rfl⟩
theorem E64_147 : (∀ (d : Nat) (l0 : Option Value) (l1 : Option Value) (l2 : Option Value) (x : Nat) (st : List Value) (h : MH) (P : MP), mFr d 64 147 [l0, l1, l2, some (.ref x)] st h P = mFr d 64 148 [l0, l1, l2, some (.ref x)] (.ref x :: st) h P) ∧
  (∀ (d : Nat) (l0 : Option Value) (l1 : Option Value) (l2 : Option Value) (st : List Value) (h : MH) (P : MP), mFr d 64 147 [l0, l1, l2, some .null] st h P = mFr d 64 148 [l0, l1, l2, some .null] (.null :: st) h P) ∧
  (∀ (d : Nat) (l1 : Option Value) (l2 : Option Value) (l3 : Option Value) (x : Nat) (st : List Value) (h : MH) (P : MP), mFr d 64 148 [some (.ref x), l1, l2, l3] st h P = mFr d 64 149 [some (.ref x), l1, l2, l3] (.ref x :: st) h P) ∧
  (∀ (d : Nat) (loc : List (Option Value)) (a : Nat) (st : List Value) (h : MH) (P : MP), mFr d 64 149 loc (.ref a :: st) h P = pget h a 8 4 (fun v => mFr d 64 152 loc (v :: st) h P)) ∧
  (∀ (d : Nat) (loc : List (Option Value)) (b : Nat) (a0 : Nat) (h : MH) (P : MP), mFr d 64 152 loc ((.ref a0) :: .ref b :: []) h P = if mrcv h b 1 = true then mRun d 14 [.ref b, .ref a0] h (fun v h' => mFr d 64 155 loc (v.toList ++ []) h' P) else False) ∧
  (∀ (d : Nat) (loc : List (Option Value)) (x : Int32) (h : MH) (P : MP), mFr d 64 155 loc [.int x] h P = P (some (.int x)) h) := ⟨fun _ _ _ _ _ _ _ _ => (mFr_S mq64 h64_147).trans rfl,
  fun _ _ _ _ _ _ _ => (mFr_S mq64 h64_147).trans rfl,
  fun _ _ _ _ _ _ _ _ => (mFr_S mq64 h64_148).trans rfl,
  fun _ _ _ _ _ _ => F_get mq64 h64_149 (Or.inl (rfl : _ = some (100, 0, 8, 4))),
  fun _ _ b a0 _ _ => F_callV (as := [.ref a0]) (rest := []) mq64 (Or.inl h64_152) (rfl : _ = some (161, 6, 14, 1)) (Or.inl ⟨h64_152, by decide⟩) (by rfl) (by rfl) (by rfl) (Nat.le_of_ble_eq_true rfl),
  fun _ _ _ _ _ => F_ret mq64 h64_155 rfl rfl⟩
theorem E64_156 : (∀ (d : Nat) (l0 : Option Value) (l1 : Option Value) (l2 : Option Value) (x : Nat) (st : List Value) (h : MH) (P : MP), mFr d 64 156 [l0, l1, l2, some (.ref x)] st h P = mFr d 64 157 [l0, l1, l2, some (.ref x)] (.ref x :: st) h P) ∧
  (∀ (d : Nat) (l0 : Option Value) (l1 : Option Value) (l2 : Option Value) (st : List Value) (h : MH) (P : MP), mFr d 64 156 [l0, l1, l2, some .null] st h P = mFr d 64 157 [l0, l1, l2, some .null] (.null :: st) h P) ∧
  (∀ (d : Nat) (l1 : Option Value) (l2 : Option Value) (l3 : Option Value) (x : Nat) (st : List Value) (h : MH) (P : MP), mFr d 64 157 [some (.ref x), l1, l2, l3] st h P = mFr d 64 158 [some (.ref x), l1, l2, l3] (.ref x :: st) h P) ∧
  (∀ (d : Nat) (loc : List (Option Value)) (a : Nat) (st : List Value) (h : MH) (P : MP), mFr d 64 158 loc (.ref a :: st) h P = pget h a 8 4 (fun v => mFr d 64 161 loc (v :: st) h P)) ∧
  (∀ (d : Nat) (loc : List (Option Value)) (b : Nat) (a0 : Nat) (h : MH) (P : MP), mFr d 64 161 loc ((.ref a0) :: .ref b :: []) h P = if mrcv h b 1 = true then mRun d 15 [.ref b, .ref a0] h (fun v h' => mFr d 64 164 loc (v.toList ++ []) h' P) else False) ∧
  (∀ (d : Nat) (loc : List (Option Value)) (x : Int32) (h : MH) (P : MP), mFr d 64 164 loc [.int x] h P = P (some (.int x)) h) := ⟨fun _ _ _ _ _ _ _ _ => (mFr_S mq64 h64_156).trans rfl,
  fun _ _ _ _ _ _ _ => (mFr_S mq64 h64_156).trans rfl,
  fun _ _ _ _ _ _ _ _ => (mFr_S mq64 h64_157).trans rfl,
  fun _ _ _ _ _ _ => F_get mq64 h64_158 (Or.inl (rfl : _ = some (100, 0, 8, 4))),
  fun _ _ b a0 _ _ => F_callV (as := [.ref a0]) (rest := []) mq64 (Or.inl h64_161) (rfl : _ = some (164, 6, 15, 1)) (Or.inl ⟨h64_161, by decide⟩) (by rfl) (by rfl) (by rfl) (Nat.le_of_ble_eq_true rfl),
  fun _ _ _ _ _ => F_ret mq64 h64_164 rfl rfl⟩
theorem E64_165 : (∀ (d : Nat) (loc : List (Option Value)) (st : List Value) (h : MH) (P : MP), mFr d 64 165 loc st h P = mFr d 64 167 loc (.int (-2) :: st) h P) ∧
  (∀ (d : Nat) (loc : List (Option Value)) (x : Int32) (h : MH) (P : MP), mFr d 64 167 loc [.int x] h P = P (some (.int x)) h) := ⟨fun _ _ _ _ _ => (mFr_S mq64 h64_165).trans rfl,
  fun _ _ _ _ _ => F_ret mq64 h64_167 rfl rfl⟩
theorem B64 : ∀ (d : Nat) (b : Nat) (a0 : Int32) (a1 : Int32) (h : MH) (P : MP), mRun (d + 1) 64 [.ref b, .int a0, .int a1] h P = mFr d 64 0 [some (.ref b), some (.int a0), some (.int a1), none] [] h P := fun _ _ _ _ _ _ => mRun_S mq64 (Nat.le_of_ble_eq_true rfl)
-- 65: PuncturesAreViews.isDigit(I)Z
def q65 : MI := (yX8_isDigit, cX8_isDigit, 1, (some .boolean), 8, 1)
theorem mq65 : mtab[65]? = some q65 := rfl
theorem h65_0 : mfetch q65.2.1 0 = some (.iload_n 0) := by decide +kernel
theorem h65_1 : mfetch q65.2.1 1 = some (.ifCond .lt 13) := by decide +kernel
theorem h65_4 : mfetch q65.2.1 4 = some (.iload_n 0) := by decide +kernel
theorem h65_5 : mfetch q65.2.1 5 = some (.bipush 9) := by decide +kernel
theorem h65_7 : mfetch q65.2.1 7 = some (.if_icmp .gt 7) := by decide +kernel
theorem h65_10 : mfetch q65.2.1 10 = some (.iconst 1) := by decide +kernel
theorem h65_11 : mfetch q65.2.1 11 = some (.goto 4) := by decide +kernel
theorem h65_14 : mfetch q65.2.1 14 = some (.iconst 0) := by decide +kernel
theorem h65_15 : mfetch q65.2.1 15 = some (.ireturn) := by decide +kernel
theorem E65_0 : (∀ (d : Nat) (x : Int32) (st : List Value) (h : MH) (P : MP), mFr d 65 0 [some (.int x)] st h P = mFr d 65 1 [some (.int x)] (.int x :: st) h P) ∧
  (∀ (d : Nat) (loc : List (Option Value)) (x : Int32) (st : List Value) (h : MH) (P : MP), mFr d 65 1 loc (.int x :: st) h P = if x < 0 then mFr d 65 14 loc (st) h P else mFr d 65 4 loc (st) h P) := ⟨fun _ _ _ _ _ => (mFr_S mq65 h65_0).trans rfl,
  fun _ _ _ _ _ _ => (F_ifz 14 mq65 h65_1 (by decide)).trans mif_lt⟩
theorem E65_4 : (∀ (d : Nat) (x : Int32) (st : List Value) (h : MH) (P : MP), mFr d 65 4 [some (.int x)] st h P = mFr d 65 5 [some (.int x)] (.int x :: st) h P) ∧
  (∀ (d : Nat) (loc : List (Option Value)) (st : List Value) (h : MH) (P : MP), mFr d 65 5 loc st h P = mFr d 65 7 loc (.int 9 :: st) h P) ∧
  (∀ (d : Nat) (loc : List (Option Value)) (x y : Int32) (st : List Value) (h : MH) (P : MP), mFr d 65 7 loc (.int y :: .int x :: st) h P = if y < x then mFr d 65 14 loc (st) h P else mFr d 65 10 loc (st) h P) := ⟨fun _ _ _ _ _ => (mFr_S mq65 h65_4).trans rfl,
  fun _ _ _ _ _ => (mFr_S mq65 h65_5).trans rfl,
  fun _ _ _ _ _ _ _ => (F_icmp 14 mq65 h65_7 (by decide)).trans mif_gt⟩
theorem E65_10 : (∀ (d : Nat) (loc : List (Option Value)) (st : List Value) (h : MH) (P : MP), mFr d 65 10 loc st h P = mFr d 65 11 loc (.int 1 :: st) h P) ∧
  (∀ (d : Nat) (loc : List (Option Value)) (st : List Value) (h : MH) (P : MP), mFr d 65 11 loc st h P = mFr d 65 15 loc (st) h P) := ⟨fun _ _ _ _ _ => (mFr_S mq65 h65_10).trans rfl,
  fun _ _ _ _ _ => F_goto 15 mq65 h65_11 (by decide)⟩
theorem E65_14 : (∀ (d : Nat) (loc : List (Option Value)) (st : List Value) (h : MH) (P : MP), mFr d 65 14 loc st h P = mFr d 65 15 loc (.int 0 :: st) h P) := fun _ _ _ _ _ => (mFr_S mq65 h65_14).trans rfl
theorem E65_15 : (∀ (d : Nat) (loc : List (Option Value)) (h : MH) (P : MP), mFr d 65 15 loc [.int 0] h P = P (some (.int 0)) h) ∧
  (∀ (d : Nat) (loc : List (Option Value)) (h : MH) (P : MP), mFr d 65 15 loc [.int 1] h P = P (some (.int 1)) h) ∧
  (∀ (d : Nat) (loc : List (Option Value)) (c : Prop) [Decidable c] (h : MH) (P : MP), mFr d 65 15 loc [.int (if c then 1 else 0)] h P = P (some (.int (if c then 1 else 0))) h) := ⟨fun _ _ _ _ => F_ret mq65 h65_15 rfl (by decide),
  fun _ _ _ _ => F_ret mq65 h65_15 rfl (by decide),
  fun _ _ _ _ _ _ => F_ret mq65 h65_15 rfl (by split <;> decide)⟩
theorem B65 : ∀ (d : Nat) (a0 : Int32) (h : MH) (P : MP), mRun (d + 1) 65 [.int a0] h P = mFr d 65 0 [some (.int a0)] [] h P := fun _ _ _ _ => mRun_S mq65 (Nat.le_of_ble_eq_true rfl)
-- 66: PuncturesAreViews.lay(III)V
def q66 : MI := (yX8_lay, cX8_lay, 5, none, 8, 3)
theorem mq66 : mtab[66]? = some q66 := rfl
theorem h66_0 : mfetch q66.2.1 0 = some (.iload_n 1) := by decide +kernel
theorem h66_1 : mfetch q66.2.1 1 = some (.ifCond .ne 12) := by decide +kernel
theorem h66_4 : mfetch q66.2.1 4 = some (.aload_n 0) := by decide +kernel
theorem h66_5 : mfetch q66.2.1 5 = some (.getfield 100) := by decide +kernel
theorem h66_8 : mfetch q66.2.1 8 = some (.iload_n 3) := by decide +kernel
theorem h66_9 : mfetch q66.2.1 9 = some (.putfield 128) := by decide +kernel
theorem h66_12 : mfetch q66.2.1 12 = some (.return_) := by decide +kernel
theorem h66_13 : mfetch q66.2.1 13 = some (.iload_n 1) := by decide +kernel
theorem h66_14 : mfetch q66.2.1 14 = some (.iconst 1) := by decide +kernel
theorem h66_15 : mfetch q66.2.1 15 = some (.if_icmp .ne 13) := by decide +kernel
theorem h66_18 : mfetch q66.2.1 18 = some (.aload_n 0) := by decide +kernel
theorem h66_19 : mfetch q66.2.1 19 = some (.getfield 100) := by decide +kernel
theorem h66_22 : mfetch q66.2.1 22 = some (.iload_n 2) := by decide +kernel
theorem h66_23 : mfetch q66.2.1 23 = some (.iload_n 3) := by decide +kernel
theorem h66_24 : mfetch q66.2.1 24 = some (.invokevirtual 167) := by decide +kernel
theorem h66_27 : mfetch q66.2.1 27 = some (.return_) := by decide +kernel
theorem h66_28 : mfetch q66.2.1 28 = some (.aload_n 0) := by decide +kernel
theorem h66_29 : mfetch q66.2.1 29 = some (.getfield 25) := by decide +kernel
theorem h66_32 : mfetch q66.2.1 32 = some (.iload_n 2) := by decide +kernel
theorem h66_33 : mfetch q66.2.1 33 = some (.invokevirtual 135) := by decide +kernel
theorem h66_36 : mfetch q66.2.1 36 = some (.astore 4) := by decide +kernel
theorem h66_38 : mfetch q66.2.1 38 = some (.aload 4) := by decide +kernel
theorem h66_40 : mfetch q66.2.1 40 = some (.ifnonnull 4) := by decide +kernel
theorem h66_43 : mfetch q66.2.1 43 = some (.return_) := by decide +kernel
theorem h66_44 : mfetch q66.2.1 44 = some (.iload_n 1) := by decide +kernel
theorem h66_45 : mfetch q66.2.1 45 = some (.tableswitch 67 2 5 #[31, 40, 49, 58]) := by decide +kernel
theorem h66_76 : mfetch q66.2.1 76 = some (.aload 4) := by decide +kernel
theorem h66_78 : mfetch q66.2.1 78 = some (.iload_n 3) := by decide +kernel
theorem h66_79 : mfetch q66.2.1 79 = some (.putfield 139) := by decide +kernel
theorem h66_82 : mfetch q66.2.1 82 = some (.goto 30) := by decide +kernel
theorem h66_85 : mfetch q66.2.1 85 = some (.aload 4) := by decide +kernel
theorem h66_87 : mfetch q66.2.1 87 = some (.iload_n 3) := by decide +kernel
theorem h66_88 : mfetch q66.2.1 88 = some (.putfield 142) := by decide +kernel
theorem h66_91 : mfetch q66.2.1 91 = some (.goto 21) := by decide +kernel
theorem h66_94 : mfetch q66.2.1 94 = some (.aload 4) := by decide +kernel
theorem h66_96 : mfetch q66.2.1 96 = some (.iload_n 3) := by decide +kernel
theorem h66_97 : mfetch q66.2.1 97 = some (.putfield 145) := by decide +kernel
theorem h66_100 : mfetch q66.2.1 100 = some (.goto 12) := by decide +kernel
theorem h66_103 : mfetch q66.2.1 103 = some (.aload 4) := by decide +kernel
theorem h66_105 : mfetch q66.2.1 105 = some (.iload_n 3) := by decide +kernel
theorem h66_106 : mfetch q66.2.1 106 = some (.putfield 148) := by decide +kernel
theorem h66_109 : mfetch q66.2.1 109 = some (.goto 3) := by decide +kernel
theorem h66_112 : mfetch q66.2.1 112 = some (.return_) := by decide +kernel
theorem E66_0 : (∀ (d : Nat) (l0 : Option Value) (l2 : Option Value) (l3 : Option Value) (l4 : Option Value) (x : Int32) (st : List Value) (h : MH) (P : MP), mFr d 66 0 [l0, some (.int x), l2, l3, l4] st h P = mFr d 66 1 [l0, some (.int x), l2, l3, l4] (.int x :: st) h P) ∧
  (∀ (d : Nat) (loc : List (Option Value)) (x : Int32) (st : List Value) (h : MH) (P : MP), mFr d 66 1 loc (.int x :: st) h P = if x = 0 then mFr d 66 4 loc (st) h P else mFr d 66 13 loc (st) h P) := ⟨fun _ _ _ _ _ _ _ _ _ => (mFr_S mq66 h66_0).trans rfl,
  fun _ _ _ _ _ _ => (F_ifz 13 mq66 h66_1 (by decide)).trans mif_ne⟩
theorem E66_4 : (∀ (d : Nat) (l1 : Option Value) (l2 : Option Value) (l3 : Option Value) (l4 : Option Value) (x : Nat) (st : List Value) (h : MH) (P : MP), mFr d 66 4 [some (.ref x), l1, l2, l3, l4] st h P = mFr d 66 5 [some (.ref x), l1, l2, l3, l4] (.ref x :: st) h P) ∧
  (∀ (d : Nat) (loc : List (Option Value)) (a : Nat) (st : List Value) (h : MH) (P : MP), mFr d 66 5 loc (.ref a :: st) h P = pget h a 8 4 (fun v => mFr d 66 8 loc (v :: st) h P)) ∧
  (∀ (d : Nat) (l0 : Option Value) (l1 : Option Value) (l2 : Option Value) (l4 : Option Value) (x : Int32) (st : List Value) (h : MH) (P : MP), mFr d 66 8 [l0, l1, l2, some (.int x), l4] st h P = mFr d 66 9 [l0, l1, l2, some (.int x), l4] (.int x :: st) h P) ∧
  (∀ (d : Nat) (loc : List (Option Value)) (a : Nat) (x : Int32) (st : List Value) (h : MH) (P : MP), mFr d 66 9 loc (.int x :: .ref a :: st) h P = pput h a 2 1 (.int x) (fun h' => mFr d 66 12 loc (st) h' P)) ∧
  (∀ (d : Nat) (loc : List (Option Value)) (h : MH) (P : MP), mFr d 66 12 loc [] h P = P none h) := ⟨fun _ _ _ _ _ _ _ _ _ => (mFr_S mq66 h66_4).trans rfl,
  fun _ _ _ _ _ _ => F_get mq66 h66_5 (Or.inl (rfl : _ = some (100, 0, 8, 4))),
  fun _ _ _ _ _ _ _ _ _ => (mFr_S mq66 h66_8).trans rfl,
  fun _ _ _ _ _ _ _ => F_put mq66 h66_9 (Or.inr ⟨(rfl : _ = some (128, 1, 2, 1)), rfl⟩),
  fun _ _ _ _ => (mFr_S mq66 h66_12).trans rfl⟩
theorem E66_13 : (∀ (d : Nat) (l0 : Option Value) (l2 : Option Value) (l3 : Option Value) (l4 : Option Value) (x : Int32) (st : List Value) (h : MH) (P : MP), mFr d 66 13 [l0, some (.int x), l2, l3, l4] st h P = mFr d 66 14 [l0, some (.int x), l2, l3, l4] (.int x :: st) h P) ∧
  (∀ (d : Nat) (loc : List (Option Value)) (st : List Value) (h : MH) (P : MP), mFr d 66 14 loc st h P = mFr d 66 15 loc (.int 1 :: st) h P) ∧
  (∀ (d : Nat) (loc : List (Option Value)) (x y : Int32) (st : List Value) (h : MH) (P : MP), mFr d 66 15 loc (.int y :: .int x :: st) h P = if x = y then mFr d 66 18 loc (st) h P else mFr d 66 28 loc (st) h P) := ⟨fun _ _ _ _ _ _ _ _ _ => (mFr_S mq66 h66_13).trans rfl,
  fun _ _ _ _ _ => (mFr_S mq66 h66_14).trans rfl,
  fun _ _ _ _ _ _ _ => (F_icmp 28 mq66 h66_15 (by decide)).trans mif_ne⟩
theorem E66_18 : (∀ (d : Nat) (l1 : Option Value) (l2 : Option Value) (l3 : Option Value) (l4 : Option Value) (x : Nat) (st : List Value) (h : MH) (P : MP), mFr d 66 18 [some (.ref x), l1, l2, l3, l4] st h P = mFr d 66 19 [some (.ref x), l1, l2, l3, l4] (.ref x :: st) h P) ∧
  (∀ (d : Nat) (loc : List (Option Value)) (a : Nat) (st : List Value) (h : MH) (P : MP), mFr d 66 19 loc (.ref a :: st) h P = pget h a 8 4 (fun v => mFr d 66 22 loc (v :: st) h P)) ∧
  (∀ (d : Nat) (l0 : Option Value) (l1 : Option Value) (l3 : Option Value) (l4 : Option Value) (x : Int32) (st : List Value) (h : MH) (P : MP), mFr d 66 22 [l0, l1, some (.int x), l3, l4] st h P = mFr d 66 23 [l0, l1, some (.int x), l3, l4] (.int x :: st) h P) ∧
  (∀ (d : Nat) (l0 : Option Value) (l1 : Option Value) (l2 : Option Value) (l4 : Option Value) (x : Int32) (st : List Value) (h : MH) (P : MP), mFr d 66 23 [l0, l1, l2, some (.int x), l4] st h P = mFr d 66 24 [l0, l1, l2, some (.int x), l4] (.int x :: st) h P) ∧
  (∀ (d : Nat) (loc : List (Option Value)) (b : Nat) (a0 : Int32) (a1 : Int32) (h : MH) (P : MP), mFr d 66 24 loc ((.int a1) :: (.int a0) :: .ref b :: []) h P = if mrcv h b 2 = true then mRun d 18 [.ref b, .int a0, .int a1] h (fun v h' => mFr d 66 27 loc (v.toList ++ []) h' P) else False) ∧
  (∀ (d : Nat) (loc : List (Option Value)) (h : MH) (P : MP), mFr d 66 27 loc [] h P = P none h) := ⟨fun _ _ _ _ _ _ _ _ _ => (mFr_S mq66 h66_18).trans rfl,
  fun _ _ _ _ _ _ => F_get mq66 h66_19 (Or.inl (rfl : _ = some (100, 0, 8, 4))),
  fun _ _ _ _ _ _ _ _ _ => (mFr_S mq66 h66_22).trans rfl,
  fun _ _ _ _ _ _ _ _ _ => (mFr_S mq66 h66_23).trans rfl,
  fun _ _ b a0 a1 _ _ => F_callV (as := [.int a0, .int a1]) (rest := []) mq66 (Or.inl h66_24) (rfl : _ = some (167, 6, 18, 1)) (Or.inl ⟨h66_24, by decide⟩) (by rfl) (by rfl) (by rfl) (Nat.le_of_ble_eq_true rfl),
  fun _ _ _ _ => (mFr_S mq66 h66_27).trans rfl⟩
theorem E66_28 : (∀ (d : Nat) (l1 : Option Value) (l2 : Option Value) (l3 : Option Value) (l4 : Option Value) (x : Nat) (st : List Value) (h : MH) (P : MP), mFr d 66 28 [some (.ref x), l1, l2, l3, l4] st h P = mFr d 66 29 [some (.ref x), l1, l2, l3, l4] (.ref x :: st) h P) ∧
  (∀ (d : Nat) (loc : List (Option Value)) (a : Nat) (st : List Value) (h : MH) (P : MP), mFr d 66 29 loc (.ref a :: st) h P = pget h a 8 5 (fun v => mFr d 66 32 loc (v :: st) h P)) ∧
  (∀ (d : Nat) (l0 : Option Value) (l1 : Option Value) (l3 : Option Value) (l4 : Option Value) (x : Int32) (st : List Value) (h : MH) (P : MP), mFr d 66 32 [l0, l1, some (.int x), l3, l4] st h P = mFr d 66 33 [l0, l1, some (.int x), l3, l4] (.int x :: st) h P) ∧
  (∀ (d : Nat) (loc : List (Option Value)) (b : Nat) (a0 : Int32) (h : MH) (P : MP), mFr d 66 33 loc ((.int a0) :: .ref b :: []) h P = if mrcv h b 0 = true then mRun d 1 [.ref b, .int a0] h (fun v h' => mFr d 66 36 loc (v.toList ++ []) h' P) else False) ∧
  (∀ (d : Nat) (l0 : Option Value) (l1 : Option Value) (l2 : Option Value) (l3 : Option Value) (l4 : Option Value) (x : Nat) (st : List Value) (h : MH) (P : MP), mnl l3 = true → mFr d 66 36 [l0, l1, l2, l3, l4] (.ref x :: st) h P = mFr d 66 38 [l0, l1, l2, l3, some (.ref x)] (st) h P) ∧
  (∀ (d : Nat) (l0 : Option Value) (l1 : Option Value) (l2 : Option Value) (l3 : Option Value) (l4 : Option Value) (st : List Value) (h : MH) (P : MP), mnl l3 = true → mFr d 66 36 [l0, l1, l2, l3, l4] (.null :: st) h P = mFr d 66 38 [l0, l1, l2, l3, some .null] (st) h P) ∧
  (∀ (d : Nat) (l0 : Option Value) (l1 : Option Value) (l2 : Option Value) (l3 : Option Value) (x : Nat) (st : List Value) (h : MH) (P : MP), mFr d 66 38 [l0, l1, l2, l3, some (.ref x)] st h P = mFr d 66 40 [l0, l1, l2, l3, some (.ref x)] (.ref x :: st) h P) ∧
  (∀ (d : Nat) (l0 : Option Value) (l1 : Option Value) (l2 : Option Value) (l3 : Option Value) (st : List Value) (h : MH) (P : MP), mFr d 66 38 [l0, l1, l2, l3, some .null] st h P = mFr d 66 40 [l0, l1, l2, l3, some .null] (.null :: st) h P) ∧
  (∀ (d : Nat) (loc : List (Option Value)) (x : Nat) (st : List Value) (h : MH) (P : MP), mFr d 66 40 loc (.ref x :: st) h P = if x < 900 then mFr d 66 44 loc (st) h P else False) ∧
  (∀ (d : Nat) (loc : List (Option Value)) (st : List Value) (h : MH) (P : MP), mFr d 66 40 loc (.null :: st) h P = mFr d 66 43 loc (st) h P) := ⟨fun _ _ _ _ _ _ _ _ _ => (mFr_S mq66 h66_28).trans rfl,
  fun _ _ _ _ _ _ => F_get mq66 h66_29 (Or.inl (rfl : _ = some (25, 0, 8, 5))),
  fun _ _ _ _ _ _ _ _ _ => (mFr_S mq66 h66_32).trans rfl,
  fun _ _ b a0 _ _ => F_callV (as := [.int a0]) (rest := []) mq66 (Or.inl h66_33) (rfl : _ = some (135, 6, 1, 1)) (Or.inl ⟨h66_33, by decide⟩) (by rfl) (by rfl) (by rfl) (Nat.le_of_ble_eq_true rfl),
  fun _ _ _ _ _ _ _ _ _ _ hm => (mFr_S mq66 h66_36).trans (by simp only [mgo.eq_1, mstep, mi1, ml1, mast, mst, mst2, mprev, List.length_cons, List.length_nil, List.getElem?_cons_succ, List.getElem?_cons_zero, hm]; rfl),
  fun _ _ _ _ _ _ _ _ _ hm => (mFr_S mq66 h66_36).trans (by simp only [mgo.eq_1, mstep, mi1, ml1, mast, mst, mst2, mprev, List.length_cons, List.length_nil, List.getElem?_cons_succ, List.getElem?_cons_zero, hm]; rfl),
  fun _ _ _ _ _ _ _ _ _ => (mFr_S mq66 h66_38).trans rfl,
  fun _ _ _ _ _ _ _ _ => (mFr_S mq66 h66_38).trans rfl,
  fun _ _ _ _ _ _ => F_ifnonnullR 44 mq66 h66_40 (by decide),
  fun _ _ _ _ _ => (mFr_S mq66 h66_40).trans rfl⟩
theorem E66_43 : (∀ (d : Nat) (loc : List (Option Value)) (h : MH) (P : MP), mFr d 66 43 loc [] h P = P none h) := fun _ _ _ _ => (mFr_S mq66 h66_43).trans rfl
theorem E66_44 : (∀ (d : Nat) (l0 : Option Value) (l2 : Option Value) (l3 : Option Value) (l4 : Option Value) (x : Int32) (st : List Value) (h : MH) (P : MP), mFr d 66 44 [l0, some (.int x), l2, l3, l4] st h P = mFr d 66 45 [l0, some (.int x), l2, l3, l4] (.int x :: st) h P) ∧
  (∀ (d : Nat) (loc : List (Option Value)) (x : Int32) (st : List Value) (h : MH) (P : MP), mFr d 66 45 loc (.int x :: st) h P = if x = 2 then mFr d 66 76 loc (st) h P else if x = 3 then mFr d 66 85 loc (st) h P else if x = 4 then mFr d 66 94 loc (st) h P else if x = 5 then mFr d 66 103 loc (st) h P else mFr d 66 112 loc (st) h P) := ⟨fun _ _ _ _ _ _ _ _ _ => (mFr_S mq66 h66_44).trans rfl,
  fun _ _ _ _ _ _ => F_table 112 [(2, 76), (3, 85), (4, 94), (5, 103)] mq66 h66_45 (by decide) (by decide +kernel) (by decide)⟩
theorem E66_76 : (∀ (d : Nat) (l0 : Option Value) (l1 : Option Value) (l2 : Option Value) (l3 : Option Value) (x : Nat) (st : List Value) (h : MH) (P : MP), mFr d 66 76 [l0, l1, l2, l3, some (.ref x)] st h P = mFr d 66 78 [l0, l1, l2, l3, some (.ref x)] (.ref x :: st) h P) ∧
  (∀ (d : Nat) (l0 : Option Value) (l1 : Option Value) (l2 : Option Value) (l3 : Option Value) (st : List Value) (h : MH) (P : MP), mFr d 66 76 [l0, l1, l2, l3, some .null] st h P = mFr d 66 78 [l0, l1, l2, l3, some .null] (.null :: st) h P) ∧
  (∀ (d : Nat) (l0 : Option Value) (l1 : Option Value) (l2 : Option Value) (l4 : Option Value) (x : Int32) (st : List Value) (h : MH) (P : MP), mFr d 66 78 [l0, l1, l2, some (.int x), l4] st h P = mFr d 66 79 [l0, l1, l2, some (.int x), l4] (.int x :: st) h P) ∧
  (∀ (d : Nat) (loc : List (Option Value)) (a : Nat) (x : Int32) (st : List Value) (h : MH) (P : MP), mFr d 66 79 loc (.int x :: .ref a :: st) h P = pput h a 1 1 (.int x) (fun h' => mFr d 66 82 loc (st) h' P)) ∧
  (∀ (d : Nat) (loc : List (Option Value)) (st : List Value) (h : MH) (P : MP), mFr d 66 82 loc st h P = mFr d 66 112 loc (st) h P) := ⟨fun _ _ _ _ _ _ _ _ _ => (mFr_S mq66 h66_76).trans rfl,
  fun _ _ _ _ _ _ _ _ => (mFr_S mq66 h66_76).trans rfl,
  fun _ _ _ _ _ _ _ _ _ => (mFr_S mq66 h66_78).trans rfl,
  fun _ _ _ _ _ _ _ => F_put mq66 h66_79 (Or.inr ⟨(rfl : _ = some (139, 1, 1, 1)), rfl⟩),
  fun _ _ _ _ _ => F_goto 112 mq66 h66_82 (by decide)⟩
theorem E66_85 : (∀ (d : Nat) (l0 : Option Value) (l1 : Option Value) (l2 : Option Value) (l3 : Option Value) (x : Nat) (st : List Value) (h : MH) (P : MP), mFr d 66 85 [l0, l1, l2, l3, some (.ref x)] st h P = mFr d 66 87 [l0, l1, l2, l3, some (.ref x)] (.ref x :: st) h P) ∧
  (∀ (d : Nat) (l0 : Option Value) (l1 : Option Value) (l2 : Option Value) (l3 : Option Value) (st : List Value) (h : MH) (P : MP), mFr d 66 85 [l0, l1, l2, l3, some .null] st h P = mFr d 66 87 [l0, l1, l2, l3, some .null] (.null :: st) h P) ∧
  (∀ (d : Nat) (l0 : Option Value) (l1 : Option Value) (l2 : Option Value) (l4 : Option Value) (x : Int32) (st : List Value) (h : MH) (P : MP), mFr d 66 87 [l0, l1, l2, some (.int x), l4] st h P = mFr d 66 88 [l0, l1, l2, some (.int x), l4] (.int x :: st) h P) ∧
  (∀ (d : Nat) (loc : List (Option Value)) (a : Nat) (x : Int32) (st : List Value) (h : MH) (P : MP), mFr d 66 88 loc (.int x :: .ref a :: st) h P = pput h a 1 2 (.int x) (fun h' => mFr d 66 91 loc (st) h' P)) ∧
  (∀ (d : Nat) (loc : List (Option Value)) (st : List Value) (h : MH) (P : MP), mFr d 66 91 loc st h P = mFr d 66 112 loc (st) h P) := ⟨fun _ _ _ _ _ _ _ _ _ => (mFr_S mq66 h66_85).trans rfl,
  fun _ _ _ _ _ _ _ _ => (mFr_S mq66 h66_85).trans rfl,
  fun _ _ _ _ _ _ _ _ _ => (mFr_S mq66 h66_87).trans rfl,
  fun _ _ _ _ _ _ _ => F_put mq66 h66_88 (Or.inr ⟨(rfl : _ = some (142, 1, 1, 2)), rfl⟩),
  fun _ _ _ _ _ => F_goto 112 mq66 h66_91 (by decide)⟩
theorem E66_94 : (∀ (d : Nat) (l0 : Option Value) (l1 : Option Value) (l2 : Option Value) (l3 : Option Value) (x : Nat) (st : List Value) (h : MH) (P : MP), mFr d 66 94 [l0, l1, l2, l3, some (.ref x)] st h P = mFr d 66 96 [l0, l1, l2, l3, some (.ref x)] (.ref x :: st) h P) ∧
  (∀ (d : Nat) (l0 : Option Value) (l1 : Option Value) (l2 : Option Value) (l3 : Option Value) (st : List Value) (h : MH) (P : MP), mFr d 66 94 [l0, l1, l2, l3, some .null] st h P = mFr d 66 96 [l0, l1, l2, l3, some .null] (.null :: st) h P) ∧
  (∀ (d : Nat) (l0 : Option Value) (l1 : Option Value) (l2 : Option Value) (l4 : Option Value) (x : Int32) (st : List Value) (h : MH) (P : MP), mFr d 66 96 [l0, l1, l2, some (.int x), l4] st h P = mFr d 66 97 [l0, l1, l2, some (.int x), l4] (.int x :: st) h P) ∧
  (∀ (d : Nat) (loc : List (Option Value)) (a : Nat) (x : Int32) (st : List Value) (h : MH) (P : MP), mFr d 66 97 loc (.int x :: .ref a :: st) h P = pput h a 1 3 (.int x) (fun h' => mFr d 66 100 loc (st) h' P)) ∧
  (∀ (d : Nat) (loc : List (Option Value)) (st : List Value) (h : MH) (P : MP), mFr d 66 100 loc st h P = mFr d 66 112 loc (st) h P) := ⟨fun _ _ _ _ _ _ _ _ _ => (mFr_S mq66 h66_94).trans rfl,
  fun _ _ _ _ _ _ _ _ => (mFr_S mq66 h66_94).trans rfl,
  fun _ _ _ _ _ _ _ _ _ => (mFr_S mq66 h66_96).trans rfl,
  fun _ _ _ _ _ _ _ => F_put mq66 h66_97 (Or.inr ⟨(rfl : _ = some (145, 1, 1, 3)), rfl⟩),
  fun _ _ _ _ _ => F_goto 112 mq66 h66_100 (by decide)⟩
theorem E66_103 : (∀ (d : Nat) (l0 : Option Value) (l1 : Option Value) (l2 : Option Value) (l3 : Option Value) (x : Nat) (st : List Value) (h : MH) (P : MP), mFr d 66 103 [l0, l1, l2, l3, some (.ref x)] st h P = mFr d 66 105 [l0, l1, l2, l3, some (.ref x)] (.ref x :: st) h P) ∧
  (∀ (d : Nat) (l0 : Option Value) (l1 : Option Value) (l2 : Option Value) (l3 : Option Value) (st : List Value) (h : MH) (P : MP), mFr d 66 103 [l0, l1, l2, l3, some .null] st h P = mFr d 66 105 [l0, l1, l2, l3, some .null] (.null :: st) h P) ∧
  (∀ (d : Nat) (l0 : Option Value) (l1 : Option Value) (l2 : Option Value) (l4 : Option Value) (x : Int32) (st : List Value) (h : MH) (P : MP), mFr d 66 105 [l0, l1, l2, some (.int x), l4] st h P = mFr d 66 106 [l0, l1, l2, some (.int x), l4] (.int x :: st) h P) ∧
  (∀ (d : Nat) (loc : List (Option Value)) (a : Nat) (x : Int32) (st : List Value) (h : MH) (P : MP), mFr d 66 106 loc (.int x :: .ref a :: st) h P = pput h a 1 4 (.int x) (fun h' => mFr d 66 109 loc (st) h' P)) ∧
  (∀ (d : Nat) (loc : List (Option Value)) (st : List Value) (h : MH) (P : MP), mFr d 66 109 loc st h P = mFr d 66 112 loc (st) h P) := ⟨fun _ _ _ _ _ _ _ _ _ => (mFr_S mq66 h66_103).trans rfl,
  fun _ _ _ _ _ _ _ _ => (mFr_S mq66 h66_103).trans rfl,
  fun _ _ _ _ _ _ _ _ _ => (mFr_S mq66 h66_105).trans rfl,
  fun _ _ _ _ _ _ _ => F_put mq66 h66_106 (Or.inr ⟨(rfl : _ = some (148, 1, 1, 4)), rfl⟩),
  fun _ _ _ _ _ => F_goto 112 mq66 h66_109 (by decide)⟩
theorem E66_112 : (∀ (d : Nat) (loc : List (Option Value)) (h : MH) (P : MP), mFr d 66 112 loc [] h P = P none h) := fun _ _ _ _ => (mFr_S mq66 h66_112).trans rfl
theorem B66 : ∀ (d : Nat) (b : Nat) (a0 : Int32) (a1 : Int32) (a2 : Int32) (h : MH) (P : MP), mRun (d + 1) 66 [.ref b, .int a0, .int a1, .int a2] h P = mFr d 66 0 [some (.ref b), some (.int a0), some (.int a1), some (.int a2), none] [] h P := fun _ _ _ _ _ _ _ => mRun_S mq66 (Nat.le_of_ble_eq_true rfl)
-- 67: PuncturesAreViews.feed(I)I
def q67 : MI := (yX8_feed, cX8_feed, 2, (some .int), 8, 1)
theorem mq67 : mtab[67]? = some q67 := rfl
theorem h67_0 : mfetch q67.2.1 0 = some (.iload_n 1) := by decide +kernel
theorem h67_1 : mfetch q67.2.1 1 = some (.ifCond .lt 10) := by decide +kernel
theorem h67_4 : mfetch q67.2.1 4 = some (.iload_n 1) := by decide +kernel
theorem h67_5 : mfetch q67.2.1 5 = some (.sipush 255) := by decide +kernel
theorem h67_8 : mfetch q67.2.1 8 = some (.if_icmp .le 6) := by decide +kernel
theorem h67_11 : mfetch q67.2.1 11 = some (.bipush (-2)) := by decide +kernel
theorem h67_13 : mfetch q67.2.1 13 = some (.ireturn) := by decide +kernel
theorem h67_14 : mfetch q67.2.1 14 = some (.aload_n 0) := by decide +kernel
theorem h67_15 : mfetch q67.2.1 15 = some (.getfield 18) := by decide +kernel
theorem h67_18 : mfetch q67.2.1 18 = some (.iload_n 1) := by decide +kernel
theorem h67_19 : mfetch q67.2.1 19 = some (.invokevirtual 80) := by decide +kernel
theorem h67_22 : mfetch q67.2.1 22 = some (.ifCond .eq 13) := by decide +kernel
theorem h67_25 : mfetch q67.2.1 25 = some (.aload_n 0) := by decide +kernel
theorem h67_26 : mfetch q67.2.1 26 = some (.getfield 18) := by decide +kernel
theorem h67_29 : mfetch q67.2.1 29 = some (.getfield 88) := by decide +kernel
theorem h67_32 : mfetch q67.2.1 32 = some (.goto 5) := by decide +kernel
theorem h67_35 : mfetch q67.2.1 35 = some (.bipush (-4)) := by decide +kernel
theorem h67_37 : mfetch q67.2.1 37 = some (.ireturn) := by decide +kernel
theorem E67_0 : (∀ (d : Nat) (l0 : Option Value) (x : Int32) (st : List Value) (h : MH) (P : MP), mFr d 67 0 [l0, some (.int x)] st h P = mFr d 67 1 [l0, some (.int x)] (.int x :: st) h P) ∧
  (∀ (d : Nat) (loc : List (Option Value)) (x : Int32) (st : List Value) (h : MH) (P : MP), mFr d 67 1 loc (.int x :: st) h P = if x < 0 then mFr d 67 11 loc (st) h P else mFr d 67 4 loc (st) h P) := ⟨fun _ _ _ _ _ _ => (mFr_S mq67 h67_0).trans rfl,
  fun _ _ _ _ _ _ => (F_ifz 11 mq67 h67_1 (by decide)).trans mif_lt⟩
theorem E67_4 : (∀ (d : Nat) (l0 : Option Value) (x : Int32) (st : List Value) (h : MH) (P : MP), mFr d 67 4 [l0, some (.int x)] st h P = mFr d 67 5 [l0, some (.int x)] (.int x :: st) h P) ∧
  (∀ (d : Nat) (loc : List (Option Value)) (st : List Value) (h : MH) (P : MP), mFr d 67 5 loc st h P = mFr d 67 8 loc (.int 255 :: st) h P) ∧
  (∀ (d : Nat) (loc : List (Option Value)) (x y : Int32) (st : List Value) (h : MH) (P : MP), mFr d 67 8 loc (.int y :: .int x :: st) h P = if y < x then mFr d 67 11 loc (st) h P else mFr d 67 14 loc (st) h P) := ⟨fun _ _ _ _ _ _ => (mFr_S mq67 h67_4).trans rfl,
  fun _ _ _ _ _ => (mFr_S mq67 h67_5).trans rfl,
  fun _ _ _ _ _ _ _ => (F_icmp 14 mq67 h67_8 (by decide)).trans mif_le⟩
theorem E67_11 : (∀ (d : Nat) (loc : List (Option Value)) (st : List Value) (h : MH) (P : MP), mFr d 67 11 loc st h P = mFr d 67 13 loc (.int (-2) :: st) h P) ∧
  (∀ (d : Nat) (loc : List (Option Value)) (x : Int32) (h : MH) (P : MP), mFr d 67 13 loc [.int x] h P = P (some (.int x)) h) := ⟨fun _ _ _ _ _ => (mFr_S mq67 h67_11).trans rfl,
  fun _ _ _ _ _ => F_ret mq67 h67_13 rfl rfl⟩
theorem E67_14 : (∀ (d : Nat) (l1 : Option Value) (x : Nat) (st : List Value) (h : MH) (P : MP), mFr d 67 14 [some (.ref x), l1] st h P = mFr d 67 15 [some (.ref x), l1] (.ref x :: st) h P) ∧
  (∀ (d : Nat) (loc : List (Option Value)) (a : Nat) (st : List Value) (h : MH) (P : MP), mFr d 67 15 loc (.ref a :: st) h P = pget h a 8 1 (fun v => mFr d 67 18 loc (v :: st) h P)) ∧
  (∀ (d : Nat) (l0 : Option Value) (x : Int32) (st : List Value) (h : MH) (P : MP), mFr d 67 18 [l0, some (.int x)] st h P = mFr d 67 19 [l0, some (.int x)] (.int x :: st) h P) ∧
  (∀ (d : Nat) (loc : List (Option Value)) (b : Nat) (a0 : Int32) (h : MH) (P : MP), mFr d 67 19 loc ((.int a0) :: .ref b :: []) h P = if mrcv h b 4 = true then mRun d 27 [.ref b, .int a0] h (fun v h' => mFr d 67 22 loc (v.toList ++ []) h' P) else False) ∧
  (∀ (d : Nat) (loc : List (Option Value)) (x : Int32) (st : List Value) (h : MH) (P : MP), mFr d 67 22 loc (.int x :: st) h P = if x = 0 then mFr d 67 35 loc (st) h P else mFr d 67 25 loc (st) h P) := ⟨fun _ _ _ _ _ _ => (mFr_S mq67 h67_14).trans rfl,
  fun _ _ _ _ _ _ => F_get mq67 h67_15 (Or.inl (rfl : _ = some (18, 0, 8, 1))),
  fun _ _ _ _ _ _ => (mFr_S mq67 h67_18).trans rfl,
  fun _ _ b a0 _ _ => F_callV (as := [.int a0]) (rest := []) mq67 (Or.inl h67_19) (rfl : _ = some (80, 6, 27, 1)) (Or.inl ⟨h67_19, by decide⟩) (by rfl) (by rfl) (by rfl) (Nat.le_of_ble_eq_true rfl),
  fun _ _ _ _ _ _ => (F_ifz 35 mq67 h67_22 (by decide)).trans mif_eq⟩
theorem E67_25 : (∀ (d : Nat) (l1 : Option Value) (x : Nat) (st : List Value) (h : MH) (P : MP), mFr d 67 25 [some (.ref x), l1] st h P = mFr d 67 26 [some (.ref x), l1] (.ref x :: st) h P) ∧
  (∀ (d : Nat) (loc : List (Option Value)) (a : Nat) (st : List Value) (h : MH) (P : MP), mFr d 67 26 loc (.ref a :: st) h P = pget h a 8 1 (fun v => mFr d 67 29 loc (v :: st) h P)) ∧
  (∀ (d : Nat) (loc : List (Option Value)) (a : Nat) (st : List Value) (h : MH) (P : MP), mFr d 67 29 loc (.ref a :: st) h P = pget h a 4 1 (fun v => mFr d 67 32 loc (v :: st) h P)) ∧
  (∀ (d : Nat) (loc : List (Option Value)) (st : List Value) (h : MH) (P : MP), mFr d 67 32 loc st h P = mFr d 67 37 loc (st) h P) := ⟨fun _ _ _ _ _ _ => (mFr_S mq67 h67_25).trans rfl,
  fun _ _ _ _ _ _ => F_get mq67 h67_26 (Or.inl (rfl : _ = some (18, 0, 8, 1))),
  fun _ _ _ _ _ _ => F_get mq67 h67_29 (Or.inr (rfl : _ = some (88, 1, 4, 1))),
  fun _ _ _ _ _ => F_goto 37 mq67 h67_32 (by decide)⟩
theorem E67_35 : (∀ (d : Nat) (loc : List (Option Value)) (st : List Value) (h : MH) (P : MP), mFr d 67 35 loc st h P = mFr d 67 37 loc (.int (-4) :: st) h P) := fun _ _ _ _ _ => (mFr_S mq67 h67_35).trans rfl
theorem E67_37 : (∀ (d : Nat) (loc : List (Option Value)) (x : Int32) (h : MH) (P : MP), mFr d 67 37 loc [.int x] h P = P (some (.int x)) h) := fun _ _ _ _ _ => F_ret mq67 h67_37 rfl rfl
theorem B67 : ∀ (d : Nat) (b : Nat) (a0 : Int32) (h : MH) (P : MP), mRun (d + 1) 67 [.ref b, .int a0] h P = mFr d 67 0 [some (.ref b), some (.int a0)] [] h P := fun _ _ _ _ _ => mRun_S mq67 (Nat.le_of_ble_eq_true rfl)
-- 68: PuncturesAreViews.text()I
def q68 : MI := (yX8_text, cX8_text, 2, (some .int), 8, 0)
theorem mq68 : mtab[68]? = some q68 := rfl
theorem h68_0 : mfetch q68.2.1 0 = some (.aload_n 0) := by decide +kernel
theorem h68_1 : mfetch q68.2.1 1 = some (.getfield 92) := by decide +kernel
theorem h68_4 : mfetch q68.2.1 4 = some (.aload_n 0) := by decide +kernel
theorem h68_5 : mfetch q68.2.1 5 = some (.getfield 11) := by decide +kernel
theorem h68_8 : mfetch q68.2.1 8 = some (.arraylength) := by decide +kernel
theorem h68_9 : mfetch q68.2.1 9 = some (.if_icmp .lt 6) := by decide +kernel
theorem h68_12 : mfetch q68.2.1 12 = some (.bipush (-4)) := by decide +kernel
theorem h68_14 : mfetch q68.2.1 14 = some (.ireturn) := by decide +kernel
theorem h68_15 : mfetch q68.2.1 15 = some (.aload_n 0) := by decide +kernel
theorem h68_16 : mfetch q68.2.1 16 = some (.getfield 64) := by decide +kernel
theorem h68_19 : mfetch q68.2.1 19 = some (.aload_n 0) := by decide +kernel
theorem h68_20 : mfetch q68.2.1 20 = some (.getfield 11) := by decide +kernel
theorem h68_23 : mfetch q68.2.1 23 = some (.aload_n 0) := by decide +kernel
theorem h68_24 : mfetch q68.2.1 24 = some (.getfield 92) := by decide +kernel
theorem h68_27 : mfetch q68.2.1 27 = some (.aaload) := by decide +kernel
theorem h68_28 : mfetch q68.2.1 28 = some (.invokevirtual 84) := by decide +kernel
theorem h68_31 : mfetch q68.2.1 31 = some (.istore_n 1) := by decide +kernel
theorem h68_32 : mfetch q68.2.1 32 = some (.aload_n 0) := by decide +kernel
theorem h68_33 : mfetch q68.2.1 33 = some (.getfield 18) := by decide +kernel
theorem h68_36 : mfetch q68.2.1 36 = some (.iconst 0) := by decide +kernel
theorem h68_37 : mfetch q68.2.1 37 = some (.putfield 88) := by decide +kernel
theorem h68_40 : mfetch q68.2.1 40 = some (.iload_n 1) := by decide +kernel
theorem h68_41 : mfetch q68.2.1 41 = some (.iconst (-1)) := by decide +kernel
theorem h68_42 : mfetch q68.2.1 42 = some (.if_icmp .eq 8) := by decide +kernel
theorem h68_45 : mfetch q68.2.1 45 = some (.bipush (-100)) := by decide +kernel
theorem h68_47 : mfetch q68.2.1 47 = some (.iload_n 1) := by decide +kernel
theorem h68_48 : mfetch q68.2.1 48 = some (.isub) := by decide +kernel
theorem h68_49 : mfetch q68.2.1 49 = some (.ireturn) := by decide +kernel
theorem h68_50 : mfetch q68.2.1 50 = some (.aload_n 0) := by decide +kernel
theorem h68_51 : mfetch q68.2.1 51 = some (.dup) := by decide +kernel
theorem h68_52 : mfetch q68.2.1 52 = some (.getfield 92) := by decide +kernel
theorem h68_55 : mfetch q68.2.1 55 = some (.iconst 1) := by decide +kernel
theorem h68_56 : mfetch q68.2.1 56 = some (.iadd) := by decide +kernel
theorem h68_57 : mfetch q68.2.1 57 = some (.putfield 92) := by decide +kernel
theorem h68_60 : mfetch q68.2.1 60 = some (.aload_n 0) := by decide +kernel
theorem h68_61 : mfetch q68.2.1 61 = some (.getfield 92) := by decide +kernel
theorem h68_64 : mfetch q68.2.1 64 = some (.iconst 1) := by decide +kernel
theorem h68_65 : mfetch q68.2.1 65 = some (.isub) := by decide +kernel
theorem h68_66 : mfetch q68.2.1 66 = some (.ireturn) := by decide +kernel
theorem E68_0 : (∀ (d : Nat) (l1 : Option Value) (x : Nat) (st : List Value) (h : MH) (P : MP), mFr d 68 0 [some (.ref x), l1] st h P = mFr d 68 1 [some (.ref x), l1] (.ref x :: st) h P) ∧
  (∀ (d : Nat) (loc : List (Option Value)) (a : Nat) (st : List Value) (h : MH) (P : MP), mFr d 68 1 loc (.ref a :: st) h P = pget h a 8 3 (fun v => mFr d 68 4 loc (v :: st) h P)) ∧
  (∀ (d : Nat) (l1 : Option Value) (x : Nat) (st : List Value) (h : MH) (P : MP), mFr d 68 4 [some (.ref x), l1] st h P = mFr d 68 5 [some (.ref x), l1] (.ref x :: st) h P) ∧
  (∀ (d : Nat) (loc : List (Option Value)) (a : Nat) (st : List Value) (h : MH) (P : MP), mFr d 68 5 loc (.ref a :: st) h P = pget h a 8 0 (fun v => mFr d 68 8 loc (v :: st) h P)) ∧
  (∀ (d : Nat) (loc : List (Option Value)) (a : Nat) (st : List Value) (h : MH) (P : MP), mFr d 68 8 loc (.ref a :: st) h P = palen h a (fun n => mFr d 68 9 loc (.int (Int32.ofNat n) :: st) h P)) ∧
  (∀ (d : Nat) (loc : List (Option Value)) (x y : Int32) (st : List Value) (h : MH) (P : MP), mFr d 68 9 loc (.int y :: .int x :: st) h P = if x < y then mFr d 68 15 loc (st) h P else mFr d 68 12 loc (st) h P) := ⟨fun _ _ _ _ _ _ => (mFr_S mq68 h68_0).trans rfl,
  fun _ _ _ _ _ _ => F_get mq68 h68_1 (Or.inl (rfl : _ = some (92, 0, 8, 3))),
  fun _ _ _ _ _ _ => (mFr_S mq68 h68_4).trans rfl,
  fun _ _ _ _ _ _ => F_get mq68 h68_5 (Or.inl (rfl : _ = some (11, 0, 8, 0))),
  fun _ _ _ _ _ _ => F_alen mq68 h68_8,
  fun _ _ _ _ _ _ _ => (F_icmp 15 mq68 h68_9 (by decide)).trans mif_lt⟩
theorem E68_12 : (∀ (d : Nat) (loc : List (Option Value)) (st : List Value) (h : MH) (P : MP), mFr d 68 12 loc st h P = mFr d 68 14 loc (.int (-4) :: st) h P) ∧
  (∀ (d : Nat) (loc : List (Option Value)) (x : Int32) (h : MH) (P : MP), mFr d 68 14 loc [.int x] h P = P (some (.int x)) h) := ⟨fun _ _ _ _ _ => (mFr_S mq68 h68_12).trans rfl,
  fun _ _ _ _ _ => F_ret mq68 h68_14 rfl rfl⟩
theorem E68_15 : (∀ (d : Nat) (l1 : Option Value) (x : Nat) (st : List Value) (h : MH) (P : MP), mFr d 68 15 [some (.ref x), l1] st h P = mFr d 68 16 [some (.ref x), l1] (.ref x :: st) h P) ∧
  (∀ (d : Nat) (loc : List (Option Value)) (a : Nat) (st : List Value) (h : MH) (P : MP), mFr d 68 16 loc (.ref a :: st) h P = pget h a 8 2 (fun v => mFr d 68 19 loc (v :: st) h P)) ∧
  (∀ (d : Nat) (l1 : Option Value) (x : Nat) (st : List Value) (h : MH) (P : MP), mFr d 68 19 [some (.ref x), l1] st h P = mFr d 68 20 [some (.ref x), l1] (.ref x :: st) h P) ∧
  (∀ (d : Nat) (loc : List (Option Value)) (a : Nat) (st : List Value) (h : MH) (P : MP), mFr d 68 20 loc (.ref a :: st) h P = pget h a 8 0 (fun v => mFr d 68 23 loc (v :: st) h P)) ∧
  (∀ (d : Nat) (l1 : Option Value) (x : Nat) (st : List Value) (h : MH) (P : MP), mFr d 68 23 [some (.ref x), l1] st h P = mFr d 68 24 [some (.ref x), l1] (.ref x :: st) h P) ∧
  (∀ (d : Nat) (loc : List (Option Value)) (a : Nat) (st : List Value) (h : MH) (P : MP), mFr d 68 24 loc (.ref a :: st) h P = pget h a 8 3 (fun v => mFr d 68 27 loc (v :: st) h P)) ∧
  (∀ (d : Nat) (loc : List (Option Value)) (a : Nat) (i : Int32) (st : List Value) (h : MH) (P : MP), mFr d 68 27 loc (.int i :: .ref a :: st) h P = paal h a i (fun v => mFr d 68 28 loc (v :: st) h P)) ∧
  (∀ (d : Nat) (loc : List (Option Value)) (b : Nat) (a0 : Nat) (h : MH) (P : MP), mFr d 68 28 loc ((.ref a0) :: .ref b :: []) h P = if mrcv h b 6 = true then mRun d 38 [.ref b, .ref a0] h (fun v h' => mFr d 68 31 loc (v.toList ++ []) h' P) else False) ∧
  (∀ (d : Nat) (l0 : Option Value) (l1 : Option Value) (x : Int32) (st : List Value) (h : MH) (P : MP), mnl l0 = true → mFr d 68 31 [l0, l1] (.int x :: st) h P = mFr d 68 32 [l0, some (.int x)] (st) h P) ∧
  (∀ (d : Nat) (l1 : Option Value) (x : Nat) (st : List Value) (h : MH) (P : MP), mFr d 68 32 [some (.ref x), l1] st h P = mFr d 68 33 [some (.ref x), l1] (.ref x :: st) h P) ∧
  (∀ (d : Nat) (loc : List (Option Value)) (a : Nat) (st : List Value) (h : MH) (P : MP), mFr d 68 33 loc (.ref a :: st) h P = pget h a 8 1 (fun v => mFr d 68 36 loc (v :: st) h P)) ∧
  (∀ (d : Nat) (loc : List (Option Value)) (st : List Value) (h : MH) (P : MP), mFr d 68 36 loc st h P = mFr d 68 37 loc (.int 0 :: st) h P) ∧
  (∀ (d : Nat) (loc : List (Option Value)) (a : Nat) (x : Int32) (st : List Value) (h : MH) (P : MP), mFr d 68 37 loc (.int x :: .ref a :: st) h P = pput h a 4 1 (.int x) (fun h' => mFr d 68 40 loc (st) h' P)) ∧
  (∀ (d : Nat) (l0 : Option Value) (x : Int32) (st : List Value) (h : MH) (P : MP), mFr d 68 40 [l0, some (.int x)] st h P = mFr d 68 41 [l0, some (.int x)] (.int x :: st) h P) ∧
  (∀ (d : Nat) (loc : List (Option Value)) (st : List Value) (h : MH) (P : MP), mFr d 68 41 loc st h P = mFr d 68 42 loc (.int (-1) :: st) h P) ∧
  (∀ (d : Nat) (loc : List (Option Value)) (x y : Int32) (st : List Value) (h : MH) (P : MP), mFr d 68 42 loc (.int y :: .int x :: st) h P = if x = y then mFr d 68 50 loc (st) h P else mFr d 68 45 loc (st) h P) := ⟨fun _ _ _ _ _ _ => (mFr_S mq68 h68_15).trans rfl,
  fun _ _ _ _ _ _ => F_get mq68 h68_16 (Or.inl (rfl : _ = some (64, 0, 8, 2))),
  fun _ _ _ _ _ _ => (mFr_S mq68 h68_19).trans rfl,
  fun _ _ _ _ _ _ => F_get mq68 h68_20 (Or.inl (rfl : _ = some (11, 0, 8, 0))),
  fun _ _ _ _ _ _ => (mFr_S mq68 h68_23).trans rfl,
  fun _ _ _ _ _ _ => F_get mq68 h68_24 (Or.inl (rfl : _ = some (92, 0, 8, 3))),
  fun _ _ _ _ _ _ _ => F_aald mq68 h68_27,
  fun _ _ b a0 _ _ => F_callV (as := [.ref a0]) (rest := []) mq68 (Or.inl h68_28) (rfl : _ = some (84, 6, 38, 1)) (Or.inl ⟨h68_28, by decide⟩) (by rfl) (by rfl) (by rfl) (Nat.le_of_ble_eq_true rfl),
  fun _ _ _ _ _ _ _ hm => (mFr_S mq68 h68_31).trans (by simp only [mgo.eq_1, mstep, mi1, ml1, mast, mst, mst2, mprev, List.length_cons, List.length_nil, List.getElem?_cons_succ, List.getElem?_cons_zero, hm]; rfl),
  fun _ _ _ _ _ _ => (mFr_S mq68 h68_32).trans rfl,
  fun _ _ _ _ _ _ => F_get mq68 h68_33 (Or.inl (rfl : _ = some (18, 0, 8, 1))),
  fun _ _ _ _ _ => (mFr_S mq68 h68_36).trans rfl,
  fun _ _ _ _ _ _ _ => F_put mq68 h68_37 (Or.inr ⟨(rfl : _ = some (88, 1, 4, 1)), rfl⟩),
  fun _ _ _ _ _ _ => (mFr_S mq68 h68_40).trans rfl,
  fun _ _ _ _ _ => (mFr_S mq68 h68_41).trans rfl,
  fun _ _ _ _ _ _ _ => (F_icmp 50 mq68 h68_42 (by decide)).trans mif_eq⟩
theorem E68_45 : (∀ (d : Nat) (loc : List (Option Value)) (st : List Value) (h : MH) (P : MP), mFr d 68 45 loc st h P = mFr d 68 47 loc (.int (-100) :: st) h P) ∧
  (∀ (d : Nat) (l0 : Option Value) (x : Int32) (st : List Value) (h : MH) (P : MP), mFr d 68 47 [l0, some (.int x)] st h P = mFr d 68 48 [l0, some (.int x)] (.int x :: st) h P) ∧
  (∀ (d : Nat) (loc : List (Option Value)) (x y : Int32) (st : List Value) (h : MH) (P : MP), mFr d 68 48 loc (.int y :: .int x :: st) h P = mFr d 68 49 loc (.int (x - y) :: st) h P) ∧
  (∀ (d : Nat) (loc : List (Option Value)) (x : Int32) (h : MH) (P : MP), mFr d 68 49 loc [.int x] h P = P (some (.int x)) h) := ⟨fun _ _ _ _ _ => (mFr_S mq68 h68_45).trans rfl,
  fun _ _ _ _ _ _ => (mFr_S mq68 h68_47).trans rfl,
  fun _ _ _ _ _ _ _ => (mFr_S mq68 h68_48).trans rfl,
  fun _ _ _ _ _ => F_ret mq68 h68_49 rfl rfl⟩
theorem E68_50 : (∀ (d : Nat) (l1 : Option Value) (x : Nat) (st : List Value) (h : MH) (P : MP), mFr d 68 50 [some (.ref x), l1] st h P = mFr d 68 51 [some (.ref x), l1] (.ref x :: st) h P) ∧
  (∀ (d : Nat) (loc : List (Option Value)) (x : Nat) (st : List Value) (h : MH) (P : MP), mFr d 68 51 loc (.ref x :: st) h P = mFr d 68 52 loc (.ref x :: .ref x :: st) h P) ∧
  (∀ (d : Nat) (loc : List (Option Value)) (a : Nat) (st : List Value) (h : MH) (P : MP), mFr d 68 52 loc (.ref a :: st) h P = pget h a 8 3 (fun v => mFr d 68 55 loc (v :: st) h P)) ∧
  (∀ (d : Nat) (loc : List (Option Value)) (st : List Value) (h : MH) (P : MP), mFr d 68 55 loc st h P = mFr d 68 56 loc (.int 1 :: st) h P) ∧
  (∀ (d : Nat) (loc : List (Option Value)) (x y : Int32) (st : List Value) (h : MH) (P : MP), mFr d 68 56 loc (.int y :: .int x :: st) h P = mFr d 68 57 loc (.int (x + y) :: st) h P) ∧
  (∀ (d : Nat) (loc : List (Option Value)) (a : Nat) (x : Int32) (st : List Value) (h : MH) (P : MP), mFr d 68 57 loc (.int x :: .ref a :: st) h P = pput h a 8 3 (.int x) (fun h' => mFr d 68 60 loc (st) h' P)) ∧
  (∀ (d : Nat) (l1 : Option Value) (x : Nat) (st : List Value) (h : MH) (P : MP), mFr d 68 60 [some (.ref x), l1] st h P = mFr d 68 61 [some (.ref x), l1] (.ref x :: st) h P) ∧
  (∀ (d : Nat) (loc : List (Option Value)) (a : Nat) (st : List Value) (h : MH) (P : MP), mFr d 68 61 loc (.ref a :: st) h P = pget h a 8 3 (fun v => mFr d 68 64 loc (v :: st) h P)) ∧
  (∀ (d : Nat) (loc : List (Option Value)) (st : List Value) (h : MH) (P : MP), mFr d 68 64 loc st h P = mFr d 68 65 loc (.int 1 :: st) h P) ∧
  (∀ (d : Nat) (loc : List (Option Value)) (x y : Int32) (st : List Value) (h : MH) (P : MP), mFr d 68 65 loc (.int y :: .int x :: st) h P = mFr d 68 66 loc (.int (x - y) :: st) h P) ∧
  (∀ (d : Nat) (loc : List (Option Value)) (x : Int32) (h : MH) (P : MP), mFr d 68 66 loc [.int x] h P = P (some (.int x)) h) := ⟨fun _ _ _ _ _ _ => (mFr_S mq68 h68_50).trans rfl,
  fun _ _ _ _ _ _ => (mFr_S mq68 h68_51).trans rfl,
  fun _ _ _ _ _ _ => F_get mq68 h68_52 (Or.inl (rfl : _ = some (92, 0, 8, 3))),
  fun _ _ _ _ _ => (mFr_S mq68 h68_55).trans rfl,
  fun _ _ _ _ _ _ _ => (mFr_S mq68 h68_56).trans rfl,
  fun _ _ _ _ _ _ _ => F_put mq68 h68_57 (Or.inl ⟨(rfl : _ = some (92, 0, 8, 3)), Or.inl rfl⟩),
  fun _ _ _ _ _ _ => (mFr_S mq68 h68_60).trans rfl,
  fun _ _ _ _ _ _ => F_get mq68 h68_61 (Or.inl (rfl : _ = some (92, 0, 8, 3))),
  fun _ _ _ _ _ => (mFr_S mq68 h68_64).trans rfl,
  fun _ _ _ _ _ _ _ => (mFr_S mq68 h68_65).trans rfl,
  fun _ _ _ _ _ => F_ret mq68 h68_66 rfl rfl⟩
theorem B68 : ∀ (d : Nat) (b : Nat) (h : MH) (P : MP), mRun (d + 1) 68 [.ref b] h P = mFr d 68 0 [some (.ref b), none] [] h P := fun _ _ _ _ => mRun_S mq68 (Nat.le_of_ble_eq_true rfl)
-- 69: PuncturesAreViews.force(I)I
def q69 : MI := (yX8_force, cX8_force, 4, (some .int), 8, 1)
theorem mq69 : mtab[69]? = some q69 := rfl
theorem h69_0 : mfetch q69.2.1 0 = some (.aload_n 0) := by decide +kernel
theorem h69_1 : mfetch q69.2.1 1 = some (.iload_n 1) := by decide +kernel
theorem h69_2 : mfetch q69.2.1 2 = some (.invokevirtual 171) := by decide +kernel
theorem h69_5 : mfetch q69.2.1 5 = some (.astore_n 2) := by decide +kernel
theorem h69_6 : mfetch q69.2.1 6 = some (.aload_n 2) := by decide +kernel
theorem h69_7 : mfetch q69.2.1 7 = some (.ifnonnull 6) := by decide +kernel
theorem h69_10 : mfetch q69.2.1 10 = some (.bipush (-2)) := by decide +kernel
theorem h69_12 : mfetch q69.2.1 12 = some (.ireturn) := by decide +kernel
theorem h69_13 : mfetch q69.2.1 13 = some (.aload_n 0) := by decide +kernel
theorem h69_14 : mfetch q69.2.1 14 = some (.getfield 100) := by decide +kernel
theorem h69_17 : mfetch q69.2.1 17 = some (.getfield 175) := by decide +kernel
theorem h69_20 : mfetch q69.2.1 20 = some (.getfield 179) := by decide +kernel
theorem h69_23 : mfetch q69.2.1 23 = some (.istore_n 3) := by decide +kernel
theorem h69_24 : mfetch q69.2.1 24 = some (.aload_n 0) := by decide +kernel
theorem h69_25 : mfetch q69.2.1 25 = some (.getfield 100) := by decide +kernel
theorem h69_28 : mfetch q69.2.1 28 = some (.aload_n 2) := by decide +kernel
theorem h69_29 : mfetch q69.2.1 29 = some (.putfield 175) := by decide +kernel
theorem h69_32 : mfetch q69.2.1 32 = some (.iload_n 3) := by decide +kernel
theorem h69_33 : mfetch q69.2.1 33 = some (.ireturn) := by decide +kernel
theorem E69_0 : (∀ (d : Nat) (l1 : Option Value) (l2 : Option Value) (l3 : Option Value) (x : Nat) (st : List Value) (h : MH) (P : MP), mFr d 69 0 [some (.ref x), l1, l2, l3] st h P = mFr d 69 1 [some (.ref x), l1, l2, l3] (.ref x :: st) h P) ∧
  (∀ (d : Nat) (l0 : Option Value) (l2 : Option Value) (l3 : Option Value) (x : Int32) (st : List Value) (h : MH) (P : MP), mFr d 69 1 [l0, some (.int x), l2, l3] st h P = mFr d 69 2 [l0, some (.int x), l2, l3] (.int x :: st) h P) ∧
  (∀ (d : Nat) (loc : List (Option Value)) (b : Nat) (a0 : Int32) (h : MH) (P : MP), mFr d 69 2 loc ((.int a0) :: .ref b :: []) h P = if mrcv h b 8 = true then mRun d 70 [.ref b, .int a0] h (fun v h' => mFr d 69 5 loc (v.toList ++ []) h' P) else False) ∧
  (∀ (d : Nat) (l0 : Option Value) (l1 : Option Value) (l2 : Option Value) (l3 : Option Value) (x : Nat) (st : List Value) (h : MH) (P : MP), mnl l1 = true → mFr d 69 5 [l0, l1, l2, l3] (.ref x :: st) h P = mFr d 69 6 [l0, l1, some (.ref x), l3] (st) h P) ∧
  (∀ (d : Nat) (l0 : Option Value) (l1 : Option Value) (l2 : Option Value) (l3 : Option Value) (st : List Value) (h : MH) (P : MP), mnl l1 = true → mFr d 69 5 [l0, l1, l2, l3] (.null :: st) h P = mFr d 69 6 [l0, l1, some .null, l3] (st) h P) ∧
  (∀ (d : Nat) (l0 : Option Value) (l1 : Option Value) (l3 : Option Value) (x : Nat) (st : List Value) (h : MH) (P : MP), mFr d 69 6 [l0, l1, some (.ref x), l3] st h P = mFr d 69 7 [l0, l1, some (.ref x), l3] (.ref x :: st) h P) ∧
  (∀ (d : Nat) (l0 : Option Value) (l1 : Option Value) (l3 : Option Value) (st : List Value) (h : MH) (P : MP), mFr d 69 6 [l0, l1, some .null, l3] st h P = mFr d 69 7 [l0, l1, some .null, l3] (.null :: st) h P) ∧
  (∀ (d : Nat) (loc : List (Option Value)) (x : Nat) (st : List Value) (h : MH) (P : MP), mFr d 69 7 loc (.ref x :: st) h P = if x < 900 then mFr d 69 13 loc (st) h P else False) ∧
  (∀ (d : Nat) (loc : List (Option Value)) (st : List Value) (h : MH) (P : MP), mFr d 69 7 loc (.null :: st) h P = mFr d 69 10 loc (st) h P) := ⟨fun _ _ _ _ _ _ _ _ => (mFr_S mq69 h69_0).trans rfl,
  fun _ _ _ _ _ _ _ _ => (mFr_S mq69 h69_1).trans rfl,
  fun _ _ b a0 _ _ => F_callV (as := [.int a0]) (rest := []) mq69 (Or.inl h69_2) (rfl : _ = some (171, 6, 70, 0)) (Or.inl ⟨h69_2, by decide⟩) (by rfl) (by rfl) (by rfl) (Nat.le_of_ble_eq_true rfl),
  fun _ _ _ _ _ _ _ _ _ hm => (mFr_S mq69 h69_5).trans (by simp only [mgo.eq_1, mstep, mi1, ml1, mast, mst, mst2, mprev, List.length_cons, List.length_nil, List.getElem?_cons_succ, List.getElem?_cons_zero, hm]; rfl),
  fun _ _ _ _ _ _ _ _ hm => (mFr_S mq69 h69_5).trans (by simp only [mgo.eq_1, mstep, mi1, ml1, mast, mst, mst2, mprev, List.length_cons, List.length_nil, List.getElem?_cons_succ, List.getElem?_cons_zero, hm]; rfl),
  fun _ _ _ _ _ _ _ _ => (mFr_S mq69 h69_6).trans rfl,
  fun _ _ _ _ _ _ _ => (mFr_S mq69 h69_6).trans rfl,
  fun _ _ _ _ _ _ => F_ifnonnullR 13 mq69 h69_7 (by decide),
  fun _ _ _ _ _ => (mFr_S mq69 h69_7).trans rfl⟩
theorem E69_10 : (∀ (d : Nat) (loc : List (Option Value)) (st : List Value) (h : MH) (P : MP), mFr d 69 10 loc st h P = mFr d 69 12 loc (.int (-2) :: st) h P) ∧
  (∀ (d : Nat) (loc : List (Option Value)) (x : Int32) (h : MH) (P : MP), mFr d 69 12 loc [.int x] h P = P (some (.int x)) h) := ⟨fun _ _ _ _ _ => (mFr_S mq69 h69_10).trans rfl,
  fun _ _ _ _ _ => F_ret mq69 h69_12 rfl rfl⟩
theorem E69_13 : (∀ (d : Nat) (l1 : Option Value) (l2 : Option Value) (l3 : Option Value) (x : Nat) (st : List Value) (h : MH) (P : MP), mFr d 69 13 [some (.ref x), l1, l2, l3] st h P = mFr d 69 14 [some (.ref x), l1, l2, l3] (.ref x :: st) h P) ∧
  (∀ (d : Nat) (loc : List (Option Value)) (a : Nat) (st : List Value) (h : MH) (P : MP), mFr d 69 14 loc (.ref a :: st) h P = pget h a 8 4 (fun v => mFr d 69 17 loc (v :: st) h P)) ∧
  (∀ (d : Nat) (loc : List (Option Value)) (a : Nat) (st : List Value) (h : MH) (P : MP), mFr d 69 17 loc (.ref a :: st) h P = pget h a 2 2 (fun v => mFr d 69 20 loc (v :: st) h P)) ∧
  (∀ (d : Nat) (loc : List (Option Value)) (a : Nat) (st : List Value) (h : MH) (P : MP), mFr d 69 20 loc (.ref a :: st) h P = pget h a 5 0 (fun v => mFr d 69 23 loc (v :: st) h P)) ∧
  (∀ (d : Nat) (l0 : Option Value) (l1 : Option Value) (l2 : Option Value) (l3 : Option Value) (x : Int32) (st : List Value) (h : MH) (P : MP), mnl l2 = true → mFr d 69 23 [l0, l1, l2, l3] (.int x :: st) h P = mFr d 69 24 [l0, l1, l2, some (.int x)] (st) h P) ∧
  (∀ (d : Nat) (l1 : Option Value) (l2 : Option Value) (l3 : Option Value) (x : Nat) (st : List Value) (h : MH) (P : MP), mFr d 69 24 [some (.ref x), l1, l2, l3] st h P = mFr d 69 25 [some (.ref x), l1, l2, l3] (.ref x :: st) h P) ∧
  (∀ (d : Nat) (loc : List (Option Value)) (a : Nat) (st : List Value) (h : MH) (P : MP), mFr d 69 25 loc (.ref a :: st) h P = pget h a 8 4 (fun v => mFr d 69 28 loc (v :: st) h P)) ∧
  (∀ (d : Nat) (l0 : Option Value) (l1 : Option Value) (l3 : Option Value) (x : Nat) (st : List Value) (h : MH) (P : MP), mFr d 69 28 [l0, l1, some (.ref x), l3] st h P = mFr d 69 29 [l0, l1, some (.ref x), l3] (.ref x :: st) h P) ∧
  (∀ (d : Nat) (l0 : Option Value) (l1 : Option Value) (l3 : Option Value) (st : List Value) (h : MH) (P : MP), mFr d 69 28 [l0, l1, some .null, l3] st h P = mFr d 69 29 [l0, l1, some .null, l3] (.null :: st) h P) ∧
  (∀ (d : Nat) (loc : List (Option Value)) (a : Nat) (x : Nat) (st : List Value) (h : MH) (P : MP), mFr d 69 29 loc (.ref x :: .ref a :: st) h P = pput h a 2 2 (.ref x) (fun h' => mFr d 69 32 loc (st) h' P)) ∧
  (∀ (d : Nat) (l0 : Option Value) (l1 : Option Value) (l2 : Option Value) (x : Int32) (st : List Value) (h : MH) (P : MP), mFr d 69 32 [l0, l1, l2, some (.int x)] st h P = mFr d 69 33 [l0, l1, l2, some (.int x)] (.int x :: st) h P) ∧
  (∀ (d : Nat) (loc : List (Option Value)) (x : Int32) (h : MH) (P : MP), mFr d 69 33 loc [.int x] h P = P (some (.int x)) h) := ⟨fun _ _ _ _ _ _ _ _ => (mFr_S mq69 h69_13).trans rfl,
  fun _ _ _ _ _ _ => F_get mq69 h69_14 (Or.inl (rfl : _ = some (100, 0, 8, 4))),
  fun _ _ _ _ _ _ => F_get mq69 h69_17 (Or.inr (rfl : _ = some (175, 1, 2, 2))),
  fun _ _ _ _ _ _ => F_get mq69 h69_20 (Or.inr (rfl : _ = some (179, 1, 5, 0))),
  fun _ _ _ _ _ _ _ _ _ hm => (mFr_S mq69 h69_23).trans (by simp only [mgo.eq_1, mstep, mi1, ml1, mast, mst, mst2, mprev, List.length_cons, List.length_nil, List.getElem?_cons_succ, List.getElem?_cons_zero, hm]; rfl),
  fun _ _ _ _ _ _ _ _ => (mFr_S mq69 h69_24).trans rfl,
  fun _ _ _ _ _ _ => F_get mq69 h69_25 (Or.inl (rfl : _ = some (100, 0, 8, 4))),
  fun _ _ _ _ _ _ _ _ => (mFr_S mq69 h69_28).trans rfl,
  fun _ _ _ _ _ _ _ => (mFr_S mq69 h69_28).trans rfl,
  fun _ _ _ _ _ _ _ => F_put mq69 h69_29 (Or.inr ⟨(rfl : _ = some (175, 1, 2, 2)), rfl⟩),
  fun _ _ _ _ _ _ _ _ => (mFr_S mq69 h69_32).trans rfl,
  fun _ _ _ _ _ => F_ret mq69 h69_33 rfl rfl⟩
theorem B69 : ∀ (d : Nat) (b : Nat) (a0 : Int32) (h : MH) (P : MP), mRun (d + 1) 69 [.ref b, .int a0] h P = mFr d 69 0 [some (.ref b), some (.int a0), none, none] [] h P := fun _ _ _ _ _ => mRun_S mq69 (Nat.le_of_ble_eq_true rfl)
-- 70: PuncturesAreViews.textOf(I)LPuncturesAreViews$Text;
def q70 : MI := (yX8_textOf, cX8_textOf, 2, (some (.object "PuncturesAreViews$Text")), 8, 1)
theorem mq70 : mtab[70]? = some q70 := rfl
theorem h70_0 : mfetch q70.2.1 0 = some (.iload_n 1) := by decide +kernel
theorem h70_1 : mfetch q70.2.1 1 = some (.ifCond .lt 29) := by decide +kernel
theorem h70_4 : mfetch q70.2.1 4 = some (.iload_n 1) := by decide +kernel
theorem h70_5 : mfetch q70.2.1 5 = some (.aload_n 0) := by decide +kernel
theorem h70_6 : mfetch q70.2.1 6 = some (.getfield 92) := by decide +kernel
theorem h70_9 : mfetch q70.2.1 9 = some (.if_icmp .ge 21) := by decide +kernel
theorem h70_12 : mfetch q70.2.1 12 = some (.iload_n 1) := by decide +kernel
theorem h70_13 : mfetch q70.2.1 13 = some (.aload_n 0) := by decide +kernel
theorem h70_14 : mfetch q70.2.1 14 = some (.getfield 11) := by decide +kernel
theorem h70_17 : mfetch q70.2.1 17 = some (.arraylength) := by decide +kernel
theorem h70_18 : mfetch q70.2.1 18 = some (.if_icmp .ge 12) := by decide +kernel
theorem h70_21 : mfetch q70.2.1 21 = some (.aload_n 0) := by decide +kernel
theorem h70_22 : mfetch q70.2.1 22 = some (.getfield 11) := by decide +kernel
theorem h70_25 : mfetch q70.2.1 25 = some (.iload_n 1) := by decide +kernel
theorem h70_26 : mfetch q70.2.1 26 = some (.aaload) := by decide +kernel
theorem h70_27 : mfetch q70.2.1 27 = some (.goto 4) := by decide +kernel
theorem h70_30 : mfetch q70.2.1 30 = some (.aconst_null) := by decide +kernel
theorem h70_31 : mfetch q70.2.1 31 = some (.areturn) := by decide +kernel
theorem E70_0 : (∀ (d : Nat) (l0 : Option Value) (x : Int32) (st : List Value) (h : MH) (P : MP), mFr d 70 0 [l0, some (.int x)] st h P = mFr d 70 1 [l0, some (.int x)] (.int x :: st) h P) ∧
  (∀ (d : Nat) (loc : List (Option Value)) (x : Int32) (st : List Value) (h : MH) (P : MP), mFr d 70 1 loc (.int x :: st) h P = if x < 0 then mFr d 70 30 loc (st) h P else mFr d 70 4 loc (st) h P) := ⟨fun _ _ _ _ _ _ => (mFr_S mq70 h70_0).trans rfl,
  fun _ _ _ _ _ _ => (F_ifz 30 mq70 h70_1 (by decide)).trans mif_lt⟩
theorem E70_4 : (∀ (d : Nat) (l0 : Option Value) (x : Int32) (st : List Value) (h : MH) (P : MP), mFr d 70 4 [l0, some (.int x)] st h P = mFr d 70 5 [l0, some (.int x)] (.int x :: st) h P) ∧
  (∀ (d : Nat) (l1 : Option Value) (x : Nat) (st : List Value) (h : MH) (P : MP), mFr d 70 5 [some (.ref x), l1] st h P = mFr d 70 6 [some (.ref x), l1] (.ref x :: st) h P) ∧
  (∀ (d : Nat) (loc : List (Option Value)) (a : Nat) (st : List Value) (h : MH) (P : MP), mFr d 70 6 loc (.ref a :: st) h P = pget h a 8 3 (fun v => mFr d 70 9 loc (v :: st) h P)) ∧
  (∀ (d : Nat) (loc : List (Option Value)) (x y : Int32) (st : List Value) (h : MH) (P : MP), mFr d 70 9 loc (.int y :: .int x :: st) h P = if x < y then mFr d 70 12 loc (st) h P else mFr d 70 30 loc (st) h P) := ⟨fun _ _ _ _ _ _ => (mFr_S mq70 h70_4).trans rfl,
  fun _ _ _ _ _ _ => (mFr_S mq70 h70_5).trans rfl,
  fun _ _ _ _ _ _ => F_get mq70 h70_6 (Or.inl (rfl : _ = some (92, 0, 8, 3))),
  fun _ _ _ _ _ _ _ => (F_icmp 30 mq70 h70_9 (by decide)).trans mif_ge⟩
theorem E70_12 : (∀ (d : Nat) (l0 : Option Value) (x : Int32) (st : List Value) (h : MH) (P : MP), mFr d 70 12 [l0, some (.int x)] st h P = mFr d 70 13 [l0, some (.int x)] (.int x :: st) h P) ∧
  (∀ (d : Nat) (l1 : Option Value) (x : Nat) (st : List Value) (h : MH) (P : MP), mFr d 70 13 [some (.ref x), l1] st h P = mFr d 70 14 [some (.ref x), l1] (.ref x :: st) h P) ∧
  (∀ (d : Nat) (loc : List (Option Value)) (a : Nat) (st : List Value) (h : MH) (P : MP), mFr d 70 14 loc (.ref a :: st) h P = pget h a 8 0 (fun v => mFr d 70 17 loc (v :: st) h P)) ∧
  (∀ (d : Nat) (loc : List (Option Value)) (a : Nat) (st : List Value) (h : MH) (P : MP), mFr d 70 17 loc (.ref a :: st) h P = palen h a (fun n => mFr d 70 18 loc (.int (Int32.ofNat n) :: st) h P)) ∧
  (∀ (d : Nat) (loc : List (Option Value)) (x y : Int32) (st : List Value) (h : MH) (P : MP), mFr d 70 18 loc (.int y :: .int x :: st) h P = if x < y then mFr d 70 21 loc (st) h P else mFr d 70 30 loc (st) h P) := ⟨fun _ _ _ _ _ _ => (mFr_S mq70 h70_12).trans rfl,
  fun _ _ _ _ _ _ => (mFr_S mq70 h70_13).trans rfl,
  fun _ _ _ _ _ _ => F_get mq70 h70_14 (Or.inl (rfl : _ = some (11, 0, 8, 0))),
  fun _ _ _ _ _ _ => F_alen mq70 h70_17,
  fun _ _ _ _ _ _ _ => (F_icmp 30 mq70 h70_18 (by decide)).trans mif_ge⟩
theorem E70_21 : (∀ (d : Nat) (l1 : Option Value) (x : Nat) (st : List Value) (h : MH) (P : MP), mFr d 70 21 [some (.ref x), l1] st h P = mFr d 70 22 [some (.ref x), l1] (.ref x :: st) h P) ∧
  (∀ (d : Nat) (loc : List (Option Value)) (a : Nat) (st : List Value) (h : MH) (P : MP), mFr d 70 22 loc (.ref a :: st) h P = pget h a 8 0 (fun v => mFr d 70 25 loc (v :: st) h P)) ∧
  (∀ (d : Nat) (l0 : Option Value) (x : Int32) (st : List Value) (h : MH) (P : MP), mFr d 70 25 [l0, some (.int x)] st h P = mFr d 70 26 [l0, some (.int x)] (.int x :: st) h P) ∧
  (∀ (d : Nat) (loc : List (Option Value)) (a : Nat) (i : Int32) (st : List Value) (h : MH) (P : MP), mFr d 70 26 loc (.int i :: .ref a :: st) h P = paal h a i (fun v => mFr d 70 27 loc (v :: st) h P)) ∧
  (∀ (d : Nat) (loc : List (Option Value)) (st : List Value) (h : MH) (P : MP), mFr d 70 27 loc st h P = mFr d 70 31 loc (st) h P) := ⟨fun _ _ _ _ _ _ => (mFr_S mq70 h70_21).trans rfl,
  fun _ _ _ _ _ _ => F_get mq70 h70_22 (Or.inl (rfl : _ = some (11, 0, 8, 0))),
  fun _ _ _ _ _ _ => (mFr_S mq70 h70_25).trans rfl,
  fun _ _ _ _ _ _ _ => F_aald mq70 h70_26,
  fun _ _ _ _ _ => F_goto 31 mq70 h70_27 (by decide)⟩
theorem E70_30 : (∀ (d : Nat) (loc : List (Option Value)) (st : List Value) (h : MH) (P : MP), mFr d 70 30 loc st h P = mFr d 70 31 loc (.null :: st) h P) := fun _ _ _ _ _ => (mFr_S mq70 h70_30).trans rfl
theorem E70_31 : (∀ (d : Nat) (loc : List (Option Value)) (x : Nat) (h : MH) (P : MP), mFr d 70 31 loc [.ref x] h P = P (some (.ref x)) h) ∧
  (∀ (d : Nat) (loc : List (Option Value)) (h : MH) (P : MP), mFr d 70 31 loc [.null] h P = P (some .null) h) := ⟨fun _ _ _ _ _ => (mFr_S mq70 h70_31).trans rfl,
  fun _ _ _ _ => (mFr_S mq70 h70_31).trans rfl⟩
theorem B70 : ∀ (d : Nat) (b : Nat) (a0 : Int32) (h : MH) (P : MP), mRun (d + 1) 70 [.ref b, .int a0] h P = mFr d 70 0 [some (.ref b), some (.int a0)] [] h P := fun _ _ _ _ _ => mRun_S mq70 (Nat.le_of_ble_eq_true rfl)
-- 71: PuncturesAreViews.step(I)I
def q71 : MI := (yX8_step, cX8_step, 3, (some .int), 8, 1)
theorem mq71 : mtab[71]? = some q71 := rfl
theorem h71_0 : mfetch q71.2.1 0 = some (.aload_n 0) := by decide +kernel
theorem h71_1 : mfetch q71.2.1 1 = some (.getfield 25) := by decide +kernel
theorem h71_4 : mfetch q71.2.1 4 = some (.iload_n 1) := by decide +kernel
theorem h71_5 : mfetch q71.2.1 5 = some (.invokevirtual 135) := by decide +kernel
theorem h71_8 : mfetch q71.2.1 8 = some (.astore_n 2) := by decide +kernel
theorem h71_9 : mfetch q71.2.1 9 = some (.aload_n 2) := by decide +kernel
theorem h71_10 : mfetch q71.2.1 10 = some (.ifnonnull 6) := by decide +kernel
theorem h71_13 : mfetch q71.2.1 13 = some (.bipush (-2)) := by decide +kernel
theorem h71_15 : mfetch q71.2.1 15 = some (.ireturn) := by decide +kernel
theorem h71_16 : mfetch q71.2.1 16 = some (.aload_n 2) := by decide +kernel
theorem h71_17 : mfetch q71.2.1 17 = some (.invokevirtual 180) := by decide +kernel
theorem h71_20 : mfetch q71.2.1 20 = some (.ifCond .eq 6) := by decide +kernel
theorem h71_23 : mfetch q71.2.1 23 = some (.bipush (-3)) := by decide +kernel
theorem h71_25 : mfetch q71.2.1 25 = some (.ireturn) := by decide +kernel
theorem h71_26 : mfetch q71.2.1 26 = some (.aload_n 2) := by decide +kernel
theorem h71_27 : mfetch q71.2.1 27 = some (.aload_n 0) := by decide +kernel
theorem h71_28 : mfetch q71.2.1 28 = some (.getfield 100) := by decide +kernel
theorem h71_31 : mfetch q71.2.1 31 = some (.invokevirtual 184) := by decide +kernel
theorem h71_34 : mfetch q71.2.1 34 = some (.pop) := by decide +kernel
theorem h71_35 : mfetch q71.2.1 35 = some (.aload_n 2) := by decide +kernel
theorem h71_36 : mfetch q71.2.1 36 = some (.getfield 148) := by decide +kernel
theorem h71_39 : mfetch q71.2.1 39 = some (.ireturn) := by decide +kernel
theorem E71_0 : (∀ (d : Nat) (l1 : Option Value) (l2 : Option Value) (x : Nat) (st : List Value) (h : MH) (P : MP), mFr d 71 0 [some (.ref x), l1, l2] st h P = mFr d 71 1 [some (.ref x), l1, l2] (.ref x :: st) h P) ∧
  (∀ (d : Nat) (loc : List (Option Value)) (a : Nat) (st : List Value) (h : MH) (P : MP), mFr d 71 1 loc (.ref a :: st) h P = pget h a 8 5 (fun v => mFr d 71 4 loc (v :: st) h P)) ∧
  (∀ (d : Nat) (l0 : Option Value) (l2 : Option Value) (x : Int32) (st : List Value) (h : MH) (P : MP), mFr d 71 4 [l0, some (.int x), l2] st h P = mFr d 71 5 [l0, some (.int x), l2] (.int x :: st) h P) ∧
  (∀ (d : Nat) (loc : List (Option Value)) (b : Nat) (a0 : Int32) (h : MH) (P : MP), mFr d 71 5 loc ((.int a0) :: .ref b :: []) h P = if mrcv h b 0 = true then mRun d 1 [.ref b, .int a0] h (fun v h' => mFr d 71 8 loc (v.toList ++ []) h' P) else False) ∧
  (∀ (d : Nat) (l0 : Option Value) (l1 : Option Value) (l2 : Option Value) (x : Nat) (st : List Value) (h : MH) (P : MP), mnl l1 = true → mFr d 71 8 [l0, l1, l2] (.ref x :: st) h P = mFr d 71 9 [l0, l1, some (.ref x)] (st) h P) ∧
  (∀ (d : Nat) (l0 : Option Value) (l1 : Option Value) (l2 : Option Value) (st : List Value) (h : MH) (P : MP), mnl l1 = true → mFr d 71 8 [l0, l1, l2] (.null :: st) h P = mFr d 71 9 [l0, l1, some .null] (st) h P) ∧
  (∀ (d : Nat) (l0 : Option Value) (l1 : Option Value) (x : Nat) (st : List Value) (h : MH) (P : MP), mFr d 71 9 [l0, l1, some (.ref x)] st h P = mFr d 71 10 [l0, l1, some (.ref x)] (.ref x :: st) h P) ∧
  (∀ (d : Nat) (l0 : Option Value) (l1 : Option Value) (st : List Value) (h : MH) (P : MP), mFr d 71 9 [l0, l1, some .null] st h P = mFr d 71 10 [l0, l1, some .null] (.null :: st) h P) ∧
  (∀ (d : Nat) (loc : List (Option Value)) (x : Nat) (st : List Value) (h : MH) (P : MP), mFr d 71 10 loc (.ref x :: st) h P = if x < 900 then mFr d 71 16 loc (st) h P else False) ∧
  (∀ (d : Nat) (loc : List (Option Value)) (st : List Value) (h : MH) (P : MP), mFr d 71 10 loc (.null :: st) h P = mFr d 71 13 loc (st) h P) := ⟨fun _ _ _ _ _ _ _ => (mFr_S mq71 h71_0).trans rfl,
  fun _ _ _ _ _ _ => F_get mq71 h71_1 (Or.inl (rfl : _ = some (25, 0, 8, 5))),
  fun _ _ _ _ _ _ _ => (mFr_S mq71 h71_4).trans rfl,
  fun _ _ b a0 _ _ => F_callV (as := [.int a0]) (rest := []) mq71 (Or.inl h71_5) (rfl : _ = some (135, 6, 1, 1)) (Or.inl ⟨h71_5, by decide⟩) (by rfl) (by rfl) (by rfl) (Nat.le_of_ble_eq_true rfl),
  fun _ _ _ _ _ _ _ _ hm => (mFr_S mq71 h71_8).trans (by simp only [mgo.eq_1, mstep, mi1, ml1, mast, mst, mst2, mprev, List.length_cons, List.length_nil, List.getElem?_cons_succ, List.getElem?_cons_zero, hm]; rfl),
  fun _ _ _ _ _ _ _ hm => (mFr_S mq71 h71_8).trans (by simp only [mgo.eq_1, mstep, mi1, ml1, mast, mst, mst2, mprev, List.length_cons, List.length_nil, List.getElem?_cons_succ, List.getElem?_cons_zero, hm]; rfl),
  fun _ _ _ _ _ _ _ => (mFr_S mq71 h71_9).trans rfl,
  fun _ _ _ _ _ _ => (mFr_S mq71 h71_9).trans rfl,
  fun _ _ _ _ _ _ => F_ifnonnullR 16 mq71 h71_10 (by decide),
  fun _ _ _ _ _ => (mFr_S mq71 h71_10).trans rfl⟩
theorem E71_13 : (∀ (d : Nat) (loc : List (Option Value)) (st : List Value) (h : MH) (P : MP), mFr d 71 13 loc st h P = mFr d 71 15 loc (.int (-2) :: st) h P) ∧
  (∀ (d : Nat) (loc : List (Option Value)) (x : Int32) (h : MH) (P : MP), mFr d 71 15 loc [.int x] h P = P (some (.int x)) h) := ⟨fun _ _ _ _ _ => (mFr_S mq71 h71_13).trans rfl,
  fun _ _ _ _ _ => F_ret mq71 h71_15 rfl rfl⟩
theorem E71_16 : (∀ (d : Nat) (l0 : Option Value) (l1 : Option Value) (x : Nat) (st : List Value) (h : MH) (P : MP), mFr d 71 16 [l0, l1, some (.ref x)] st h P = mFr d 71 17 [l0, l1, some (.ref x)] (.ref x :: st) h P) ∧
  (∀ (d : Nat) (l0 : Option Value) (l1 : Option Value) (st : List Value) (h : MH) (P : MP), mFr d 71 16 [l0, l1, some .null] st h P = mFr d 71 17 [l0, l1, some .null] (.null :: st) h P) ∧
  (∀ (d : Nat) (loc : List (Option Value)) (b : Nat) (h : MH) (P : MP), mFr d 71 17 loc (.ref b :: []) h P = if mrcv h b 1 = true then mRun d 10 [.ref b] h (fun v h' => mFr d 71 20 loc (v.toList ++ []) h' P) else False) ∧
  (∀ (d : Nat) (loc : List (Option Value)) (x : Int32) (st : List Value) (h : MH) (P : MP), mFr d 71 20 loc (.int x :: st) h P = if x = 0 then mFr d 71 26 loc (st) h P else mFr d 71 23 loc (st) h P) := ⟨fun _ _ _ _ _ _ _ => (mFr_S mq71 h71_16).trans rfl,
  fun _ _ _ _ _ _ => (mFr_S mq71 h71_16).trans rfl,
  fun _ _ b _ _ => F_callV (as := []) (rest := []) mq71 (Or.inl h71_17) (rfl : _ = some (180, 6, 10, 1)) (Or.inl ⟨h71_17, by decide⟩) (by rfl) (by rfl) (by rfl) (Nat.le_of_ble_eq_true rfl),
  fun _ _ _ _ _ _ => (F_ifz 26 mq71 h71_20 (by decide)).trans mif_eq⟩
theorem E71_23 : (∀ (d : Nat) (loc : List (Option Value)) (st : List Value) (h : MH) (P : MP), mFr d 71 23 loc st h P = mFr d 71 25 loc (.int (-3) :: st) h P) ∧
  (∀ (d : Nat) (loc : List (Option Value)) (x : Int32) (h : MH) (P : MP), mFr d 71 25 loc [.int x] h P = P (some (.int x)) h) := ⟨fun _ _ _ _ _ => (mFr_S mq71 h71_23).trans rfl,
  fun _ _ _ _ _ => F_ret mq71 h71_25 rfl rfl⟩
theorem E71_26 : (∀ (d : Nat) (l0 : Option Value) (l1 : Option Value) (x : Nat) (st : List Value) (h : MH) (P : MP), mFr d 71 26 [l0, l1, some (.ref x)] st h P = mFr d 71 27 [l0, l1, some (.ref x)] (.ref x :: st) h P) ∧
  (∀ (d : Nat) (l0 : Option Value) (l1 : Option Value) (st : List Value) (h : MH) (P : MP), mFr d 71 26 [l0, l1, some .null] st h P = mFr d 71 27 [l0, l1, some .null] (.null :: st) h P) ∧
  (∀ (d : Nat) (l1 : Option Value) (l2 : Option Value) (x : Nat) (st : List Value) (h : MH) (P : MP), mFr d 71 27 [some (.ref x), l1, l2] st h P = mFr d 71 28 [some (.ref x), l1, l2] (.ref x :: st) h P) ∧
  (∀ (d : Nat) (loc : List (Option Value)) (a : Nat) (st : List Value) (h : MH) (P : MP), mFr d 71 28 loc (.ref a :: st) h P = pget h a 8 4 (fun v => mFr d 71 31 loc (v :: st) h P)) ∧
  (∀ (d : Nat) (loc : List (Option Value)) (b : Nat) (a0 : Nat) (h : MH) (P : MP), mFr d 71 31 loc ((.ref a0) :: .ref b :: []) h P = if mrcv h b 1 = true then mRun d 11 [.ref b, .ref a0] h (fun v h' => mFr d 71 34 loc (v.toList ++ []) h' P) else False) ∧
  (∀ (d : Nat) (loc : List (Option Value)) (x : Int32) (st : List Value) (h : MH) (P : MP), mFr d 71 34 loc (.int x :: st) h P = mFr d 71 35 loc (st) h P) ∧
  (∀ (d : Nat) (l0 : Option Value) (l1 : Option Value) (x : Nat) (st : List Value) (h : MH) (P : MP), mFr d 71 35 [l0, l1, some (.ref x)] st h P = mFr d 71 36 [l0, l1, some (.ref x)] (.ref x :: st) h P) ∧
  (∀ (d : Nat) (l0 : Option Value) (l1 : Option Value) (st : List Value) (h : MH) (P : MP), mFr d 71 35 [l0, l1, some .null] st h P = mFr d 71 36 [l0, l1, some .null] (.null :: st) h P) ∧
  (∀ (d : Nat) (loc : List (Option Value)) (a : Nat) (st : List Value) (h : MH) (P : MP), mFr d 71 36 loc (.ref a :: st) h P = pget h a 1 4 (fun v => mFr d 71 39 loc (v :: st) h P)) ∧
  (∀ (d : Nat) (loc : List (Option Value)) (x : Int32) (h : MH) (P : MP), mFr d 71 39 loc [.int x] h P = P (some (.int x)) h) := ⟨fun _ _ _ _ _ _ _ => (mFr_S mq71 h71_26).trans rfl,
  fun _ _ _ _ _ _ => (mFr_S mq71 h71_26).trans rfl,
  fun _ _ _ _ _ _ _ => (mFr_S mq71 h71_27).trans rfl,
  fun _ _ _ _ _ _ => F_get mq71 h71_28 (Or.inl (rfl : _ = some (100, 0, 8, 4))),
  fun _ _ b a0 _ _ => F_callV (as := [.ref a0]) (rest := []) mq71 (Or.inl h71_31) (rfl : _ = some (184, 6, 11, 1)) (Or.inl ⟨h71_31, by decide⟩) (by rfl) (by rfl) (by rfl) (Nat.le_of_ble_eq_true rfl),
  fun _ _ _ _ _ _ => (mFr_S mq71 h71_34).trans rfl,
  fun _ _ _ _ _ _ _ => (mFr_S mq71 h71_35).trans rfl,
  fun _ _ _ _ _ _ => (mFr_S mq71 h71_35).trans rfl,
  fun _ _ _ _ _ _ => F_get mq71 h71_36 (Or.inr (rfl : _ = some (148, 1, 1, 4))),
  fun _ _ _ _ _ => F_ret mq71 h71_39 rfl rfl⟩
theorem B71 : ∀ (d : Nat) (b : Nat) (a0 : Int32) (h : MH) (P : MP), mRun (d + 1) 71 [.ref b, .int a0] h P = mFr d 71 0 [some (.ref b), some (.int a0), none] [] h P := fun _ _ _ _ _ => mRun_S mq71 (Nat.le_of_ble_eq_true rfl)
-- 72: PuncturesAreViews.day(I)I
def q72 : MI := (yX8_day, cX8_day, 2, (some .int), 8, 1)
theorem mq72 : mtab[72]? = some q72 := rfl
theorem h72_0 : mfetch q72.2.1 0 = some (.iload_n 1) := by decide +kernel
theorem h72_1 : mfetch q72.2.1 1 = some (.ifCond .lt 9) := by decide +kernel
theorem h72_4 : mfetch q72.2.1 4 = some (.iload_n 1) := by decide +kernel
theorem h72_5 : mfetch q72.2.1 5 = some (.bipush 60) := by decide +kernel
theorem h72_7 : mfetch q72.2.1 7 = some (.if_icmp .le 6) := by decide +kernel
theorem h72_10 : mfetch q72.2.1 10 = some (.bipush (-2)) := by decide +kernel
theorem h72_12 : mfetch q72.2.1 12 = some (.ireturn) := by decide +kernel
theorem h72_13 : mfetch q72.2.1 13 = some (.aload_n 0) := by decide +kernel
theorem h72_14 : mfetch q72.2.1 14 = some (.getfield 100) := by decide +kernel
theorem h72_17 : mfetch q72.2.1 17 = some (.getfield 128) := by decide +kernel
theorem h72_20 : mfetch q72.2.1 20 = some (.sipush 999) := by decide +kernel
theorem h72_23 : mfetch q72.2.1 23 = some (.if_icmp .lt 6) := by decide +kernel
theorem h72_26 : mfetch q72.2.1 26 = some (.bipush (-3)) := by decide +kernel
theorem h72_28 : mfetch q72.2.1 28 = some (.ireturn) := by decide +kernel
theorem h72_29 : mfetch q72.2.1 29 = some (.aload_n 0) := by decide +kernel
theorem h72_30 : mfetch q72.2.1 30 = some (.getfield 25) := by decide +kernel
theorem h72_33 : mfetch q72.2.1 33 = some (.iload_n 1) := by decide +kernel
theorem h72_34 : mfetch q72.2.1 34 = some (.aload_n 0) := by decide +kernel
theorem h72_35 : mfetch q72.2.1 35 = some (.getfield 100) := by decide +kernel
theorem h72_38 : mfetch q72.2.1 38 = some (.invokevirtual 187) := by decide +kernel
theorem h72_41 : mfetch q72.2.1 41 = some (.aload_n 0) := by decide +kernel
theorem h72_42 : mfetch q72.2.1 42 = some (.getfield 100) := by decide +kernel
theorem h72_45 : mfetch q72.2.1 45 = some (.dup) := by decide +kernel
theorem h72_46 : mfetch q72.2.1 46 = some (.getfield 128) := by decide +kernel
theorem h72_49 : mfetch q72.2.1 49 = some (.iconst 1) := by decide +kernel
theorem h72_50 : mfetch q72.2.1 50 = some (.iadd) := by decide +kernel
theorem h72_51 : mfetch q72.2.1 51 = some (.putfield 128) := by decide +kernel
theorem h72_54 : mfetch q72.2.1 54 = some (.aload_n 0) := by decide +kernel
theorem h72_55 : mfetch q72.2.1 55 = some (.getfield 25) := by decide +kernel
theorem h72_58 : mfetch q72.2.1 58 = some (.invokevirtual 191) := by decide +kernel
theorem h72_61 : mfetch q72.2.1 61 = some (.ireturn) := by decide +kernel
theorem E72_0 : (∀ (d : Nat) (l0 : Option Value) (x : Int32) (st : List Value) (h : MH) (P : MP), mFr d 72 0 [l0, some (.int x)] st h P = mFr d 72 1 [l0, some (.int x)] (.int x :: st) h P) ∧
  (∀ (d : Nat) (loc : List (Option Value)) (x : Int32) (st : List Value) (h : MH) (P : MP), mFr d 72 1 loc (.int x :: st) h P = if x < 0 then mFr d 72 10 loc (st) h P else mFr d 72 4 loc (st) h P) := ⟨fun _ _ _ _ _ _ => (mFr_S mq72 h72_0).trans rfl,
  fun _ _ _ _ _ _ => (F_ifz 10 mq72 h72_1 (by decide)).trans mif_lt⟩
theorem E72_4 : (∀ (d : Nat) (l0 : Option Value) (x : Int32) (st : List Value) (h : MH) (P : MP), mFr d 72 4 [l0, some (.int x)] st h P = mFr d 72 5 [l0, some (.int x)] (.int x :: st) h P) ∧
  (∀ (d : Nat) (loc : List (Option Value)) (st : List Value) (h : MH) (P : MP), mFr d 72 5 loc st h P = mFr d 72 7 loc (.int 60 :: st) h P) ∧
  (∀ (d : Nat) (loc : List (Option Value)) (x y : Int32) (st : List Value) (h : MH) (P : MP), mFr d 72 7 loc (.int y :: .int x :: st) h P = if y < x then mFr d 72 10 loc (st) h P else mFr d 72 13 loc (st) h P) := ⟨fun _ _ _ _ _ _ => (mFr_S mq72 h72_4).trans rfl,
  fun _ _ _ _ _ => (mFr_S mq72 h72_5).trans rfl,
  fun _ _ _ _ _ _ _ => (F_icmp 13 mq72 h72_7 (by decide)).trans mif_le⟩
theorem E72_10 : (∀ (d : Nat) (loc : List (Option Value)) (st : List Value) (h : MH) (P : MP), mFr d 72 10 loc st h P = mFr d 72 12 loc (.int (-2) :: st) h P) ∧
  (∀ (d : Nat) (loc : List (Option Value)) (x : Int32) (h : MH) (P : MP), mFr d 72 12 loc [.int x] h P = P (some (.int x)) h) := ⟨fun _ _ _ _ _ => (mFr_S mq72 h72_10).trans rfl,
  fun _ _ _ _ _ => F_ret mq72 h72_12 rfl rfl⟩
theorem E72_13 : (∀ (d : Nat) (l1 : Option Value) (x : Nat) (st : List Value) (h : MH) (P : MP), mFr d 72 13 [some (.ref x), l1] st h P = mFr d 72 14 [some (.ref x), l1] (.ref x :: st) h P) ∧
  (∀ (d : Nat) (loc : List (Option Value)) (a : Nat) (st : List Value) (h : MH) (P : MP), mFr d 72 14 loc (.ref a :: st) h P = pget h a 8 4 (fun v => mFr d 72 17 loc (v :: st) h P)) ∧
  (∀ (d : Nat) (loc : List (Option Value)) (a : Nat) (st : List Value) (h : MH) (P : MP), mFr d 72 17 loc (.ref a :: st) h P = pget h a 2 1 (fun v => mFr d 72 20 loc (v :: st) h P)) ∧
  (∀ (d : Nat) (loc : List (Option Value)) (st : List Value) (h : MH) (P : MP), mFr d 72 20 loc st h P = mFr d 72 23 loc (.int 999 :: st) h P) ∧
  (∀ (d : Nat) (loc : List (Option Value)) (x y : Int32) (st : List Value) (h : MH) (P : MP), mFr d 72 23 loc (.int y :: .int x :: st) h P = if x < y then mFr d 72 29 loc (st) h P else mFr d 72 26 loc (st) h P) := ⟨fun _ _ _ _ _ _ => (mFr_S mq72 h72_13).trans rfl,
  fun _ _ _ _ _ _ => F_get mq72 h72_14 (Or.inl (rfl : _ = some (100, 0, 8, 4))),
  fun _ _ _ _ _ _ => F_get mq72 h72_17 (Or.inr (rfl : _ = some (128, 1, 2, 1))),
  fun _ _ _ _ _ => (mFr_S mq72 h72_20).trans rfl,
  fun _ _ _ _ _ _ _ => (F_icmp 29 mq72 h72_23 (by decide)).trans mif_lt⟩
theorem E72_26 : (∀ (d : Nat) (loc : List (Option Value)) (st : List Value) (h : MH) (P : MP), mFr d 72 26 loc st h P = mFr d 72 28 loc (.int (-3) :: st) h P) ∧
  (∀ (d : Nat) (loc : List (Option Value)) (x : Int32) (h : MH) (P : MP), mFr d 72 28 loc [.int x] h P = P (some (.int x)) h) := ⟨fun _ _ _ _ _ => (mFr_S mq72 h72_26).trans rfl,
  fun _ _ _ _ _ => F_ret mq72 h72_28 rfl rfl⟩
theorem E72_29 : (∀ (d : Nat) (l1 : Option Value) (x : Nat) (st : List Value) (h : MH) (P : MP), mFr d 72 29 [some (.ref x), l1] st h P = mFr d 72 30 [some (.ref x), l1] (.ref x :: st) h P) ∧
  (∀ (d : Nat) (loc : List (Option Value)) (a : Nat) (st : List Value) (h : MH) (P : MP), mFr d 72 30 loc (.ref a :: st) h P = pget h a 8 5 (fun v => mFr d 72 33 loc (v :: st) h P)) ∧
  (∀ (d : Nat) (l0 : Option Value) (x : Int32) (st : List Value) (h : MH) (P : MP), mFr d 72 33 [l0, some (.int x)] st h P = mFr d 72 34 [l0, some (.int x)] (.int x :: st) h P) ∧
  (∀ (d : Nat) (l1 : Option Value) (x : Nat) (st : List Value) (h : MH) (P : MP), mFr d 72 34 [some (.ref x), l1] st h P = mFr d 72 35 [some (.ref x), l1] (.ref x :: st) h P) ∧
  (∀ (d : Nat) (loc : List (Option Value)) (a : Nat) (st : List Value) (h : MH) (P : MP), mFr d 72 35 loc (.ref a :: st) h P = pget h a 8 4 (fun v => mFr d 72 38 loc (v :: st) h P)) ∧
  (∀ (d : Nat) (loc : List (Option Value)) (b : Nat) (a0 : Int32) (a1 : Nat) (h : MH) (P : MP), mFr d 72 38 loc ((.ref a1) :: (.int a0) :: .ref b :: []) h P = if mrcv h b 0 = true then mRun d 4 [.ref b, .int a0, .ref a1] h (fun v h' => mFr d 72 41 loc (v.toList ++ []) h' P) else False) ∧
  (∀ (d : Nat) (l1 : Option Value) (x : Nat) (st : List Value) (h : MH) (P : MP), mFr d 72 41 [some (.ref x), l1] st h P = mFr d 72 42 [some (.ref x), l1] (.ref x :: st) h P) ∧
  (∀ (d : Nat) (loc : List (Option Value)) (a : Nat) (st : List Value) (h : MH) (P : MP), mFr d 72 42 loc (.ref a :: st) h P = pget h a 8 4 (fun v => mFr d 72 45 loc (v :: st) h P)) ∧
  (∀ (d : Nat) (loc : List (Option Value)) (x : Nat) (st : List Value) (h : MH) (P : MP), mFr d 72 45 loc (.ref x :: st) h P = mFr d 72 46 loc (.ref x :: .ref x :: st) h P) ∧
  (∀ (d : Nat) (loc : List (Option Value)) (a : Nat) (st : List Value) (h : MH) (P : MP), mFr d 72 46 loc (.ref a :: st) h P = pget h a 2 1 (fun v => mFr d 72 49 loc (v :: st) h P)) ∧
  (∀ (d : Nat) (loc : List (Option Value)) (st : List Value) (h : MH) (P : MP), mFr d 72 49 loc st h P = mFr d 72 50 loc (.int 1 :: st) h P) ∧
  (∀ (d : Nat) (loc : List (Option Value)) (x y : Int32) (st : List Value) (h : MH) (P : MP), mFr d 72 50 loc (.int y :: .int x :: st) h P = mFr d 72 51 loc (.int (x + y) :: st) h P) ∧
  (∀ (d : Nat) (loc : List (Option Value)) (a : Nat) (x : Int32) (st : List Value) (h : MH) (P : MP), mFr d 72 51 loc (.int x :: .ref a :: st) h P = pput h a 2 1 (.int x) (fun h' => mFr d 72 54 loc (st) h' P)) ∧
  (∀ (d : Nat) (l1 : Option Value) (x : Nat) (st : List Value) (h : MH) (P : MP), mFr d 72 54 [some (.ref x), l1] st h P = mFr d 72 55 [some (.ref x), l1] (.ref x :: st) h P) ∧
  (∀ (d : Nat) (loc : List (Option Value)) (a : Nat) (st : List Value) (h : MH) (P : MP), mFr d 72 55 loc (.ref a :: st) h P = pget h a 8 5 (fun v => mFr d 72 58 loc (v :: st) h P)) ∧
  (∀ (d : Nat) (loc : List (Option Value)) (b : Nat) (h : MH) (P : MP), mFr d 72 58 loc (.ref b :: []) h P = if mrcv h b 0 = true then mRun d 5 [.ref b] h (fun v h' => mFr d 72 61 loc (v.toList ++ []) h' P) else False) ∧
  (∀ (d : Nat) (loc : List (Option Value)) (x : Int32) (h : MH) (P : MP), mFr d 72 61 loc [.int x] h P = P (some (.int x)) h) := ⟨fun _ _ _ _ _ _ => (mFr_S mq72 h72_29).trans rfl,
  fun _ _ _ _ _ _ => F_get mq72 h72_30 (Or.inl (rfl : _ = some (25, 0, 8, 5))),
  fun _ _ _ _ _ _ => (mFr_S mq72 h72_33).trans rfl,
  fun _ _ _ _ _ _ => (mFr_S mq72 h72_34).trans rfl,
  fun _ _ _ _ _ _ => F_get mq72 h72_35 (Or.inl (rfl : _ = some (100, 0, 8, 4))),
  fun _ _ b a0 a1 _ _ => F_callV (as := [.int a0, .ref a1]) (rest := []) mq72 (Or.inl h72_38) (rfl : _ = some (187, 6, 4, 1)) (Or.inl ⟨h72_38, by decide⟩) (by rfl) (by rfl) (by rfl) (Nat.le_of_ble_eq_true rfl),
  fun _ _ _ _ _ _ => (mFr_S mq72 h72_41).trans rfl,
  fun _ _ _ _ _ _ => F_get mq72 h72_42 (Or.inl (rfl : _ = some (100, 0, 8, 4))),
  fun _ _ _ _ _ _ => (mFr_S mq72 h72_45).trans rfl,
  fun _ _ _ _ _ _ => F_get mq72 h72_46 (Or.inr (rfl : _ = some (128, 1, 2, 1))),
  fun _ _ _ _ _ => (mFr_S mq72 h72_49).trans rfl,
  fun _ _ _ _ _ _ _ => (mFr_S mq72 h72_50).trans rfl,
  fun _ _ _ _ _ _ _ => F_put mq72 h72_51 (Or.inr ⟨(rfl : _ = some (128, 1, 2, 1)), rfl⟩),
  fun _ _ _ _ _ _ => (mFr_S mq72 h72_54).trans rfl,
  fun _ _ _ _ _ _ => F_get mq72 h72_55 (Or.inl (rfl : _ = some (25, 0, 8, 5))),
  fun _ _ b _ _ => F_callV (as := []) (rest := []) mq72 (Or.inl h72_58) (rfl : _ = some (191, 6, 5, 1)) (Or.inl ⟨h72_58, by decide⟩) (by rfl) (by rfl) (by rfl) (Nat.le_of_ble_eq_true rfl),
  fun _ _ _ _ _ => F_ret mq72 h72_61 rfl rfl⟩
theorem B72 : ∀ (d : Nat) (b : Nat) (a0 : Int32) (h : MH) (P : MP), mRun (d + 1) 72 [.ref b, .int a0] h P = mFr d 72 0 [some (.ref b), some (.int a0)] [] h P := fun _ _ _ _ _ => mRun_S mq72 (Nat.le_of_ble_eq_true rfl)
-- 73: PuncturesAreViews.run(III)I loops at [46]
def q73 : MI := (yX8_run, cX8_run, 9, (some .int), 8, 3)
theorem mq73 : mtab[73]? = some q73 := rfl
theorem h73_0 : mfetch q73.2.1 0 = some (.aload_n 0) := by decide +kernel
theorem h73_1 : mfetch q73.2.1 1 = some (.getfield 25) := by decide +kernel
theorem h73_4 : mfetch q73.2.1 4 = some (.iload_n 1) := by decide +kernel
theorem h73_5 : mfetch q73.2.1 5 = some (.invokevirtual 135) := by decide +kernel
theorem h73_8 : mfetch q73.2.1 8 = some (.astore 4) := by decide +kernel
theorem h73_10 : mfetch q73.2.1 10 = some (.aload 4) := by decide +kernel
theorem h73_12 : mfetch q73.2.1 12 = some (.ifnull 13) := by decide +kernel
theorem h73_15 : mfetch q73.2.1 15 = some (.iload_n 2) := by decide +kernel
theorem h73_16 : mfetch q73.2.1 16 = some (.ifCond .lt 9) := by decide +kernel
theorem h73_19 : mfetch q73.2.1 19 = some (.iload_n 2) := by decide +kernel
theorem h73_20 : mfetch q73.2.1 20 = some (.bipush 60) := by decide +kernel
theorem h73_22 : mfetch q73.2.1 22 = some (.if_icmp .le 6) := by decide +kernel
theorem h73_25 : mfetch q73.2.1 25 = some (.bipush (-2)) := by decide +kernel
theorem h73_27 : mfetch q73.2.1 27 = some (.ireturn) := by decide +kernel
theorem h73_28 : mfetch q73.2.1 28 = some (.aload_n 0) := by decide +kernel
theorem h73_29 : mfetch q73.2.1 29 = some (.getfield 45) := by decide +kernel
theorem h73_32 : mfetch q73.2.1 32 = some (.aload 4) := by decide +kernel
theorem h73_34 : mfetch q73.2.1 34 = some (.invokevirtual 194) := by decide +kernel
theorem h73_37 : mfetch q73.2.1 37 = some (.iconst 0) := by decide +kernel
theorem h73_38 : mfetch q73.2.1 38 = some (.istore 5) := by decide +kernel
theorem h73_40 : mfetch q73.2.1 40 = some (.iconst 0) := by decide +kernel
theorem h73_41 : mfetch q73.2.1 41 = some (.istore 6) := by decide +kernel
theorem h73_43 : mfetch q73.2.1 43 = some (.iconst 0) := by decide +kernel
theorem h73_44 : mfetch q73.2.1 44 = some (.istore 7) := by decide +kernel
theorem h73_46 : mfetch q73.2.1 46 = some (.iload 7) := by decide +kernel
theorem h73_48 : mfetch q73.2.1 48 = some (.iload_n 2) := by decide +kernel
theorem h73_49 : mfetch q73.2.1 49 = some (.if_icmp .ge 40) := by decide +kernel
theorem h73_52 : mfetch q73.2.1 52 = some (.aload_n 0) := by decide +kernel
theorem h73_53 : mfetch q73.2.1 53 = some (.getfield 45) := by decide +kernel
theorem h73_56 : mfetch q73.2.1 56 = some (.aload_n 0) := by decide +kernel
theorem h73_57 : mfetch q73.2.1 57 = some (.getfield 100) := by decide +kernel
theorem h73_60 : mfetch q73.2.1 60 = some (.invokevirtual 184) := by decide +kernel
theorem h73_63 : mfetch q73.2.1 63 = some (.istore 8) := by decide +kernel
theorem h73_65 : mfetch q73.2.1 65 = some (.iload 8) := by decide +kernel
theorem h73_67 : mfetch q73.2.1 67 = some (.iconst 4) := by decide +kernel
theorem h73_68 : mfetch q73.2.1 68 = some (.if_icmp .ne 6) := by decide +kernel
theorem h73_71 : mfetch q73.2.1 71 = some (.iinc 5 1) := by decide +kernel
theorem h73_74 : mfetch q73.2.1 74 = some (.iload 8) := by decide +kernel
theorem h73_76 : mfetch q73.2.1 76 = some (.iconst 1) := by decide +kernel
theorem h73_77 : mfetch q73.2.1 77 = some (.if_icmp .ne 6) := by decide +kernel
theorem h73_80 : mfetch q73.2.1 80 = some (.iinc 6 1) := by decide +kernel
theorem h73_83 : mfetch q73.2.1 83 = some (.iinc 7 1) := by decide +kernel
theorem h73_86 : mfetch q73.2.1 86 = some (.goto (-40)) := by decide +kernel
theorem h73_89 : mfetch q73.2.1 89 = some (.iload_n 3) := by decide +kernel
theorem h73_90 : mfetch q73.2.1 90 = some (.tableswitch 64 0 4 #[34, 42, 50, 58, 61]) := by decide +kernel
theorem h73_124 : mfetch q73.2.1 124 = some (.aload_n 0) := by decide +kernel
theorem h73_125 : mfetch q73.2.1 125 = some (.getfield 45) := by decide +kernel
theorem h73_128 : mfetch q73.2.1 128 = some (.getfield 145) := by decide +kernel
theorem h73_131 : mfetch q73.2.1 131 = some (.ireturn) := by decide +kernel
theorem h73_132 : mfetch q73.2.1 132 = some (.aload_n 0) := by decide +kernel
theorem h73_133 : mfetch q73.2.1 133 = some (.getfield 45) := by decide +kernel
theorem h73_136 : mfetch q73.2.1 136 = some (.getfield 148) := by decide +kernel
theorem h73_139 : mfetch q73.2.1 139 = some (.ireturn) := by decide +kernel
theorem h73_140 : mfetch q73.2.1 140 = some (.aload_n 0) := by decide +kernel
theorem h73_141 : mfetch q73.2.1 141 = some (.getfield 45) := by decide +kernel
theorem h73_144 : mfetch q73.2.1 144 = some (.getfield 142) := by decide +kernel
theorem h73_147 : mfetch q73.2.1 147 = some (.ireturn) := by decide +kernel
theorem h73_148 : mfetch q73.2.1 148 = some (.iload 5) := by decide +kernel
theorem h73_150 : mfetch q73.2.1 150 = some (.ireturn) := by decide +kernel
theorem h73_151 : mfetch q73.2.1 151 = some (.iload 6) := by decide +kernel
theorem h73_153 : mfetch q73.2.1 153 = some (.ireturn) := by decide +kernel
theorem h73_154 : mfetch q73.2.1 154 = some (.bipush (-2)) := by decide +kernel
theorem h73_156 : mfetch q73.2.1 156 = some (.ireturn) := by decide +kernel
theorem E73_0 : (∀ (d : Nat) (l1 : Option Value) (l2 : Option Value) (l3 : Option Value) (l4 : Option Value) (l5 : Option Value) (l6 : Option Value) (l7 : Option Value) (l8 : Option Value) (x : Nat) (st : List Value) (h : MH) (P : MP), mFr d 73 0 [some (.ref x), l1, l2, l3, l4, l5, l6, l7, l8] st h P = mFr d 73 1 [some (.ref x), l1, l2, l3, l4, l5, l6, l7, l8] (.ref x :: st) h P) ∧
  (∀ (d : Nat) (loc : List (Option Value)) (a : Nat) (st : List Value) (h : MH) (P : MP), mFr d 73 1 loc (.ref a :: st) h P = pget h a 8 5 (fun v => mFr d 73 4 loc (v :: st) h P)) ∧
  (∀ (d : Nat) (l0 : Option Value) (l2 : Option Value) (l3 : Option Value) (l4 : Option Value) (l5 : Option Value) (l6 : Option Value) (l7 : Option Value) (l8 : Option Value) (x : Int32) (st : List Value) (h : MH) (P : MP), mFr d 73 4 [l0, some (.int x), l2, l3, l4, l5, l6, l7, l8] st h P = mFr d 73 5 [l0, some (.int x), l2, l3, l4, l5, l6, l7, l8] (.int x :: st) h P) ∧
  (∀ (d : Nat) (loc : List (Option Value)) (b : Nat) (a0 : Int32) (h : MH) (P : MP), mFr d 73 5 loc ((.int a0) :: .ref b :: []) h P = if mrcv h b 0 = true then mRun d 1 [.ref b, .int a0] h (fun v h' => mFr d 73 8 loc (v.toList ++ []) h' P) else False) ∧
  (∀ (d : Nat) (l0 : Option Value) (l1 : Option Value) (l2 : Option Value) (l3 : Option Value) (l4 : Option Value) (l5 : Option Value) (l6 : Option Value) (l7 : Option Value) (l8 : Option Value) (x : Nat) (st : List Value) (h : MH) (P : MP), mnl l3 = true → mFr d 73 8 [l0, l1, l2, l3, l4, l5, l6, l7, l8] (.ref x :: st) h P = mFr d 73 10 [l0, l1, l2, l3, some (.ref x), l5, l6, l7, l8] (st) h P) ∧
  (∀ (d : Nat) (l0 : Option Value) (l1 : Option Value) (l2 : Option Value) (l3 : Option Value) (l4 : Option Value) (l5 : Option Value) (l6 : Option Value) (l7 : Option Value) (l8 : Option Value) (st : List Value) (h : MH) (P : MP), mnl l3 = true → mFr d 73 8 [l0, l1, l2, l3, l4, l5, l6, l7, l8] (.null :: st) h P = mFr d 73 10 [l0, l1, l2, l3, some .null, l5, l6, l7, l8] (st) h P) ∧
  (∀ (d : Nat) (l0 : Option Value) (l1 : Option Value) (l2 : Option Value) (l3 : Option Value) (l5 : Option Value) (l6 : Option Value) (l7 : Option Value) (l8 : Option Value) (x : Nat) (st : List Value) (h : MH) (P : MP), mFr d 73 10 [l0, l1, l2, l3, some (.ref x), l5, l6, l7, l8] st h P = mFr d 73 12 [l0, l1, l2, l3, some (.ref x), l5, l6, l7, l8] (.ref x :: st) h P) ∧
  (∀ (d : Nat) (l0 : Option Value) (l1 : Option Value) (l2 : Option Value) (l3 : Option Value) (l5 : Option Value) (l6 : Option Value) (l7 : Option Value) (l8 : Option Value) (st : List Value) (h : MH) (P : MP), mFr d 73 10 [l0, l1, l2, l3, some .null, l5, l6, l7, l8] st h P = mFr d 73 12 [l0, l1, l2, l3, some .null, l5, l6, l7, l8] (.null :: st) h P) ∧
  (∀ (d : Nat) (loc : List (Option Value)) (x : Nat) (st : List Value) (h : MH) (P : MP), mFr d 73 12 loc (.ref x :: st) h P = if x < 900 then mFr d 73 15 loc (st) h P else False) ∧
  (∀ (d : Nat) (loc : List (Option Value)) (st : List Value) (h : MH) (P : MP), mFr d 73 12 loc (.null :: st) h P = mFr d 73 25 loc (st) h P) := ⟨fun _ _ _ _ _ _ _ _ _ _ _ _ _ => (mFr_S mq73 h73_0).trans rfl,
  fun _ _ _ _ _ _ => F_get mq73 h73_1 (Or.inl (rfl : _ = some (25, 0, 8, 5))),
  fun _ _ _ _ _ _ _ _ _ _ _ _ _ => (mFr_S mq73 h73_4).trans rfl,
  fun _ _ b a0 _ _ => F_callV (as := [.int a0]) (rest := []) mq73 (Or.inl h73_5) (rfl : _ = some (135, 6, 1, 1)) (Or.inl ⟨h73_5, by decide⟩) (by rfl) (by rfl) (by rfl) (Nat.le_of_ble_eq_true rfl),
  fun _ _ _ _ _ _ _ _ _ _ _ _ _ _ hm => (mFr_S mq73 h73_8).trans (by simp only [mgo.eq_1, mstep, mi1, ml1, mast, mst, mst2, mprev, List.length_cons, List.length_nil, List.getElem?_cons_succ, List.getElem?_cons_zero, hm]; rfl),
  fun _ _ _ _ _ _ _ _ _ _ _ _ _ hm => (mFr_S mq73 h73_8).trans (by simp only [mgo.eq_1, mstep, mi1, ml1, mast, mst, mst2, mprev, List.length_cons, List.length_nil, List.getElem?_cons_succ, List.getElem?_cons_zero, hm]; rfl),
  fun _ _ _ _ _ _ _ _ _ _ _ _ _ => (mFr_S mq73 h73_10).trans rfl,
  fun _ _ _ _ _ _ _ _ _ _ _ _ => (mFr_S mq73 h73_10).trans rfl,
  fun _ _ _ _ _ _ => F_ifnullR mq73 h73_12,
  fun _ _ _ _ _ => F_ifnullN 25 mq73 h73_12 (by decide)⟩
theorem E73_15 : (∀ (d : Nat) (l0 : Option Value) (l1 : Option Value) (l3 : Option Value) (l4 : Option Value) (l5 : Option Value) (l6 : Option Value) (l7 : Option Value) (l8 : Option Value) (x : Int32) (st : List Value) (h : MH) (P : MP), mFr d 73 15 [l0, l1, some (.int x), l3, l4, l5, l6, l7, l8] st h P = mFr d 73 16 [l0, l1, some (.int x), l3, l4, l5, l6, l7, l8] (.int x :: st) h P) ∧
  (∀ (d : Nat) (loc : List (Option Value)) (x : Int32) (st : List Value) (h : MH) (P : MP), mFr d 73 16 loc (.int x :: st) h P = if x < 0 then mFr d 73 25 loc (st) h P else mFr d 73 19 loc (st) h P) := ⟨fun _ _ _ _ _ _ _ _ _ _ _ _ _ => (mFr_S mq73 h73_15).trans rfl,
  fun _ _ _ _ _ _ => (F_ifz 25 mq73 h73_16 (by decide)).trans mif_lt⟩
theorem E73_19 : (∀ (d : Nat) (l0 : Option Value) (l1 : Option Value) (l3 : Option Value) (l4 : Option Value) (l5 : Option Value) (l6 : Option Value) (l7 : Option Value) (l8 : Option Value) (x : Int32) (st : List Value) (h : MH) (P : MP), mFr d 73 19 [l0, l1, some (.int x), l3, l4, l5, l6, l7, l8] st h P = mFr d 73 20 [l0, l1, some (.int x), l3, l4, l5, l6, l7, l8] (.int x :: st) h P) ∧
  (∀ (d : Nat) (loc : List (Option Value)) (st : List Value) (h : MH) (P : MP), mFr d 73 20 loc st h P = mFr d 73 22 loc (.int 60 :: st) h P) ∧
  (∀ (d : Nat) (loc : List (Option Value)) (x y : Int32) (st : List Value) (h : MH) (P : MP), mFr d 73 22 loc (.int y :: .int x :: st) h P = if y < x then mFr d 73 25 loc (st) h P else mFr d 73 28 loc (st) h P) := ⟨fun _ _ _ _ _ _ _ _ _ _ _ _ _ => (mFr_S mq73 h73_19).trans rfl,
  fun _ _ _ _ _ => (mFr_S mq73 h73_20).trans rfl,
  fun _ _ _ _ _ _ _ => (F_icmp 28 mq73 h73_22 (by decide)).trans mif_le⟩
theorem E73_25 : (∀ (d : Nat) (loc : List (Option Value)) (st : List Value) (h : MH) (P : MP), mFr d 73 25 loc st h P = mFr d 73 27 loc (.int (-2) :: st) h P) ∧
  (∀ (d : Nat) (loc : List (Option Value)) (x : Int32) (h : MH) (P : MP), mFr d 73 27 loc [.int x] h P = P (some (.int x)) h) := ⟨fun _ _ _ _ _ => (mFr_S mq73 h73_25).trans rfl,
  fun _ _ _ _ _ => F_ret mq73 h73_27 rfl rfl⟩
theorem E73_28 : (∀ (d : Nat) (l1 : Option Value) (l2 : Option Value) (l3 : Option Value) (l4 : Option Value) (l5 : Option Value) (l6 : Option Value) (l7 : Option Value) (l8 : Option Value) (x : Nat) (st : List Value) (h : MH) (P : MP), mFr d 73 28 [some (.ref x), l1, l2, l3, l4, l5, l6, l7, l8] st h P = mFr d 73 29 [some (.ref x), l1, l2, l3, l4, l5, l6, l7, l8] (.ref x :: st) h P) ∧
  (∀ (d : Nat) (loc : List (Option Value)) (a : Nat) (st : List Value) (h : MH) (P : MP), mFr d 73 29 loc (.ref a :: st) h P = pget h a 8 12 (fun v => mFr d 73 32 loc (v :: st) h P)) ∧
  (∀ (d : Nat) (l0 : Option Value) (l1 : Option Value) (l2 : Option Value) (l3 : Option Value) (l5 : Option Value) (l6 : Option Value) (l7 : Option Value) (l8 : Option Value) (x : Nat) (st : List Value) (h : MH) (P : MP), mFr d 73 32 [l0, l1, l2, l3, some (.ref x), l5, l6, l7, l8] st h P = mFr d 73 34 [l0, l1, l2, l3, some (.ref x), l5, l6, l7, l8] (.ref x :: st) h P) ∧
  (∀ (d : Nat) (l0 : Option Value) (l1 : Option Value) (l2 : Option Value) (l3 : Option Value) (l5 : Option Value) (l6 : Option Value) (l7 : Option Value) (l8 : Option Value) (st : List Value) (h : MH) (P : MP), mFr d 73 32 [l0, l1, l2, l3, some .null, l5, l6, l7, l8] st h P = mFr d 73 34 [l0, l1, l2, l3, some .null, l5, l6, l7, l8] (.null :: st) h P) ∧
  (∀ (d : Nat) (loc : List (Option Value)) (b : Nat) (a0 : Nat) (h : MH) (P : MP), mFr d 73 34 loc ((.ref a0) :: .ref b :: []) h P = if mrcv h b 1 = true then mRun d 9 [.ref b, .ref a0] h (fun v h' => mFr d 73 37 loc (v.toList ++ []) h' P) else False) ∧
  (∀ (d : Nat) (loc : List (Option Value)) (st : List Value) (h : MH) (P : MP), mFr d 73 37 loc st h P = mFr d 73 38 loc (.int 0 :: st) h P) ∧
  (∀ (d : Nat) (l0 : Option Value) (l1 : Option Value) (l2 : Option Value) (l3 : Option Value) (l4 : Option Value) (l5 : Option Value) (l6 : Option Value) (l7 : Option Value) (l8 : Option Value) (x : Int32) (st : List Value) (h : MH) (P : MP), mnl l4 = true → mFr d 73 38 [l0, l1, l2, l3, l4, l5, l6, l7, l8] (.int x :: st) h P = mFr d 73 40 [l0, l1, l2, l3, l4, some (.int x), l6, l7, l8] (st) h P) ∧
  (∀ (d : Nat) (loc : List (Option Value)) (st : List Value) (h : MH) (P : MP), mFr d 73 40 loc st h P = mFr d 73 41 loc (.int 0 :: st) h P) ∧
  (∀ (d : Nat) (l0 : Option Value) (l1 : Option Value) (l2 : Option Value) (l3 : Option Value) (l4 : Option Value) (l5 : Option Value) (l6 : Option Value) (l7 : Option Value) (l8 : Option Value) (x : Int32) (st : List Value) (h : MH) (P : MP), mnl l5 = true → mFr d 73 41 [l0, l1, l2, l3, l4, l5, l6, l7, l8] (.int x :: st) h P = mFr d 73 43 [l0, l1, l2, l3, l4, l5, some (.int x), l7, l8] (st) h P) ∧
  (∀ (d : Nat) (loc : List (Option Value)) (st : List Value) (h : MH) (P : MP), mFr d 73 43 loc st h P = mFr d 73 44 loc (.int 0 :: st) h P) ∧
  (∀ (d : Nat) (l0 : Option Value) (l1 : Option Value) (l2 : Option Value) (l3 : Option Value) (l4 : Option Value) (l5 : Option Value) (l6 : Option Value) (l7 : Option Value) (l8 : Option Value) (x : Int32) (st : List Value) (h : MH) (P : MP), mnl l6 = true → mFr d 73 44 [l0, l1, l2, l3, l4, l5, l6, l7, l8] (.int x :: st) h P = mFr d 73 46 [l0, l1, l2, l3, l4, l5, l6, some (.int x), l8] (st) h P) := ⟨fun _ _ _ _ _ _ _ _ _ _ _ _ _ => (mFr_S mq73 h73_28).trans rfl,
  fun _ _ _ _ _ _ => F_get mq73 h73_29 (Or.inl (rfl : _ = some (45, 0, 8, 12))),
  fun _ _ _ _ _ _ _ _ _ _ _ _ _ => (mFr_S mq73 h73_32).trans rfl,
  fun _ _ _ _ _ _ _ _ _ _ _ _ => (mFr_S mq73 h73_32).trans rfl,
  fun _ _ b a0 _ _ => F_callV (as := [.ref a0]) (rest := []) mq73 (Or.inl h73_34) (rfl : _ = some (194, 6, 9, 1)) (Or.inl ⟨h73_34, by decide⟩) (by rfl) (by rfl) (by rfl) (Nat.le_of_ble_eq_true rfl),
  fun _ _ _ _ _ => (mFr_S mq73 h73_37).trans rfl,
  fun _ _ _ _ _ _ _ _ _ _ _ _ _ _ hm => (mFr_S mq73 h73_38).trans (by simp only [mgo.eq_1, mstep, mi1, ml1, mast, mst, mst2, mprev, List.length_cons, List.length_nil, List.getElem?_cons_succ, List.getElem?_cons_zero, hm]; rfl),
  fun _ _ _ _ _ => (mFr_S mq73 h73_40).trans rfl,
  fun _ _ _ _ _ _ _ _ _ _ _ _ _ _ hm => (mFr_S mq73 h73_41).trans (by simp only [mgo.eq_1, mstep, mi1, ml1, mast, mst, mst2, mprev, List.length_cons, List.length_nil, List.getElem?_cons_succ, List.getElem?_cons_zero, hm]; rfl),
  fun _ _ _ _ _ => (mFr_S mq73 h73_43).trans rfl,
  fun _ _ _ _ _ _ _ _ _ _ _ _ _ _ hm => (mFr_S mq73 h73_44).trans (by simp only [mgo.eq_1, mstep, mi1, ml1, mast, mst, mst2, mprev, List.length_cons, List.length_nil, List.getElem?_cons_succ, List.getElem?_cons_zero, hm]; rfl)⟩
theorem E73_46 : (∀ (d : Nat) (l0 : Option Value) (l1 : Option Value) (l2 : Option Value) (l3 : Option Value) (l4 : Option Value) (l5 : Option Value) (l6 : Option Value) (l8 : Option Value) (x : Int32) (st : List Value) (h : MH) (P : MP), mFr d 73 46 [l0, l1, l2, l3, l4, l5, l6, some (.int x), l8] st h P = mFr d 73 48 [l0, l1, l2, l3, l4, l5, l6, some (.int x), l8] (.int x :: st) h P) ∧
  (∀ (d : Nat) (l0 : Option Value) (l1 : Option Value) (l3 : Option Value) (l4 : Option Value) (l5 : Option Value) (l6 : Option Value) (l7 : Option Value) (l8 : Option Value) (x : Int32) (st : List Value) (h : MH) (P : MP), mFr d 73 48 [l0, l1, some (.int x), l3, l4, l5, l6, l7, l8] st h P = mFr d 73 49 [l0, l1, some (.int x), l3, l4, l5, l6, l7, l8] (.int x :: st) h P) ∧
  (∀ (d : Nat) (loc : List (Option Value)) (x y : Int32) (st : List Value) (h : MH) (P : MP), mFr d 73 49 loc (.int y :: .int x :: st) h P = if x < y then mFr d 73 52 loc (st) h P else mFr d 73 89 loc (st) h P) := ⟨fun _ _ _ _ _ _ _ _ _ _ _ _ _ => (mFr_S mq73 h73_46).trans rfl,
  fun _ _ _ _ _ _ _ _ _ _ _ _ _ => (mFr_S mq73 h73_48).trans rfl,
  fun _ _ _ _ _ _ _ => (F_icmp 89 mq73 h73_49 (by decide)).trans mif_ge⟩
theorem E73_52 : (∀ (d : Nat) (l1 : Option Value) (l2 : Option Value) (l3 : Option Value) (l4 : Option Value) (l5 : Option Value) (l6 : Option Value) (l7 : Option Value) (l8 : Option Value) (x : Nat) (st : List Value) (h : MH) (P : MP), mFr d 73 52 [some (.ref x), l1, l2, l3, l4, l5, l6, l7, l8] st h P = mFr d 73 53 [some (.ref x), l1, l2, l3, l4, l5, l6, l7, l8] (.ref x :: st) h P) ∧
  (∀ (d : Nat) (loc : List (Option Value)) (a : Nat) (st : List Value) (h : MH) (P : MP), mFr d 73 53 loc (.ref a :: st) h P = pget h a 8 12 (fun v => mFr d 73 56 loc (v :: st) h P)) ∧
  (∀ (d : Nat) (l1 : Option Value) (l2 : Option Value) (l3 : Option Value) (l4 : Option Value) (l5 : Option Value) (l6 : Option Value) (l7 : Option Value) (l8 : Option Value) (x : Nat) (st : List Value) (h : MH) (P : MP), mFr d 73 56 [some (.ref x), l1, l2, l3, l4, l5, l6, l7, l8] st h P = mFr d 73 57 [some (.ref x), l1, l2, l3, l4, l5, l6, l7, l8] (.ref x :: st) h P) ∧
  (∀ (d : Nat) (loc : List (Option Value)) (a : Nat) (st : List Value) (h : MH) (P : MP), mFr d 73 57 loc (.ref a :: st) h P = pget h a 8 4 (fun v => mFr d 73 60 loc (v :: st) h P)) ∧
  (∀ (d : Nat) (loc : List (Option Value)) (b : Nat) (a0 : Nat) (h : MH) (P : MP), mFr d 73 60 loc ((.ref a0) :: .ref b :: []) h P = if mrcv h b 1 = true then mRun d 11 [.ref b, .ref a0] h (fun v h' => mFr d 73 63 loc (v.toList ++ []) h' P) else False) ∧
  (∀ (d : Nat) (l0 : Option Value) (l1 : Option Value) (l2 : Option Value) (l3 : Option Value) (l4 : Option Value) (l5 : Option Value) (l6 : Option Value) (l7 : Option Value) (l8 : Option Value) (x : Int32) (st : List Value) (h : MH) (P : MP), mnl l7 = true → mFr d 73 63 [l0, l1, l2, l3, l4, l5, l6, l7, l8] (.int x :: st) h P = mFr d 73 65 [l0, l1, l2, l3, l4, l5, l6, l7, some (.int x)] (st) h P) ∧
  (∀ (d : Nat) (l0 : Option Value) (l1 : Option Value) (l2 : Option Value) (l3 : Option Value) (l4 : Option Value) (l5 : Option Value) (l6 : Option Value) (l7 : Option Value) (x : Int32) (st : List Value) (h : MH) (P : MP), mFr d 73 65 [l0, l1, l2, l3, l4, l5, l6, l7, some (.int x)] st h P = mFr d 73 67 [l0, l1, l2, l3, l4, l5, l6, l7, some (.int x)] (.int x :: st) h P) ∧
  (∀ (d : Nat) (loc : List (Option Value)) (st : List Value) (h : MH) (P : MP), mFr d 73 67 loc st h P = mFr d 73 68 loc (.int 4 :: st) h P) ∧
  (∀ (d : Nat) (loc : List (Option Value)) (x y : Int32) (st : List Value) (h : MH) (P : MP), mFr d 73 68 loc (.int y :: .int x :: st) h P = if x = y then mFr d 73 71 loc (st) h P else mFr d 73 74 loc (st) h P) := ⟨fun _ _ _ _ _ _ _ _ _ _ _ _ _ => (mFr_S mq73 h73_52).trans rfl,
  fun _ _ _ _ _ _ => F_get mq73 h73_53 (Or.inl (rfl : _ = some (45, 0, 8, 12))),
  fun _ _ _ _ _ _ _ _ _ _ _ _ _ => (mFr_S mq73 h73_56).trans rfl,
  fun _ _ _ _ _ _ => F_get mq73 h73_57 (Or.inl (rfl : _ = some (100, 0, 8, 4))),
  fun _ _ b a0 _ _ => F_callV (as := [.ref a0]) (rest := []) mq73 (Or.inl h73_60) (rfl : _ = some (184, 6, 11, 1)) (Or.inl ⟨h73_60, by decide⟩) (by rfl) (by rfl) (by rfl) (Nat.le_of_ble_eq_true rfl),
  fun _ _ _ _ _ _ _ _ _ _ _ _ _ _ hm => (mFr_S mq73 h73_63).trans (by simp only [mgo.eq_1, mstep, mi1, ml1, mast, mst, mst2, mprev, List.length_cons, List.length_nil, List.getElem?_cons_succ, List.getElem?_cons_zero, hm]; rfl),
  fun _ _ _ _ _ _ _ _ _ _ _ _ _ => (mFr_S mq73 h73_65).trans rfl,
  fun _ _ _ _ _ => (mFr_S mq73 h73_67).trans rfl,
  fun _ _ _ _ _ _ _ => (F_icmp 74 mq73 h73_68 (by decide)).trans mif_ne⟩
theorem E73_71 : (∀ (d : Nat) (l0 : Option Value) (l1 : Option Value) (l2 : Option Value) (l3 : Option Value) (l4 : Option Value) (l6 : Option Value) (l7 : Option Value) (l8 : Option Value) (x : Int32) (st : List Value) (h : MH) (P : MP), mnl l4 = true → mFr d 73 71 [l0, l1, l2, l3, l4, some (.int x), l6, l7, l8] st h P = mFr d 73 74 [l0, l1, l2, l3, l4, some (.int (x + 1)), l6, l7, l8] (st) h P) := fun _ _ _ _ _ _ _ _ _ _ _ _ _ hm => (mFr_S mq73 h73_71).trans (by simp only [mgo.eq_1, mstep, mld, mst, mprev, List.length_cons, List.length_nil, List.getElem?_cons_succ, List.getElem?_cons_zero, hm]; rfl)
theorem E73_74 : (∀ (d : Nat) (l0 : Option Value) (l1 : Option Value) (l2 : Option Value) (l3 : Option Value) (l4 : Option Value) (l5 : Option Value) (l6 : Option Value) (l7 : Option Value) (x : Int32) (st : List Value) (h : MH) (P : MP), mFr d 73 74 [l0, l1, l2, l3, l4, l5, l6, l7, some (.int x)] st h P = mFr d 73 76 [l0, l1, l2, l3, l4, l5, l6, l7, some (.int x)] (.int x :: st) h P) ∧
  (∀ (d : Nat) (loc : List (Option Value)) (st : List Value) (h : MH) (P : MP), mFr d 73 76 loc st h P = mFr d 73 77 loc (.int 1 :: st) h P) ∧
  (∀ (d : Nat) (loc : List (Option Value)) (x y : Int32) (st : List Value) (h : MH) (P : MP), mFr d 73 77 loc (.int y :: .int x :: st) h P = if x = y then mFr d 73 80 loc (st) h P else mFr d 73 83 loc (st) h P) := ⟨fun _ _ _ _ _ _ _ _ _ _ _ _ _ => (mFr_S mq73 h73_74).trans rfl,
  fun _ _ _ _ _ => (mFr_S mq73 h73_76).trans rfl,
  fun _ _ _ _ _ _ _ => (F_icmp 83 mq73 h73_77 (by decide)).trans mif_ne⟩
theorem E73_80 : (∀ (d : Nat) (l0 : Option Value) (l1 : Option Value) (l2 : Option Value) (l3 : Option Value) (l4 : Option Value) (l5 : Option Value) (l7 : Option Value) (l8 : Option Value) (x : Int32) (st : List Value) (h : MH) (P : MP), mnl l5 = true → mFr d 73 80 [l0, l1, l2, l3, l4, l5, some (.int x), l7, l8] st h P = mFr d 73 83 [l0, l1, l2, l3, l4, l5, some (.int (x + 1)), l7, l8] (st) h P) := fun _ _ _ _ _ _ _ _ _ _ _ _ _ hm => (mFr_S mq73 h73_80).trans (by simp only [mgo.eq_1, mstep, mld, mst, mprev, List.length_cons, List.length_nil, List.getElem?_cons_succ, List.getElem?_cons_zero, hm]; rfl)
theorem E73_83 : (∀ (d : Nat) (l0 : Option Value) (l1 : Option Value) (l2 : Option Value) (l3 : Option Value) (l4 : Option Value) (l5 : Option Value) (l6 : Option Value) (l8 : Option Value) (x : Int32) (st : List Value) (h : MH) (P : MP), mnl l6 = true → mFr d 73 83 [l0, l1, l2, l3, l4, l5, l6, some (.int x), l8] st h P = mFr d 73 86 [l0, l1, l2, l3, l4, l5, l6, some (.int (x + 1)), l8] (st) h P) ∧
  (∀ (d : Nat) (loc : List (Option Value)) (st : List Value) (h : MH) (P : MP), mFr d 73 86 loc st h P = mFr d 73 46 loc (st) h P) := ⟨fun _ _ _ _ _ _ _ _ _ _ _ _ _ hm => (mFr_S mq73 h73_83).trans (by simp only [mgo.eq_1, mstep, mld, mst, mprev, List.length_cons, List.length_nil, List.getElem?_cons_succ, List.getElem?_cons_zero, hm]; rfl),
  fun _ _ _ _ _ => F_goto 46 mq73 h73_86 (by decide)⟩
theorem E73_89 : (∀ (d : Nat) (l0 : Option Value) (l1 : Option Value) (l2 : Option Value) (l4 : Option Value) (l5 : Option Value) (l6 : Option Value) (l7 : Option Value) (l8 : Option Value) (x : Int32) (st : List Value) (h : MH) (P : MP), mFr d 73 89 [l0, l1, l2, some (.int x), l4, l5, l6, l7, l8] st h P = mFr d 73 90 [l0, l1, l2, some (.int x), l4, l5, l6, l7, l8] (.int x :: st) h P) ∧
  (∀ (d : Nat) (loc : List (Option Value)) (x : Int32) (st : List Value) (h : MH) (P : MP), mFr d 73 90 loc (.int x :: st) h P = if x = 0 then mFr d 73 124 loc (st) h P else if x = 1 then mFr d 73 132 loc (st) h P else if x = 2 then mFr d 73 140 loc (st) h P else if x = 3 then mFr d 73 148 loc (st) h P else if x = 4 then mFr d 73 151 loc (st) h P else mFr d 73 154 loc (st) h P) := ⟨fun _ _ _ _ _ _ _ _ _ _ _ _ _ => (mFr_S mq73 h73_89).trans rfl,
  fun _ _ _ _ _ _ => F_table 154 [(0, 124), (1, 132), (2, 140), (3, 148), (4, 151)] mq73 h73_90 (by decide) (by decide +kernel) (by decide)⟩
theorem E73_124 : (∀ (d : Nat) (l1 : Option Value) (l2 : Option Value) (l3 : Option Value) (l4 : Option Value) (l5 : Option Value) (l6 : Option Value) (l7 : Option Value) (l8 : Option Value) (x : Nat) (st : List Value) (h : MH) (P : MP), mFr d 73 124 [some (.ref x), l1, l2, l3, l4, l5, l6, l7, l8] st h P = mFr d 73 125 [some (.ref x), l1, l2, l3, l4, l5, l6, l7, l8] (.ref x :: st) h P) ∧
  (∀ (d : Nat) (loc : List (Option Value)) (a : Nat) (st : List Value) (h : MH) (P : MP), mFr d 73 125 loc (.ref a :: st) h P = pget h a 8 12 (fun v => mFr d 73 128 loc (v :: st) h P)) ∧
  (∀ (d : Nat) (loc : List (Option Value)) (a : Nat) (st : List Value) (h : MH) (P : MP), mFr d 73 128 loc (.ref a :: st) h P = pget h a 1 3 (fun v => mFr d 73 131 loc (v :: st) h P)) ∧
  (∀ (d : Nat) (loc : List (Option Value)) (x : Int32) (h : MH) (P : MP), mFr d 73 131 loc [.int x] h P = P (some (.int x)) h) := ⟨fun _ _ _ _ _ _ _ _ _ _ _ _ _ => (mFr_S mq73 h73_124).trans rfl,
  fun _ _ _ _ _ _ => F_get mq73 h73_125 (Or.inl (rfl : _ = some (45, 0, 8, 12))),
  fun _ _ _ _ _ _ => F_get mq73 h73_128 (Or.inr (rfl : _ = some (145, 1, 1, 3))),
  fun _ _ _ _ _ => F_ret mq73 h73_131 rfl rfl⟩
theorem E73_132 : (∀ (d : Nat) (l1 : Option Value) (l2 : Option Value) (l3 : Option Value) (l4 : Option Value) (l5 : Option Value) (l6 : Option Value) (l7 : Option Value) (l8 : Option Value) (x : Nat) (st : List Value) (h : MH) (P : MP), mFr d 73 132 [some (.ref x), l1, l2, l3, l4, l5, l6, l7, l8] st h P = mFr d 73 133 [some (.ref x), l1, l2, l3, l4, l5, l6, l7, l8] (.ref x :: st) h P) ∧
  (∀ (d : Nat) (loc : List (Option Value)) (a : Nat) (st : List Value) (h : MH) (P : MP), mFr d 73 133 loc (.ref a :: st) h P = pget h a 8 12 (fun v => mFr d 73 136 loc (v :: st) h P)) ∧
  (∀ (d : Nat) (loc : List (Option Value)) (a : Nat) (st : List Value) (h : MH) (P : MP), mFr d 73 136 loc (.ref a :: st) h P = pget h a 1 4 (fun v => mFr d 73 139 loc (v :: st) h P)) ∧
  (∀ (d : Nat) (loc : List (Option Value)) (x : Int32) (h : MH) (P : MP), mFr d 73 139 loc [.int x] h P = P (some (.int x)) h) := ⟨fun _ _ _ _ _ _ _ _ _ _ _ _ _ => (mFr_S mq73 h73_132).trans rfl,
  fun _ _ _ _ _ _ => F_get mq73 h73_133 (Or.inl (rfl : _ = some (45, 0, 8, 12))),
  fun _ _ _ _ _ _ => F_get mq73 h73_136 (Or.inr (rfl : _ = some (148, 1, 1, 4))),
  fun _ _ _ _ _ => F_ret mq73 h73_139 rfl rfl⟩
theorem E73_140 : (∀ (d : Nat) (l1 : Option Value) (l2 : Option Value) (l3 : Option Value) (l4 : Option Value) (l5 : Option Value) (l6 : Option Value) (l7 : Option Value) (l8 : Option Value) (x : Nat) (st : List Value) (h : MH) (P : MP), mFr d 73 140 [some (.ref x), l1, l2, l3, l4, l5, l6, l7, l8] st h P = mFr d 73 141 [some (.ref x), l1, l2, l3, l4, l5, l6, l7, l8] (.ref x :: st) h P) ∧
  (∀ (d : Nat) (loc : List (Option Value)) (a : Nat) (st : List Value) (h : MH) (P : MP), mFr d 73 141 loc (.ref a :: st) h P = pget h a 8 12 (fun v => mFr d 73 144 loc (v :: st) h P)) ∧
  (∀ (d : Nat) (loc : List (Option Value)) (a : Nat) (st : List Value) (h : MH) (P : MP), mFr d 73 144 loc (.ref a :: st) h P = pget h a 1 2 (fun v => mFr d 73 147 loc (v :: st) h P)) ∧
  (∀ (d : Nat) (loc : List (Option Value)) (x : Int32) (h : MH) (P : MP), mFr d 73 147 loc [.int x] h P = P (some (.int x)) h) := ⟨fun _ _ _ _ _ _ _ _ _ _ _ _ _ => (mFr_S mq73 h73_140).trans rfl,
  fun _ _ _ _ _ _ => F_get mq73 h73_141 (Or.inl (rfl : _ = some (45, 0, 8, 12))),
  fun _ _ _ _ _ _ => F_get mq73 h73_144 (Or.inr (rfl : _ = some (142, 1, 1, 2))),
  fun _ _ _ _ _ => F_ret mq73 h73_147 rfl rfl⟩
theorem E73_148 : (∀ (d : Nat) (l0 : Option Value) (l1 : Option Value) (l2 : Option Value) (l3 : Option Value) (l4 : Option Value) (l6 : Option Value) (l7 : Option Value) (l8 : Option Value) (x : Int32) (st : List Value) (h : MH) (P : MP), mFr d 73 148 [l0, l1, l2, l3, l4, some (.int x), l6, l7, l8] st h P = mFr d 73 150 [l0, l1, l2, l3, l4, some (.int x), l6, l7, l8] (.int x :: st) h P) ∧
  (∀ (d : Nat) (loc : List (Option Value)) (x : Int32) (h : MH) (P : MP), mFr d 73 150 loc [.int x] h P = P (some (.int x)) h) := ⟨fun _ _ _ _ _ _ _ _ _ _ _ _ _ => (mFr_S mq73 h73_148).trans rfl,
  fun _ _ _ _ _ => F_ret mq73 h73_150 rfl rfl⟩
theorem E73_151 : (∀ (d : Nat) (l0 : Option Value) (l1 : Option Value) (l2 : Option Value) (l3 : Option Value) (l4 : Option Value) (l5 : Option Value) (l7 : Option Value) (l8 : Option Value) (x : Int32) (st : List Value) (h : MH) (P : MP), mFr d 73 151 [l0, l1, l2, l3, l4, l5, some (.int x), l7, l8] st h P = mFr d 73 153 [l0, l1, l2, l3, l4, l5, some (.int x), l7, l8] (.int x :: st) h P) ∧
  (∀ (d : Nat) (loc : List (Option Value)) (x : Int32) (h : MH) (P : MP), mFr d 73 153 loc [.int x] h P = P (some (.int x)) h) := ⟨fun _ _ _ _ _ _ _ _ _ _ _ _ _ => (mFr_S mq73 h73_151).trans rfl,
  fun _ _ _ _ _ => F_ret mq73 h73_153 rfl rfl⟩
theorem E73_154 : (∀ (d : Nat) (loc : List (Option Value)) (st : List Value) (h : MH) (P : MP), mFr d 73 154 loc st h P = mFr d 73 156 loc (.int (-2) :: st) h P) ∧
  (∀ (d : Nat) (loc : List (Option Value)) (x : Int32) (h : MH) (P : MP), mFr d 73 156 loc [.int x] h P = P (some (.int x)) h) := ⟨fun _ _ _ _ _ => (mFr_S mq73 h73_154).trans rfl,
  fun _ _ _ _ _ => F_ret mq73 h73_156 rfl rfl⟩
theorem B73 : ∀ (d : Nat) (b : Nat) (a0 : Int32) (a1 : Int32) (a2 : Int32) (h : MH) (P : MP), mRun (d + 1) 73 [.ref b, .int a0, .int a1, .int a2] h P = mFr d 73 0 [some (.ref b), some (.int a0), some (.int a1), some (.int a2), none, none, none, none, none] [] h P := fun _ _ _ _ _ _ _ => mRun_S mq73 (Nat.le_of_ble_eq_true rfl)
-- 74: PuncturesAreViews.takes(I)I
def q74 : MI := (yX8_takes, cX8_takes, 3, (some .int), 8, 1)
theorem mq74 : mtab[74]? = some q74 := rfl
theorem h74_0 : mfetch q74.2.1 0 = some (.aload_n 0) := by decide +kernel
theorem h74_1 : mfetch q74.2.1 1 = some (.getfield 25) := by decide +kernel
theorem h74_4 : mfetch q74.2.1 4 = some (.iload_n 1) := by decide +kernel
theorem h74_5 : mfetch q74.2.1 5 = some (.invokevirtual 135) := by decide +kernel
theorem h74_8 : mfetch q74.2.1 8 = some (.astore_n 2) := by decide +kernel
theorem h74_9 : mfetch q74.2.1 9 = some (.aload_n 2) := by decide +kernel
theorem h74_10 : mfetch q74.2.1 10 = some (.ifnonnull 8) := by decide +kernel
theorem h74_13 : mfetch q74.2.1 13 = some (.bipush (-2)) := by decide +kernel
theorem h74_15 : mfetch q74.2.1 15 = some (.goto 12) := by decide +kernel
theorem h74_18 : mfetch q74.2.1 18 = some (.aload_n 0) := by decide +kernel
theorem h74_19 : mfetch q74.2.1 19 = some (.aload_n 2) := by decide +kernel
theorem h74_20 : mfetch q74.2.1 20 = some (.aload_n 0) := by decide +kernel
theorem h74_21 : mfetch q74.2.1 21 = some (.getfield 100) := by decide +kernel
theorem h74_24 : mfetch q74.2.1 24 = some (.invokevirtual 198) := by decide +kernel
theorem h74_27 : mfetch q74.2.1 27 = some (.ireturn) := by decide +kernel
theorem E74_0 : (∀ (d : Nat) (l1 : Option Value) (l2 : Option Value) (x : Nat) (st : List Value) (h : MH) (P : MP), mFr d 74 0 [some (.ref x), l1, l2] st h P = mFr d 74 1 [some (.ref x), l1, l2] (.ref x :: st) h P) ∧
  (∀ (d : Nat) (loc : List (Option Value)) (a : Nat) (st : List Value) (h : MH) (P : MP), mFr d 74 1 loc (.ref a :: st) h P = pget h a 8 5 (fun v => mFr d 74 4 loc (v :: st) h P)) ∧
  (∀ (d : Nat) (l0 : Option Value) (l2 : Option Value) (x : Int32) (st : List Value) (h : MH) (P : MP), mFr d 74 4 [l0, some (.int x), l2] st h P = mFr d 74 5 [l0, some (.int x), l2] (.int x :: st) h P) ∧
  (∀ (d : Nat) (loc : List (Option Value)) (b : Nat) (a0 : Int32) (h : MH) (P : MP), mFr d 74 5 loc ((.int a0) :: .ref b :: []) h P = if mrcv h b 0 = true then mRun d 1 [.ref b, .int a0] h (fun v h' => mFr d 74 8 loc (v.toList ++ []) h' P) else False) ∧
  (∀ (d : Nat) (l0 : Option Value) (l1 : Option Value) (l2 : Option Value) (x : Nat) (st : List Value) (h : MH) (P : MP), mnl l1 = true → mFr d 74 8 [l0, l1, l2] (.ref x :: st) h P = mFr d 74 9 [l0, l1, some (.ref x)] (st) h P) ∧
  (∀ (d : Nat) (l0 : Option Value) (l1 : Option Value) (l2 : Option Value) (st : List Value) (h : MH) (P : MP), mnl l1 = true → mFr d 74 8 [l0, l1, l2] (.null :: st) h P = mFr d 74 9 [l0, l1, some .null] (st) h P) ∧
  (∀ (d : Nat) (l0 : Option Value) (l1 : Option Value) (x : Nat) (st : List Value) (h : MH) (P : MP), mFr d 74 9 [l0, l1, some (.ref x)] st h P = mFr d 74 10 [l0, l1, some (.ref x)] (.ref x :: st) h P) ∧
  (∀ (d : Nat) (l0 : Option Value) (l1 : Option Value) (st : List Value) (h : MH) (P : MP), mFr d 74 9 [l0, l1, some .null] st h P = mFr d 74 10 [l0, l1, some .null] (.null :: st) h P) ∧
  (∀ (d : Nat) (loc : List (Option Value)) (x : Nat) (st : List Value) (h : MH) (P : MP), mFr d 74 10 loc (.ref x :: st) h P = if x < 900 then mFr d 74 18 loc (st) h P else False) ∧
  (∀ (d : Nat) (loc : List (Option Value)) (st : List Value) (h : MH) (P : MP), mFr d 74 10 loc (.null :: st) h P = mFr d 74 13 loc (st) h P) := ⟨fun _ _ _ _ _ _ _ => (mFr_S mq74 h74_0).trans rfl,
  fun _ _ _ _ _ _ => F_get mq74 h74_1 (Or.inl (rfl : _ = some (25, 0, 8, 5))),
  fun _ _ _ _ _ _ _ => (mFr_S mq74 h74_4).trans rfl,
  fun _ _ b a0 _ _ => F_callV (as := [.int a0]) (rest := []) mq74 (Or.inl h74_5) (rfl : _ = some (135, 6, 1, 1)) (Or.inl ⟨h74_5, by decide⟩) (by rfl) (by rfl) (by rfl) (Nat.le_of_ble_eq_true rfl),
  fun _ _ _ _ _ _ _ _ hm => (mFr_S mq74 h74_8).trans (by simp only [mgo.eq_1, mstep, mi1, ml1, mast, mst, mst2, mprev, List.length_cons, List.length_nil, List.getElem?_cons_succ, List.getElem?_cons_zero, hm]; rfl),
  fun _ _ _ _ _ _ _ hm => (mFr_S mq74 h74_8).trans (by simp only [mgo.eq_1, mstep, mi1, ml1, mast, mst, mst2, mprev, List.length_cons, List.length_nil, List.getElem?_cons_succ, List.getElem?_cons_zero, hm]; rfl),
  fun _ _ _ _ _ _ _ => (mFr_S mq74 h74_9).trans rfl,
  fun _ _ _ _ _ _ => (mFr_S mq74 h74_9).trans rfl,
  fun _ _ _ _ _ _ => F_ifnonnullR 18 mq74 h74_10 (by decide),
  fun _ _ _ _ _ => (mFr_S mq74 h74_10).trans rfl⟩
theorem E74_13 : (∀ (d : Nat) (loc : List (Option Value)) (st : List Value) (h : MH) (P : MP), mFr d 74 13 loc st h P = mFr d 74 15 loc (.int (-2) :: st) h P) ∧
  (∀ (d : Nat) (loc : List (Option Value)) (st : List Value) (h : MH) (P : MP), mFr d 74 15 loc st h P = mFr d 74 27 loc (st) h P) := ⟨fun _ _ _ _ _ => (mFr_S mq74 h74_13).trans rfl,
  fun _ _ _ _ _ => F_goto 27 mq74 h74_15 (by decide)⟩
theorem E74_18 : (∀ (d : Nat) (l1 : Option Value) (l2 : Option Value) (x : Nat) (st : List Value) (h : MH) (P : MP), mFr d 74 18 [some (.ref x), l1, l2] st h P = mFr d 74 19 [some (.ref x), l1, l2] (.ref x :: st) h P) ∧
  (∀ (d : Nat) (l0 : Option Value) (l1 : Option Value) (x : Nat) (st : List Value) (h : MH) (P : MP), mFr d 74 19 [l0, l1, some (.ref x)] st h P = mFr d 74 20 [l0, l1, some (.ref x)] (.ref x :: st) h P) ∧
  (∀ (d : Nat) (l0 : Option Value) (l1 : Option Value) (st : List Value) (h : MH) (P : MP), mFr d 74 19 [l0, l1, some .null] st h P = mFr d 74 20 [l0, l1, some .null] (.null :: st) h P) ∧
  (∀ (d : Nat) (l1 : Option Value) (l2 : Option Value) (x : Nat) (st : List Value) (h : MH) (P : MP), mFr d 74 20 [some (.ref x), l1, l2] st h P = mFr d 74 21 [some (.ref x), l1, l2] (.ref x :: st) h P) ∧
  (∀ (d : Nat) (loc : List (Option Value)) (a : Nat) (st : List Value) (h : MH) (P : MP), mFr d 74 21 loc (.ref a :: st) h P = pget h a 8 4 (fun v => mFr d 74 24 loc (v :: st) h P)) ∧
  (∀ (d : Nat) (loc : List (Option Value)) (b : Nat) (a0 : Nat) (a1 : Nat) (h : MH) (P : MP), mFr d 74 24 loc ((.ref a1) :: (.ref a0) :: .ref b :: []) h P = if mrcv h b 8 = true then mRun d 75 [.ref b, .ref a0, .ref a1] h (fun v h' => mFr d 74 27 loc (v.toList ++ []) h' P) else False) := ⟨fun _ _ _ _ _ _ _ => (mFr_S mq74 h74_18).trans rfl,
  fun _ _ _ _ _ _ _ => (mFr_S mq74 h74_19).trans rfl,
  fun _ _ _ _ _ _ => (mFr_S mq74 h74_19).trans rfl,
  fun _ _ _ _ _ _ _ => (mFr_S mq74 h74_20).trans rfl,
  fun _ _ _ _ _ _ => F_get mq74 h74_21 (Or.inl (rfl : _ = some (100, 0, 8, 4))),
  fun _ _ b a0 a1 _ _ => F_callV (as := [.ref a0, .ref a1]) (rest := []) mq74 (Or.inl h74_24) (rfl : _ = some (198, 6, 75, 0)) (Or.inl ⟨h74_24, by decide⟩) (by rfl) (by rfl) (by rfl) (Nat.le_of_ble_eq_true rfl)⟩
theorem E74_27 : (∀ (d : Nat) (loc : List (Option Value)) (x : Int32) (h : MH) (P : MP), mFr d 74 27 loc [.int x] h P = P (some (.int x)) h) := fun _ _ _ _ _ => F_ret mq74 h74_27 rfl rfl
theorem B74 : ∀ (d : Nat) (b : Nat) (a0 : Int32) (h : MH) (P : MP), mRun (d + 1) 74 [.ref b, .int a0] h P = mFr d 74 0 [some (.ref b), some (.int a0), none] [] h P := fun _ _ _ _ _ => mRun_S mq74 (Nat.le_of_ble_eq_true rfl)
-- 75: PuncturesAreViews.stepsHome(LPuncturesAreViews$Rider;LPuncturesAreViews$Road;)I loops at [10]
def q75 : MI := (yX8_stepsHome, cX8_stepsHome, 4, (some .int), 8, 2)
theorem mq75 : mtab[75]? = some q75 := rfl
theorem h75_0 : mfetch q75.2.1 0 = some (.aload_n 0) := by decide +kernel
theorem h75_1 : mfetch q75.2.1 1 = some (.getfield 45) := by decide +kernel
theorem h75_4 : mfetch q75.2.1 4 = some (.aload_n 1) := by decide +kernel
theorem h75_5 : mfetch q75.2.1 5 = some (.invokevirtual 194) := by decide +kernel
theorem h75_8 : mfetch q75.2.1 8 = some (.iconst 0) := by decide +kernel
theorem h75_9 : mfetch q75.2.1 9 = some (.istore_n 3) := by decide +kernel
theorem h75_10 : mfetch q75.2.1 10 = some (.iload_n 3) := by decide +kernel
theorem h75_11 : mfetch q75.2.1 11 = some (.sipush 240) := by decide +kernel
theorem h75_14 : mfetch q75.2.1 14 = some (.if_icmp .ge 28) := by decide +kernel
theorem h75_17 : mfetch q75.2.1 17 = some (.aload_n 0) := by decide +kernel
theorem h75_18 : mfetch q75.2.1 18 = some (.getfield 45) := by decide +kernel
theorem h75_21 : mfetch q75.2.1 21 = some (.invokevirtual 180) := by decide +kernel
theorem h75_24 : mfetch q75.2.1 24 = some (.ifCond .ne 18) := by decide +kernel
theorem h75_27 : mfetch q75.2.1 27 = some (.aload_n 0) := by decide +kernel
theorem h75_28 : mfetch q75.2.1 28 = some (.getfield 45) := by decide +kernel
theorem h75_31 : mfetch q75.2.1 31 = some (.aload_n 2) := by decide +kernel
theorem h75_32 : mfetch q75.2.1 32 = some (.invokevirtual 184) := by decide +kernel
theorem h75_35 : mfetch q75.2.1 35 = some (.pop) := by decide +kernel
theorem h75_36 : mfetch q75.2.1 36 = some (.iinc 3 1) := by decide +kernel
theorem h75_39 : mfetch q75.2.1 39 = some (.goto (-29)) := by decide +kernel
theorem h75_42 : mfetch q75.2.1 42 = some (.iload_n 3) := by decide +kernel
theorem h75_43 : mfetch q75.2.1 43 = some (.ireturn) := by decide +kernel
theorem E75_0 : (∀ (d : Nat) (l1 : Option Value) (l2 : Option Value) (l3 : Option Value) (x : Nat) (st : List Value) (h : MH) (P : MP), mFr d 75 0 [some (.ref x), l1, l2, l3] st h P = mFr d 75 1 [some (.ref x), l1, l2, l3] (.ref x :: st) h P) ∧
  (∀ (d : Nat) (loc : List (Option Value)) (a : Nat) (st : List Value) (h : MH) (P : MP), mFr d 75 1 loc (.ref a :: st) h P = pget h a 8 12 (fun v => mFr d 75 4 loc (v :: st) h P)) ∧
  (∀ (d : Nat) (l0 : Option Value) (l2 : Option Value) (l3 : Option Value) (x : Nat) (st : List Value) (h : MH) (P : MP), mFr d 75 4 [l0, some (.ref x), l2, l3] st h P = mFr d 75 5 [l0, some (.ref x), l2, l3] (.ref x :: st) h P) ∧
  (∀ (d : Nat) (l0 : Option Value) (l2 : Option Value) (l3 : Option Value) (st : List Value) (h : MH) (P : MP), mFr d 75 4 [l0, some .null, l2, l3] st h P = mFr d 75 5 [l0, some .null, l2, l3] (.null :: st) h P) ∧
  (∀ (d : Nat) (loc : List (Option Value)) (b : Nat) (a0 : Nat) (h : MH) (P : MP), mFr d 75 5 loc ((.ref a0) :: .ref b :: []) h P = if mrcv h b 1 = true then mRun d 9 [.ref b, .ref a0] h (fun v h' => mFr d 75 8 loc (v.toList ++ []) h' P) else False) ∧
  (∀ (d : Nat) (loc : List (Option Value)) (st : List Value) (h : MH) (P : MP), mFr d 75 8 loc st h P = mFr d 75 9 loc (.int 0 :: st) h P) ∧
  (∀ (d : Nat) (l0 : Option Value) (l1 : Option Value) (l2 : Option Value) (l3 : Option Value) (x : Int32) (st : List Value) (h : MH) (P : MP), mnl l2 = true → mFr d 75 9 [l0, l1, l2, l3] (.int x :: st) h P = mFr d 75 10 [l0, l1, l2, some (.int x)] (st) h P) := ⟨fun _ _ _ _ _ _ _ _ => (mFr_S mq75 h75_0).trans rfl,
  fun _ _ _ _ _ _ => F_get mq75 h75_1 (Or.inl (rfl : _ = some (45, 0, 8, 12))),
  fun _ _ _ _ _ _ _ _ => (mFr_S mq75 h75_4).trans rfl,
  fun _ _ _ _ _ _ _ => (mFr_S mq75 h75_4).trans rfl,
  fun _ _ b a0 _ _ => F_callV (as := [.ref a0]) (rest := []) mq75 (Or.inl h75_5) (rfl : _ = some (194, 6, 9, 1)) (Or.inl ⟨h75_5, by decide⟩) (by rfl) (by rfl) (by rfl) (Nat.le_of_ble_eq_true rfl),
  fun _ _ _ _ _ => (mFr_S mq75 h75_8).trans rfl,
  fun _ _ _ _ _ _ _ _ _ hm => (mFr_S mq75 h75_9).trans (by simp only [mgo.eq_1, mstep, mi1, ml1, mast, mst, mst2, mprev, List.length_cons, List.length_nil, List.getElem?_cons_succ, List.getElem?_cons_zero, hm]; rfl)⟩
theorem E75_10 : (∀ (d : Nat) (l0 : Option Value) (l1 : Option Value) (l2 : Option Value) (x : Int32) (st : List Value) (h : MH) (P : MP), mFr d 75 10 [l0, l1, l2, some (.int x)] st h P = mFr d 75 11 [l0, l1, l2, some (.int x)] (.int x :: st) h P) ∧
  (∀ (d : Nat) (loc : List (Option Value)) (st : List Value) (h : MH) (P : MP), mFr d 75 11 loc st h P = mFr d 75 14 loc (.int 240 :: st) h P) ∧
  (∀ (d : Nat) (loc : List (Option Value)) (x y : Int32) (st : List Value) (h : MH) (P : MP), mFr d 75 14 loc (.int y :: .int x :: st) h P = if x < y then mFr d 75 17 loc (st) h P else mFr d 75 42 loc (st) h P) := ⟨fun _ _ _ _ _ _ _ _ => (mFr_S mq75 h75_10).trans rfl,
  fun _ _ _ _ _ => (mFr_S mq75 h75_11).trans rfl,
  fun _ _ _ _ _ _ _ => (F_icmp 42 mq75 h75_14 (by decide)).trans mif_ge⟩
theorem E75_17 : (∀ (d : Nat) (l1 : Option Value) (l2 : Option Value) (l3 : Option Value) (x : Nat) (st : List Value) (h : MH) (P : MP), mFr d 75 17 [some (.ref x), l1, l2, l3] st h P = mFr d 75 18 [some (.ref x), l1, l2, l3] (.ref x :: st) h P) ∧
  (∀ (d : Nat) (loc : List (Option Value)) (a : Nat) (st : List Value) (h : MH) (P : MP), mFr d 75 18 loc (.ref a :: st) h P = pget h a 8 12 (fun v => mFr d 75 21 loc (v :: st) h P)) ∧
  (∀ (d : Nat) (loc : List (Option Value)) (b : Nat) (h : MH) (P : MP), mFr d 75 21 loc (.ref b :: []) h P = if mrcv h b 1 = true then mRun d 10 [.ref b] h (fun v h' => mFr d 75 24 loc (v.toList ++ []) h' P) else False) ∧
  (∀ (d : Nat) (loc : List (Option Value)) (x : Int32) (st : List Value) (h : MH) (P : MP), mFr d 75 24 loc (.int x :: st) h P = if x = 0 then mFr d 75 27 loc (st) h P else mFr d 75 42 loc (st) h P) := ⟨fun _ _ _ _ _ _ _ _ => (mFr_S mq75 h75_17).trans rfl,
  fun _ _ _ _ _ _ => F_get mq75 h75_18 (Or.inl (rfl : _ = some (45, 0, 8, 12))),
  fun _ _ b _ _ => F_callV (as := []) (rest := []) mq75 (Or.inl h75_21) (rfl : _ = some (180, 6, 10, 1)) (Or.inl ⟨h75_21, by decide⟩) (by rfl) (by rfl) (by rfl) (Nat.le_of_ble_eq_true rfl),
  fun _ _ _ _ _ _ => (F_ifz 42 mq75 h75_24 (by decide)).trans mif_ne⟩
theorem E75_27 : (∀ (d : Nat) (l1 : Option Value) (l2 : Option Value) (l3 : Option Value) (x : Nat) (st : List Value) (h : MH) (P : MP), mFr d 75 27 [some (.ref x), l1, l2, l3] st h P = mFr d 75 28 [some (.ref x), l1, l2, l3] (.ref x :: st) h P) ∧
  (∀ (d : Nat) (loc : List (Option Value)) (a : Nat) (st : List Value) (h : MH) (P : MP), mFr d 75 28 loc (.ref a :: st) h P = pget h a 8 12 (fun v => mFr d 75 31 loc (v :: st) h P)) ∧
  (∀ (d : Nat) (l0 : Option Value) (l1 : Option Value) (l3 : Option Value) (x : Nat) (st : List Value) (h : MH) (P : MP), mFr d 75 31 [l0, l1, some (.ref x), l3] st h P = mFr d 75 32 [l0, l1, some (.ref x), l3] (.ref x :: st) h P) ∧
  (∀ (d : Nat) (l0 : Option Value) (l1 : Option Value) (l3 : Option Value) (st : List Value) (h : MH) (P : MP), mFr d 75 31 [l0, l1, some .null, l3] st h P = mFr d 75 32 [l0, l1, some .null, l3] (.null :: st) h P) ∧
  (∀ (d : Nat) (loc : List (Option Value)) (b : Nat) (a0 : Nat) (h : MH) (P : MP), mFr d 75 32 loc ((.ref a0) :: .ref b :: []) h P = if mrcv h b 1 = true then mRun d 11 [.ref b, .ref a0] h (fun v h' => mFr d 75 35 loc (v.toList ++ []) h' P) else False) ∧
  (∀ (d : Nat) (loc : List (Option Value)) (x : Int32) (st : List Value) (h : MH) (P : MP), mFr d 75 35 loc (.int x :: st) h P = mFr d 75 36 loc (st) h P) ∧
  (∀ (d : Nat) (l0 : Option Value) (l1 : Option Value) (l2 : Option Value) (x : Int32) (st : List Value) (h : MH) (P : MP), mnl l2 = true → mFr d 75 36 [l0, l1, l2, some (.int x)] st h P = mFr d 75 39 [l0, l1, l2, some (.int (x + 1))] (st) h P) ∧
  (∀ (d : Nat) (loc : List (Option Value)) (st : List Value) (h : MH) (P : MP), mFr d 75 39 loc st h P = mFr d 75 10 loc (st) h P) := ⟨fun _ _ _ _ _ _ _ _ => (mFr_S mq75 h75_27).trans rfl,
  fun _ _ _ _ _ _ => F_get mq75 h75_28 (Or.inl (rfl : _ = some (45, 0, 8, 12))),
  fun _ _ _ _ _ _ _ _ => (mFr_S mq75 h75_31).trans rfl,
  fun _ _ _ _ _ _ _ => (mFr_S mq75 h75_31).trans rfl,
  fun _ _ b a0 _ _ => F_callV (as := [.ref a0]) (rest := []) mq75 (Or.inl h75_32) (rfl : _ = some (184, 6, 11, 1)) (Or.inl ⟨h75_32, by decide⟩) (by rfl) (by rfl) (by rfl) (Nat.le_of_ble_eq_true rfl),
  fun _ _ _ _ _ _ => (mFr_S mq75 h75_35).trans rfl,
  fun _ _ _ _ _ _ _ _ hm => (mFr_S mq75 h75_36).trans (by simp only [mgo.eq_1, mstep, mld, mst, mprev, List.length_cons, List.length_nil, List.getElem?_cons_succ, List.getElem?_cons_zero, hm]; rfl),
  fun _ _ _ _ _ => F_goto 10 mq75 h75_39 (by decide)⟩
theorem E75_42 : (∀ (d : Nat) (l0 : Option Value) (l1 : Option Value) (l2 : Option Value) (x : Int32) (st : List Value) (h : MH) (P : MP), mFr d 75 42 [l0, l1, l2, some (.int x)] st h P = mFr d 75 43 [l0, l1, l2, some (.int x)] (.int x :: st) h P) ∧
  (∀ (d : Nat) (loc : List (Option Value)) (x : Int32) (h : MH) (P : MP), mFr d 75 43 loc [.int x] h P = P (some (.int x)) h) := ⟨fun _ _ _ _ _ _ _ _ => (mFr_S mq75 h75_42).trans rfl,
  fun _ _ _ _ _ => F_ret mq75 h75_43 rfl rfl⟩
theorem B75 : ∀ (d : Nat) (b : Nat) (a0 : Nat) (a1 : Nat) (h : MH) (P : MP), mRun (d + 1) 75 [.ref b, .ref a0, .ref a1] h P = mFr d 75 0 [some (.ref b), some (.ref a0), some (.ref a1), none] [] h P := fun _ _ _ _ _ _ => mRun_S mq75 (Nat.le_of_ble_eq_true rfl)
-- 76: PuncturesAreViews.fewest(I)I loops at [26]
def q76 : MI := (yX8_fewest, cX8_fewest, 4, (some .int), 8, 1)
theorem mq76 : mtab[76]? = some q76 := rfl
theorem h76_0 : mfetch q76.2.1 0 = some (.aload_n 0) := by decide +kernel
theorem h76_1 : mfetch q76.2.1 1 = some (.getfield 25) := by decide +kernel
theorem h76_4 : mfetch q76.2.1 4 = some (.iload_n 1) := by decide +kernel
theorem h76_5 : mfetch q76.2.1 5 = some (.invokevirtual 135) := by decide +kernel
theorem h76_8 : mfetch q76.2.1 8 = some (.astore_n 2) := by decide +kernel
theorem h76_9 : mfetch q76.2.1 9 = some (.aload_n 2) := by decide +kernel
theorem h76_10 : mfetch q76.2.1 10 = some (.ifnonnull 6) := by decide +kernel
theorem h76_13 : mfetch q76.2.1 13 = some (.bipush (-2)) := by decide +kernel
theorem h76_15 : mfetch q76.2.1 15 = some (.ireturn) := by decide +kernel
theorem h76_16 : mfetch q76.2.1 16 = some (.aload_n 0) := by decide +kernel
theorem h76_17 : mfetch q76.2.1 17 = some (.getfield 41) := by decide +kernel
theorem h76_20 : mfetch q76.2.1 20 = some (.aload_n 2) := by decide +kernel
theorem h76_21 : mfetch q76.2.1 21 = some (.invokevirtual 194) := by decide +kernel
theorem h76_24 : mfetch q76.2.1 24 = some (.iconst 0) := by decide +kernel
theorem h76_25 : mfetch q76.2.1 25 = some (.istore_n 3) := by decide +kernel
theorem h76_26 : mfetch q76.2.1 26 = some (.iload_n 3) := by decide +kernel
theorem h76_27 : mfetch q76.2.1 27 = some (.bipush 9) := by decide +kernel
theorem h76_29 : mfetch q76.2.1 29 = some (.if_icmp .gt 30) := by decide +kernel
theorem h76_32 : mfetch q76.2.1 32 = some (.aload_n 0) := by decide +kernel
theorem h76_33 : mfetch q76.2.1 33 = some (.getfield 41) := by decide +kernel
theorem h76_36 : mfetch q76.2.1 36 = some (.iload_n 3) := by decide +kernel
theorem h76_37 : mfetch q76.2.1 37 = some (.putfield 142) := by decide +kernel
theorem h76_40 : mfetch q76.2.1 40 = some (.aload_n 0) := by decide +kernel
theorem h76_41 : mfetch q76.2.1 41 = some (.aload_n 0) := by decide +kernel
theorem h76_42 : mfetch q76.2.1 42 = some (.getfield 41) := by decide +kernel
theorem h76_45 : mfetch q76.2.1 45 = some (.invokevirtual 202) := by decide +kernel
theorem h76_48 : mfetch q76.2.1 48 = some (.ifCond .ne 5) := by decide +kernel
theorem h76_51 : mfetch q76.2.1 51 = some (.iload_n 3) := by decide +kernel
theorem h76_52 : mfetch q76.2.1 52 = some (.ireturn) := by decide +kernel
theorem h76_53 : mfetch q76.2.1 53 = some (.iinc 3 1) := by decide +kernel
theorem h76_56 : mfetch q76.2.1 56 = some (.goto (-30)) := by decide +kernel
theorem h76_59 : mfetch q76.2.1 59 = some (.iconst (-1)) := by decide +kernel
theorem h76_60 : mfetch q76.2.1 60 = some (.ireturn) := by decide +kernel
theorem E76_0 : (∀ (d : Nat) (l1 : Option Value) (l2 : Option Value) (l3 : Option Value) (x : Nat) (st : List Value) (h : MH) (P : MP), mFr d 76 0 [some (.ref x), l1, l2, l3] st h P = mFr d 76 1 [some (.ref x), l1, l2, l3] (.ref x :: st) h P) ∧
  (∀ (d : Nat) (loc : List (Option Value)) (a : Nat) (st : List Value) (h : MH) (P : MP), mFr d 76 1 loc (.ref a :: st) h P = pget h a 8 5 (fun v => mFr d 76 4 loc (v :: st) h P)) ∧
  (∀ (d : Nat) (l0 : Option Value) (l2 : Option Value) (l3 : Option Value) (x : Int32) (st : List Value) (h : MH) (P : MP), mFr d 76 4 [l0, some (.int x), l2, l3] st h P = mFr d 76 5 [l0, some (.int x), l2, l3] (.int x :: st) h P) ∧
  (∀ (d : Nat) (loc : List (Option Value)) (b : Nat) (a0 : Int32) (h : MH) (P : MP), mFr d 76 5 loc ((.int a0) :: .ref b :: []) h P = if mrcv h b 0 = true then mRun d 1 [.ref b, .int a0] h (fun v h' => mFr d 76 8 loc (v.toList ++ []) h' P) else False) ∧
  (∀ (d : Nat) (l0 : Option Value) (l1 : Option Value) (l2 : Option Value) (l3 : Option Value) (x : Nat) (st : List Value) (h : MH) (P : MP), mnl l1 = true → mFr d 76 8 [l0, l1, l2, l3] (.ref x :: st) h P = mFr d 76 9 [l0, l1, some (.ref x), l3] (st) h P) ∧
  (∀ (d : Nat) (l0 : Option Value) (l1 : Option Value) (l2 : Option Value) (l3 : Option Value) (st : List Value) (h : MH) (P : MP), mnl l1 = true → mFr d 76 8 [l0, l1, l2, l3] (.null :: st) h P = mFr d 76 9 [l0, l1, some .null, l3] (st) h P) ∧
  (∀ (d : Nat) (l0 : Option Value) (l1 : Option Value) (l3 : Option Value) (x : Nat) (st : List Value) (h : MH) (P : MP), mFr d 76 9 [l0, l1, some (.ref x), l3] st h P = mFr d 76 10 [l0, l1, some (.ref x), l3] (.ref x :: st) h P) ∧
  (∀ (d : Nat) (l0 : Option Value) (l1 : Option Value) (l3 : Option Value) (st : List Value) (h : MH) (P : MP), mFr d 76 9 [l0, l1, some .null, l3] st h P = mFr d 76 10 [l0, l1, some .null, l3] (.null :: st) h P) ∧
  (∀ (d : Nat) (loc : List (Option Value)) (x : Nat) (st : List Value) (h : MH) (P : MP), mFr d 76 10 loc (.ref x :: st) h P = if x < 900 then mFr d 76 16 loc (st) h P else False) ∧
  (∀ (d : Nat) (loc : List (Option Value)) (st : List Value) (h : MH) (P : MP), mFr d 76 10 loc (.null :: st) h P = mFr d 76 13 loc (st) h P) := ⟨fun _ _ _ _ _ _ _ _ => (mFr_S mq76 h76_0).trans rfl,
  fun _ _ _ _ _ _ => F_get mq76 h76_1 (Or.inl (rfl : _ = some (25, 0, 8, 5))),
  fun _ _ _ _ _ _ _ _ => (mFr_S mq76 h76_4).trans rfl,
  fun _ _ b a0 _ _ => F_callV (as := [.int a0]) (rest := []) mq76 (Or.inl h76_5) (rfl : _ = some (135, 6, 1, 1)) (Or.inl ⟨h76_5, by decide⟩) (by rfl) (by rfl) (by rfl) (Nat.le_of_ble_eq_true rfl),
  fun _ _ _ _ _ _ _ _ _ hm => (mFr_S mq76 h76_8).trans (by simp only [mgo.eq_1, mstep, mi1, ml1, mast, mst, mst2, mprev, List.length_cons, List.length_nil, List.getElem?_cons_succ, List.getElem?_cons_zero, hm]; rfl),
  fun _ _ _ _ _ _ _ _ hm => (mFr_S mq76 h76_8).trans (by simp only [mgo.eq_1, mstep, mi1, ml1, mast, mst, mst2, mprev, List.length_cons, List.length_nil, List.getElem?_cons_succ, List.getElem?_cons_zero, hm]; rfl),
  fun _ _ _ _ _ _ _ _ => (mFr_S mq76 h76_9).trans rfl,
  fun _ _ _ _ _ _ _ => (mFr_S mq76 h76_9).trans rfl,
  fun _ _ _ _ _ _ => F_ifnonnullR 16 mq76 h76_10 (by decide),
  fun _ _ _ _ _ => (mFr_S mq76 h76_10).trans rfl⟩
theorem E76_13 : (∀ (d : Nat) (loc : List (Option Value)) (st : List Value) (h : MH) (P : MP), mFr d 76 13 loc st h P = mFr d 76 15 loc (.int (-2) :: st) h P) ∧
  (∀ (d : Nat) (loc : List (Option Value)) (x : Int32) (h : MH) (P : MP), mFr d 76 15 loc [.int x] h P = P (some (.int x)) h) := ⟨fun _ _ _ _ _ => (mFr_S mq76 h76_13).trans rfl,
  fun _ _ _ _ _ => F_ret mq76 h76_15 rfl rfl⟩
theorem E76_16 : (∀ (d : Nat) (l1 : Option Value) (l2 : Option Value) (l3 : Option Value) (x : Nat) (st : List Value) (h : MH) (P : MP), mFr d 76 16 [some (.ref x), l1, l2, l3] st h P = mFr d 76 17 [some (.ref x), l1, l2, l3] (.ref x :: st) h P) ∧
  (∀ (d : Nat) (loc : List (Option Value)) (a : Nat) (st : List Value) (h : MH) (P : MP), mFr d 76 17 loc (.ref a :: st) h P = pget h a 8 11 (fun v => mFr d 76 20 loc (v :: st) h P)) ∧
  (∀ (d : Nat) (l0 : Option Value) (l1 : Option Value) (l3 : Option Value) (x : Nat) (st : List Value) (h : MH) (P : MP), mFr d 76 20 [l0, l1, some (.ref x), l3] st h P = mFr d 76 21 [l0, l1, some (.ref x), l3] (.ref x :: st) h P) ∧
  (∀ (d : Nat) (l0 : Option Value) (l1 : Option Value) (l3 : Option Value) (st : List Value) (h : MH) (P : MP), mFr d 76 20 [l0, l1, some .null, l3] st h P = mFr d 76 21 [l0, l1, some .null, l3] (.null :: st) h P) ∧
  (∀ (d : Nat) (loc : List (Option Value)) (b : Nat) (a0 : Nat) (h : MH) (P : MP), mFr d 76 21 loc ((.ref a0) :: .ref b :: []) h P = if mrcv h b 1 = true then mRun d 9 [.ref b, .ref a0] h (fun v h' => mFr d 76 24 loc (v.toList ++ []) h' P) else False) ∧
  (∀ (d : Nat) (loc : List (Option Value)) (st : List Value) (h : MH) (P : MP), mFr d 76 24 loc st h P = mFr d 76 25 loc (.int 0 :: st) h P) ∧
  (∀ (d : Nat) (l0 : Option Value) (l1 : Option Value) (l2 : Option Value) (l3 : Option Value) (x : Int32) (st : List Value) (h : MH) (P : MP), mnl l2 = true → mFr d 76 25 [l0, l1, l2, l3] (.int x :: st) h P = mFr d 76 26 [l0, l1, l2, some (.int x)] (st) h P) := ⟨fun _ _ _ _ _ _ _ _ => (mFr_S mq76 h76_16).trans rfl,
  fun _ _ _ _ _ _ => F_get mq76 h76_17 (Or.inl (rfl : _ = some (41, 0, 8, 11))),
  fun _ _ _ _ _ _ _ _ => (mFr_S mq76 h76_20).trans rfl,
  fun _ _ _ _ _ _ _ => (mFr_S mq76 h76_20).trans rfl,
  fun _ _ b a0 _ _ => F_callV (as := [.ref a0]) (rest := []) mq76 (Or.inl h76_21) (rfl : _ = some (194, 6, 9, 1)) (Or.inl ⟨h76_21, by decide⟩) (by rfl) (by rfl) (by rfl) (Nat.le_of_ble_eq_true rfl),
  fun _ _ _ _ _ => (mFr_S mq76 h76_24).trans rfl,
  fun _ _ _ _ _ _ _ _ _ hm => (mFr_S mq76 h76_25).trans (by simp only [mgo.eq_1, mstep, mi1, ml1, mast, mst, mst2, mprev, List.length_cons, List.length_nil, List.getElem?_cons_succ, List.getElem?_cons_zero, hm]; rfl)⟩
theorem E76_26 : (∀ (d : Nat) (l0 : Option Value) (l1 : Option Value) (l2 : Option Value) (x : Int32) (st : List Value) (h : MH) (P : MP), mFr d 76 26 [l0, l1, l2, some (.int x)] st h P = mFr d 76 27 [l0, l1, l2, some (.int x)] (.int x :: st) h P) ∧
  (∀ (d : Nat) (loc : List (Option Value)) (st : List Value) (h : MH) (P : MP), mFr d 76 27 loc st h P = mFr d 76 29 loc (.int 9 :: st) h P) ∧
  (∀ (d : Nat) (loc : List (Option Value)) (x y : Int32) (st : List Value) (h : MH) (P : MP), mFr d 76 29 loc (.int y :: .int x :: st) h P = if y < x then mFr d 76 59 loc (st) h P else mFr d 76 32 loc (st) h P) := ⟨fun _ _ _ _ _ _ _ _ => (mFr_S mq76 h76_26).trans rfl,
  fun _ _ _ _ _ => (mFr_S mq76 h76_27).trans rfl,
  fun _ _ _ _ _ _ _ => (F_icmp 59 mq76 h76_29 (by decide)).trans mif_gt⟩
theorem E76_32 : (∀ (d : Nat) (l1 : Option Value) (l2 : Option Value) (l3 : Option Value) (x : Nat) (st : List Value) (h : MH) (P : MP), mFr d 76 32 [some (.ref x), l1, l2, l3] st h P = mFr d 76 33 [some (.ref x), l1, l2, l3] (.ref x :: st) h P) ∧
  (∀ (d : Nat) (loc : List (Option Value)) (a : Nat) (st : List Value) (h : MH) (P : MP), mFr d 76 33 loc (.ref a :: st) h P = pget h a 8 11 (fun v => mFr d 76 36 loc (v :: st) h P)) ∧
  (∀ (d : Nat) (l0 : Option Value) (l1 : Option Value) (l2 : Option Value) (x : Int32) (st : List Value) (h : MH) (P : MP), mFr d 76 36 [l0, l1, l2, some (.int x)] st h P = mFr d 76 37 [l0, l1, l2, some (.int x)] (.int x :: st) h P) ∧
  (∀ (d : Nat) (loc : List (Option Value)) (a : Nat) (x : Int32) (st : List Value) (h : MH) (P : MP), mFr d 76 37 loc (.int x :: .ref a :: st) h P = pput h a 1 2 (.int x) (fun h' => mFr d 76 40 loc (st) h' P)) ∧
  (∀ (d : Nat) (l1 : Option Value) (l2 : Option Value) (l3 : Option Value) (x : Nat) (st : List Value) (h : MH) (P : MP), mFr d 76 40 [some (.ref x), l1, l2, l3] st h P = mFr d 76 41 [some (.ref x), l1, l2, l3] (.ref x :: st) h P) ∧
  (∀ (d : Nat) (l1 : Option Value) (l2 : Option Value) (l3 : Option Value) (x : Nat) (st : List Value) (h : MH) (P : MP), mFr d 76 41 [some (.ref x), l1, l2, l3] st h P = mFr d 76 42 [some (.ref x), l1, l2, l3] (.ref x :: st) h P) ∧
  (∀ (d : Nat) (loc : List (Option Value)) (a : Nat) (st : List Value) (h : MH) (P : MP), mFr d 76 42 loc (.ref a :: st) h P = pget h a 8 11 (fun v => mFr d 76 45 loc (v :: st) h P)) ∧
  (∀ (d : Nat) (loc : List (Option Value)) (b : Nat) (a0 : Nat) (h : MH) (P : MP), mFr d 76 45 loc ((.ref a0) :: .ref b :: []) h P = if mrcv h b 8 = true then mRun d 77 [.ref b, .ref a0] h (fun v h' => mFr d 76 48 loc (v.toList ++ []) h' P) else False) ∧
  (∀ (d : Nat) (loc : List (Option Value)) (x : Int32) (st : List Value) (h : MH) (P : MP), mFr d 76 48 loc (.int x :: st) h P = if x = 0 then mFr d 76 51 loc (st) h P else mFr d 76 53 loc (st) h P) := ⟨fun _ _ _ _ _ _ _ _ => (mFr_S mq76 h76_32).trans rfl,
  fun _ _ _ _ _ _ => F_get mq76 h76_33 (Or.inl (rfl : _ = some (41, 0, 8, 11))),
  fun _ _ _ _ _ _ _ _ => (mFr_S mq76 h76_36).trans rfl,
  fun _ _ _ _ _ _ _ => F_put mq76 h76_37 (Or.inr ⟨(rfl : _ = some (142, 1, 1, 2)), rfl⟩),
  fun _ _ _ _ _ _ _ _ => (mFr_S mq76 h76_40).trans rfl,
  fun _ _ _ _ _ _ _ _ => (mFr_S mq76 h76_41).trans rfl,
  fun _ _ _ _ _ _ => F_get mq76 h76_42 (Or.inl (rfl : _ = some (41, 0, 8, 11))),
  fun _ _ b a0 _ _ => F_callV (as := [.ref a0]) (rest := []) mq76 (Or.inl h76_45) (rfl : _ = some (202, 6, 77, 0)) (Or.inl ⟨h76_45, by decide⟩) (by rfl) (by rfl) (by rfl) (Nat.le_of_ble_eq_true rfl),
  fun _ _ _ _ _ _ => (F_ifz 53 mq76 h76_48 (by decide)).trans mif_ne⟩
theorem E76_51 : (∀ (d : Nat) (l0 : Option Value) (l1 : Option Value) (l2 : Option Value) (x : Int32) (st : List Value) (h : MH) (P : MP), mFr d 76 51 [l0, l1, l2, some (.int x)] st h P = mFr d 76 52 [l0, l1, l2, some (.int x)] (.int x :: st) h P) ∧
  (∀ (d : Nat) (loc : List (Option Value)) (x : Int32) (h : MH) (P : MP), mFr d 76 52 loc [.int x] h P = P (some (.int x)) h) := ⟨fun _ _ _ _ _ _ _ _ => (mFr_S mq76 h76_51).trans rfl,
  fun _ _ _ _ _ => F_ret mq76 h76_52 rfl rfl⟩
theorem E76_53 : (∀ (d : Nat) (l0 : Option Value) (l1 : Option Value) (l2 : Option Value) (x : Int32) (st : List Value) (h : MH) (P : MP), mnl l2 = true → mFr d 76 53 [l0, l1, l2, some (.int x)] st h P = mFr d 76 56 [l0, l1, l2, some (.int (x + 1))] (st) h P) ∧
  (∀ (d : Nat) (loc : List (Option Value)) (st : List Value) (h : MH) (P : MP), mFr d 76 56 loc st h P = mFr d 76 26 loc (st) h P) := ⟨fun _ _ _ _ _ _ _ _ hm => (mFr_S mq76 h76_53).trans (by simp only [mgo.eq_1, mstep, mld, mst, mprev, List.length_cons, List.length_nil, List.getElem?_cons_succ, List.getElem?_cons_zero, hm]; rfl),
  fun _ _ _ _ _ => F_goto 26 mq76 h76_56 (by decide)⟩
theorem E76_59 : (∀ (d : Nat) (loc : List (Option Value)) (st : List Value) (h : MH) (P : MP), mFr d 76 59 loc st h P = mFr d 76 60 loc (.int (-1) :: st) h P) ∧
  (∀ (d : Nat) (loc : List (Option Value)) (x : Int32) (h : MH) (P : MP), mFr d 76 60 loc [.int x] h P = P (some (.int x)) h) := ⟨fun _ _ _ _ _ => (mFr_S mq76 h76_59).trans rfl,
  fun _ _ _ _ _ => F_ret mq76 h76_60 rfl rfl⟩
theorem B76 : ∀ (d : Nat) (b : Nat) (a0 : Int32) (h : MH) (P : MP), mRun (d + 1) 76 [.ref b, .int a0] h P = mFr d 76 0 [some (.ref b), some (.int a0), none, none] [] h P := fun _ _ _ _ _ => mRun_S mq76 (Nat.le_of_ble_eq_true rfl)
-- 77: PuncturesAreViews.walksHome(LPuncturesAreViews$Rider;)Z loops at [10]
def q77 : MI := (yX8_walksHome, cX8_walksHome, 3, (some .boolean), 8, 1)
theorem mq77 : mtab[77]? = some q77 := rfl
theorem h77_0 : mfetch q77.2.1 0 = some (.aload_n 0) := by decide +kernel
theorem h77_1 : mfetch q77.2.1 1 = some (.getfield 45) := by decide +kernel
theorem h77_4 : mfetch q77.2.1 4 = some (.aload_n 1) := by decide +kernel
theorem h77_5 : mfetch q77.2.1 5 = some (.invokevirtual 194) := by decide +kernel
theorem h77_8 : mfetch q77.2.1 8 = some (.iconst 0) := by decide +kernel
theorem h77_9 : mfetch q77.2.1 9 = some (.istore_n 2) := by decide +kernel
theorem h77_10 : mfetch q77.2.1 10 = some (.iload_n 2) := by decide +kernel
theorem h77_11 : mfetch q77.2.1 11 = some (.sipush 240) := by decide +kernel
theorem h77_14 : mfetch q77.2.1 14 = some (.if_icmp .ge 36) := by decide +kernel
theorem h77_17 : mfetch q77.2.1 17 = some (.aload_n 0) := by decide +kernel
theorem h77_18 : mfetch q77.2.1 18 = some (.getfield 45) := by decide +kernel
theorem h77_21 : mfetch q77.2.1 21 = some (.invokevirtual 180) := by decide +kernel
theorem h77_24 : mfetch q77.2.1 24 = some (.ifCond .ne 26) := by decide +kernel
theorem h77_27 : mfetch q77.2.1 27 = some (.aload_n 0) := by decide +kernel
theorem h77_28 : mfetch q77.2.1 28 = some (.getfield 45) := by decide +kernel
theorem h77_31 : mfetch q77.2.1 31 = some (.aload_n 0) := by decide +kernel
theorem h77_32 : mfetch q77.2.1 32 = some (.getfield 100) := by decide +kernel
theorem h77_35 : mfetch q77.2.1 35 = some (.invokevirtual 184) := by decide +kernel
theorem h77_38 : mfetch q77.2.1 38 = some (.iconst 1) := by decide +kernel
theorem h77_39 : mfetch q77.2.1 39 = some (.if_icmp .ne 5) := by decide +kernel
theorem h77_42 : mfetch q77.2.1 42 = some (.iconst 1) := by decide +kernel
theorem h77_43 : mfetch q77.2.1 43 = some (.ireturn) := by decide +kernel
theorem h77_44 : mfetch q77.2.1 44 = some (.iinc 2 1) := by decide +kernel
theorem h77_47 : mfetch q77.2.1 47 = some (.goto (-37)) := by decide +kernel
theorem h77_50 : mfetch q77.2.1 50 = some (.iconst 0) := by decide +kernel
theorem h77_51 : mfetch q77.2.1 51 = some (.ireturn) := by decide +kernel
theorem E77_0 : (∀ (d : Nat) (l1 : Option Value) (l2 : Option Value) (x : Nat) (st : List Value) (h : MH) (P : MP), mFr d 77 0 [some (.ref x), l1, l2] st h P = mFr d 77 1 [some (.ref x), l1, l2] (.ref x :: st) h P) ∧
  (∀ (d : Nat) (loc : List (Option Value)) (a : Nat) (st : List Value) (h : MH) (P : MP), mFr d 77 1 loc (.ref a :: st) h P = pget h a 8 12 (fun v => mFr d 77 4 loc (v :: st) h P)) ∧
  (∀ (d : Nat) (l0 : Option Value) (l2 : Option Value) (x : Nat) (st : List Value) (h : MH) (P : MP), mFr d 77 4 [l0, some (.ref x), l2] st h P = mFr d 77 5 [l0, some (.ref x), l2] (.ref x :: st) h P) ∧
  (∀ (d : Nat) (l0 : Option Value) (l2 : Option Value) (st : List Value) (h : MH) (P : MP), mFr d 77 4 [l0, some .null, l2] st h P = mFr d 77 5 [l0, some .null, l2] (.null :: st) h P) ∧
  (∀ (d : Nat) (loc : List (Option Value)) (b : Nat) (a0 : Nat) (h : MH) (P : MP), mFr d 77 5 loc ((.ref a0) :: .ref b :: []) h P = if mrcv h b 1 = true then mRun d 9 [.ref b, .ref a0] h (fun v h' => mFr d 77 8 loc (v.toList ++ []) h' P) else False) ∧
  (∀ (d : Nat) (loc : List (Option Value)) (st : List Value) (h : MH) (P : MP), mFr d 77 8 loc st h P = mFr d 77 9 loc (.int 0 :: st) h P) ∧
  (∀ (d : Nat) (l0 : Option Value) (l1 : Option Value) (l2 : Option Value) (x : Int32) (st : List Value) (h : MH) (P : MP), mnl l1 = true → mFr d 77 9 [l0, l1, l2] (.int x :: st) h P = mFr d 77 10 [l0, l1, some (.int x)] (st) h P) := ⟨fun _ _ _ _ _ _ _ => (mFr_S mq77 h77_0).trans rfl,
  fun _ _ _ _ _ _ => F_get mq77 h77_1 (Or.inl (rfl : _ = some (45, 0, 8, 12))),
  fun _ _ _ _ _ _ _ => (mFr_S mq77 h77_4).trans rfl,
  fun _ _ _ _ _ _ => (mFr_S mq77 h77_4).trans rfl,
  fun _ _ b a0 _ _ => F_callV (as := [.ref a0]) (rest := []) mq77 (Or.inl h77_5) (rfl : _ = some (194, 6, 9, 1)) (Or.inl ⟨h77_5, by decide⟩) (by rfl) (by rfl) (by rfl) (Nat.le_of_ble_eq_true rfl),
  fun _ _ _ _ _ => (mFr_S mq77 h77_8).trans rfl,
  fun _ _ _ _ _ _ _ _ hm => (mFr_S mq77 h77_9).trans (by simp only [mgo.eq_1, mstep, mi1, ml1, mast, mst, mst2, mprev, List.length_cons, List.length_nil, List.getElem?_cons_succ, List.getElem?_cons_zero, hm]; rfl)⟩
theorem E77_10 : (∀ (d : Nat) (l0 : Option Value) (l1 : Option Value) (x : Int32) (st : List Value) (h : MH) (P : MP), mFr d 77 10 [l0, l1, some (.int x)] st h P = mFr d 77 11 [l0, l1, some (.int x)] (.int x :: st) h P) ∧
  (∀ (d : Nat) (loc : List (Option Value)) (st : List Value) (h : MH) (P : MP), mFr d 77 11 loc st h P = mFr d 77 14 loc (.int 240 :: st) h P) ∧
  (∀ (d : Nat) (loc : List (Option Value)) (x y : Int32) (st : List Value) (h : MH) (P : MP), mFr d 77 14 loc (.int y :: .int x :: st) h P = if x < y then mFr d 77 17 loc (st) h P else mFr d 77 50 loc (st) h P) := ⟨fun _ _ _ _ _ _ _ => (mFr_S mq77 h77_10).trans rfl,
  fun _ _ _ _ _ => (mFr_S mq77 h77_11).trans rfl,
  fun _ _ _ _ _ _ _ => (F_icmp 50 mq77 h77_14 (by decide)).trans mif_ge⟩
theorem E77_17 : (∀ (d : Nat) (l1 : Option Value) (l2 : Option Value) (x : Nat) (st : List Value) (h : MH) (P : MP), mFr d 77 17 [some (.ref x), l1, l2] st h P = mFr d 77 18 [some (.ref x), l1, l2] (.ref x :: st) h P) ∧
  (∀ (d : Nat) (loc : List (Option Value)) (a : Nat) (st : List Value) (h : MH) (P : MP), mFr d 77 18 loc (.ref a :: st) h P = pget h a 8 12 (fun v => mFr d 77 21 loc (v :: st) h P)) ∧
  (∀ (d : Nat) (loc : List (Option Value)) (b : Nat) (h : MH) (P : MP), mFr d 77 21 loc (.ref b :: []) h P = if mrcv h b 1 = true then mRun d 10 [.ref b] h (fun v h' => mFr d 77 24 loc (v.toList ++ []) h' P) else False) ∧
  (∀ (d : Nat) (loc : List (Option Value)) (x : Int32) (st : List Value) (h : MH) (P : MP), mFr d 77 24 loc (.int x :: st) h P = if x = 0 then mFr d 77 27 loc (st) h P else mFr d 77 50 loc (st) h P) := ⟨fun _ _ _ _ _ _ _ => (mFr_S mq77 h77_17).trans rfl,
  fun _ _ _ _ _ _ => F_get mq77 h77_18 (Or.inl (rfl : _ = some (45, 0, 8, 12))),
  fun _ _ b _ _ => F_callV (as := []) (rest := []) mq77 (Or.inl h77_21) (rfl : _ = some (180, 6, 10, 1)) (Or.inl ⟨h77_21, by decide⟩) (by rfl) (by rfl) (by rfl) (Nat.le_of_ble_eq_true rfl),
  fun _ _ _ _ _ _ => (F_ifz 50 mq77 h77_24 (by decide)).trans mif_ne⟩
theorem E77_27 : (∀ (d : Nat) (l1 : Option Value) (l2 : Option Value) (x : Nat) (st : List Value) (h : MH) (P : MP), mFr d 77 27 [some (.ref x), l1, l2] st h P = mFr d 77 28 [some (.ref x), l1, l2] (.ref x :: st) h P) ∧
  (∀ (d : Nat) (loc : List (Option Value)) (a : Nat) (st : List Value) (h : MH) (P : MP), mFr d 77 28 loc (.ref a :: st) h P = pget h a 8 12 (fun v => mFr d 77 31 loc (v :: st) h P)) ∧
  (∀ (d : Nat) (l1 : Option Value) (l2 : Option Value) (x : Nat) (st : List Value) (h : MH) (P : MP), mFr d 77 31 [some (.ref x), l1, l2] st h P = mFr d 77 32 [some (.ref x), l1, l2] (.ref x :: st) h P) ∧
  (∀ (d : Nat) (loc : List (Option Value)) (a : Nat) (st : List Value) (h : MH) (P : MP), mFr d 77 32 loc (.ref a :: st) h P = pget h a 8 4 (fun v => mFr d 77 35 loc (v :: st) h P)) ∧
  (∀ (d : Nat) (loc : List (Option Value)) (b : Nat) (a0 : Nat) (h : MH) (P : MP), mFr d 77 35 loc ((.ref a0) :: .ref b :: []) h P = if mrcv h b 1 = true then mRun d 11 [.ref b, .ref a0] h (fun v h' => mFr d 77 38 loc (v.toList ++ []) h' P) else False) ∧
  (∀ (d : Nat) (loc : List (Option Value)) (st : List Value) (h : MH) (P : MP), mFr d 77 38 loc st h P = mFr d 77 39 loc (.int 1 :: st) h P) ∧
  (∀ (d : Nat) (loc : List (Option Value)) (x y : Int32) (st : List Value) (h : MH) (P : MP), mFr d 77 39 loc (.int y :: .int x :: st) h P = if x = y then mFr d 77 42 loc (st) h P else mFr d 77 44 loc (st) h P) := ⟨fun _ _ _ _ _ _ _ => (mFr_S mq77 h77_27).trans rfl,
  fun _ _ _ _ _ _ => F_get mq77 h77_28 (Or.inl (rfl : _ = some (45, 0, 8, 12))),
  fun _ _ _ _ _ _ _ => (mFr_S mq77 h77_31).trans rfl,
  fun _ _ _ _ _ _ => F_get mq77 h77_32 (Or.inl (rfl : _ = some (100, 0, 8, 4))),
  fun _ _ b a0 _ _ => F_callV (as := [.ref a0]) (rest := []) mq77 (Or.inl h77_35) (rfl : _ = some (184, 6, 11, 1)) (Or.inl ⟨h77_35, by decide⟩) (by rfl) (by rfl) (by rfl) (Nat.le_of_ble_eq_true rfl),
  fun _ _ _ _ _ => (mFr_S mq77 h77_38).trans rfl,
  fun _ _ _ _ _ _ _ => (F_icmp 44 mq77 h77_39 (by decide)).trans mif_ne⟩
theorem E77_42 : (∀ (d : Nat) (loc : List (Option Value)) (st : List Value) (h : MH) (P : MP), mFr d 77 42 loc st h P = mFr d 77 43 loc (.int 1 :: st) h P) ∧
  (∀ (d : Nat) (loc : List (Option Value)) (h : MH) (P : MP), mFr d 77 43 loc [.int 0] h P = P (some (.int 0)) h) ∧
  (∀ (d : Nat) (loc : List (Option Value)) (h : MH) (P : MP), mFr d 77 43 loc [.int 1] h P = P (some (.int 1)) h) ∧
  (∀ (d : Nat) (loc : List (Option Value)) (c : Prop) [Decidable c] (h : MH) (P : MP), mFr d 77 43 loc [.int (if c then 1 else 0)] h P = P (some (.int (if c then 1 else 0))) h) := ⟨fun _ _ _ _ _ => (mFr_S mq77 h77_42).trans rfl,
  fun _ _ _ _ => F_ret mq77 h77_43 rfl (by decide),
  fun _ _ _ _ => F_ret mq77 h77_43 rfl (by decide),
  fun _ _ _ _ _ _ => F_ret mq77 h77_43 rfl (by split <;> decide)⟩
theorem E77_44 : (∀ (d : Nat) (l0 : Option Value) (l1 : Option Value) (x : Int32) (st : List Value) (h : MH) (P : MP), mnl l1 = true → mFr d 77 44 [l0, l1, some (.int x)] st h P = mFr d 77 47 [l0, l1, some (.int (x + 1))] (st) h P) ∧
  (∀ (d : Nat) (loc : List (Option Value)) (st : List Value) (h : MH) (P : MP), mFr d 77 47 loc st h P = mFr d 77 10 loc (st) h P) := ⟨fun _ _ _ _ _ _ _ hm => (mFr_S mq77 h77_44).trans (by simp only [mgo.eq_1, mstep, mld, mst, mprev, List.length_cons, List.length_nil, List.getElem?_cons_succ, List.getElem?_cons_zero, hm]; rfl),
  fun _ _ _ _ _ => F_goto 10 mq77 h77_47 (by decide)⟩
theorem E77_50 : (∀ (d : Nat) (loc : List (Option Value)) (st : List Value) (h : MH) (P : MP), mFr d 77 50 loc st h P = mFr d 77 51 loc (.int 0 :: st) h P) ∧
  (∀ (d : Nat) (loc : List (Option Value)) (h : MH) (P : MP), mFr d 77 51 loc [.int 0] h P = P (some (.int 0)) h) ∧
  (∀ (d : Nat) (loc : List (Option Value)) (h : MH) (P : MP), mFr d 77 51 loc [.int 1] h P = P (some (.int 1)) h) ∧
  (∀ (d : Nat) (loc : List (Option Value)) (c : Prop) [Decidable c] (h : MH) (P : MP), mFr d 77 51 loc [.int (if c then 1 else 0)] h P = P (some (.int (if c then 1 else 0))) h) := ⟨fun _ _ _ _ _ => (mFr_S mq77 h77_50).trans rfl,
  fun _ _ _ _ => F_ret mq77 h77_51 rfl (by decide),
  fun _ _ _ _ => F_ret mq77 h77_51 rfl (by decide),
  fun _ _ _ _ _ _ => F_ret mq77 h77_51 rfl (by split <;> decide)⟩
theorem B77 : ∀ (d : Nat) (b : Nat) (a0 : Nat) (h : MH) (P : MP), mRun (d + 1) 77 [.ref b, .ref a0] h P = mFr d 77 0 [some (.ref b), some (.ref a0), none] [] h P := fun _ _ _ _ _ => mRun_S mq77 (Nat.le_of_ble_eq_true rfl)
-- 78: PuncturesAreViews.ease(II)I loops at [53]
def q78 : MI := (yX8_ease, cX8_ease, 8, (some .int), 8, 2)
theorem mq78 : mtab[78]? = some q78 := rfl
theorem h78_0 : mfetch q78.2.1 0 = some (.aload_n 0) := by decide +kernel
theorem h78_1 : mfetch q78.2.1 1 = some (.getfield 25) := by decide +kernel
theorem h78_4 : mfetch q78.2.1 4 = some (.iload_n 1) := by decide +kernel
theorem h78_5 : mfetch q78.2.1 5 = some (.invokevirtual 135) := by decide +kernel
theorem h78_8 : mfetch q78.2.1 8 = some (.astore_n 3) := by decide +kernel
theorem h78_9 : mfetch q78.2.1 9 = some (.aload_n 3) := by decide +kernel
theorem h78_10 : mfetch q78.2.1 10 = some (.ifnull 12) := by decide +kernel
theorem h78_13 : mfetch q78.2.1 13 = some (.iload_n 2) := by decide +kernel
theorem h78_14 : mfetch q78.2.1 14 = some (.ifCond .lt 8) := by decide +kernel
theorem h78_17 : mfetch q78.2.1 17 = some (.iload_n 2) := by decide +kernel
theorem h78_18 : mfetch q78.2.1 18 = some (.iconst 1) := by decide +kernel
theorem h78_19 : mfetch q78.2.1 19 = some (.if_icmp .le 6) := by decide +kernel
theorem h78_22 : mfetch q78.2.1 22 = some (.bipush (-2)) := by decide +kernel
theorem h78_24 : mfetch q78.2.1 24 = some (.ireturn) := by decide +kernel
theorem h78_25 : mfetch q78.2.1 25 = some (.iconst (-1)) := by decide +kernel
theorem h78_26 : mfetch q78.2.1 26 = some (.istore 4) := by decide +kernel
theorem h78_28 : mfetch q78.2.1 28 = some (.aload_n 0) := by decide +kernel
theorem h78_29 : mfetch q78.2.1 29 = some (.aload_n 3) := by decide +kernel
theorem h78_30 : mfetch q78.2.1 30 = some (.aload_n 0) := by decide +kernel
theorem h78_31 : mfetch q78.2.1 31 = some (.getfield 100) := by decide +kernel
theorem h78_34 : mfetch q78.2.1 34 = some (.invokevirtual 198) := by decide +kernel
theorem h78_37 : mfetch q78.2.1 37 = some (.istore 5) := by decide +kernel
theorem h78_39 : mfetch q78.2.1 39 = some (.aload_n 0) := by decide +kernel
theorem h78_40 : mfetch q78.2.1 40 = some (.getfield 107) := by decide +kernel
theorem h78_43 : mfetch q78.2.1 43 = some (.aload_n 0) := by decide +kernel
theorem h78_44 : mfetch q78.2.1 44 = some (.getfield 100) := by decide +kernel
theorem h78_47 : mfetch q78.2.1 47 = some (.invokevirtual 206) := by decide +kernel
theorem h78_50 : mfetch q78.2.1 50 = some (.iconst 0) := by decide +kernel
theorem h78_51 : mfetch q78.2.1 51 = some (.istore 6) := by decide +kernel
theorem h78_53 : mfetch q78.2.1 53 = some (.iload 6) := by decide +kernel
theorem h78_55 : mfetch q78.2.1 55 = some (.bipush 24) := by decide +kernel
theorem h78_57 : mfetch q78.2.1 57 = some (.if_icmp .ge 63) := by decide +kernel
theorem h78_60 : mfetch q78.2.1 60 = some (.aload_n 0) := by decide +kernel
theorem h78_61 : mfetch q78.2.1 61 = some (.getfield 107) := by decide +kernel
theorem h78_64 : mfetch q78.2.1 64 = some (.iload 6) := by decide +kernel
theorem h78_66 : mfetch q78.2.1 66 = some (.iconst 0) := by decide +kernel
theorem h78_67 : mfetch q78.2.1 67 = some (.invokevirtual 167) := by decide +kernel
theorem h78_70 : mfetch q78.2.1 70 = some (.aload_n 0) := by decide +kernel
theorem h78_71 : mfetch q78.2.1 71 = some (.aload_n 3) := by decide +kernel
theorem h78_72 : mfetch q78.2.1 72 = some (.aload_n 0) := by decide +kernel
theorem h78_73 : mfetch q78.2.1 73 = some (.getfield 107) := by decide +kernel
theorem h78_76 : mfetch q78.2.1 76 = some (.invokevirtual 198) := by decide +kernel
theorem h78_79 : mfetch q78.2.1 79 = some (.istore 7) := by decide +kernel
theorem h78_81 : mfetch q78.2.1 81 = some (.aload_n 0) := by decide +kernel
theorem h78_82 : mfetch q78.2.1 82 = some (.getfield 107) := by decide +kernel
theorem h78_85 : mfetch q78.2.1 85 = some (.iload 6) := by decide +kernel
theorem h78_87 : mfetch q78.2.1 87 = some (.aload_n 0) := by decide +kernel
theorem h78_88 : mfetch q78.2.1 88 = some (.getfield 100) := by decide +kernel
theorem h78_91 : mfetch q78.2.1 91 = some (.iload 6) := by decide +kernel
theorem h78_93 : mfetch q78.2.1 93 = some (.invokevirtual 131) := by decide +kernel
theorem h78_96 : mfetch q78.2.1 96 = some (.invokevirtual 167) := by decide +kernel
theorem h78_99 : mfetch q78.2.1 99 = some (.iload 7) := by decide +kernel
theorem h78_101 : mfetch q78.2.1 101 = some (.iload 5) := by decide +kernel
theorem h78_103 : mfetch q78.2.1 103 = some (.if_icmp .ge 11) := by decide +kernel
theorem h78_106 : mfetch q78.2.1 106 = some (.iload 7) := by decide +kernel
theorem h78_108 : mfetch q78.2.1 108 = some (.istore 5) := by decide +kernel
theorem h78_110 : mfetch q78.2.1 110 = some (.iload 6) := by decide +kernel
theorem h78_112 : mfetch q78.2.1 112 = some (.istore 4) := by decide +kernel
theorem h78_114 : mfetch q78.2.1 114 = some (.iinc 6 1) := by decide +kernel
theorem h78_117 : mfetch q78.2.1 117 = some (.goto (-64)) := by decide +kernel
theorem h78_120 : mfetch q78.2.1 120 = some (.iload_n 2) := by decide +kernel
theorem h78_121 : mfetch q78.2.1 121 = some (.ifCond .ne 8) := by decide +kernel
theorem h78_124 : mfetch q78.2.1 124 = some (.iload 4) := by decide +kernel
theorem h78_126 : mfetch q78.2.1 126 = some (.goto 5) := by decide +kernel
theorem h78_129 : mfetch q78.2.1 129 = some (.iload 5) := by decide +kernel
theorem h78_131 : mfetch q78.2.1 131 = some (.ireturn) := by decide +kernel
theorem E78_0 : (∀ (d : Nat) (l1 : Option Value) (l2 : Option Value) (l3 : Option Value) (l4 : Option Value) (l5 : Option Value) (l6 : Option Value) (l7 : Option Value) (x : Nat) (st : List Value) (h : MH) (P : MP), mFr d 78 0 [some (.ref x), l1, l2, l3, l4, l5, l6, l7] st h P = mFr d 78 1 [some (.ref x), l1, l2, l3, l4, l5, l6, l7] (.ref x :: st) h P) ∧
  (∀ (d : Nat) (loc : List (Option Value)) (a : Nat) (st : List Value) (h : MH) (P : MP), mFr d 78 1 loc (.ref a :: st) h P = pget h a 8 5 (fun v => mFr d 78 4 loc (v :: st) h P)) ∧
  (∀ (d : Nat) (l0 : Option Value) (l2 : Option Value) (l3 : Option Value) (l4 : Option Value) (l5 : Option Value) (l6 : Option Value) (l7 : Option Value) (x : Int32) (st : List Value) (h : MH) (P : MP), mFr d 78 4 [l0, some (.int x), l2, l3, l4, l5, l6, l7] st h P = mFr d 78 5 [l0, some (.int x), l2, l3, l4, l5, l6, l7] (.int x :: st) h P) ∧
  (∀ (d : Nat) (loc : List (Option Value)) (b : Nat) (a0 : Int32) (h : MH) (P : MP), mFr d 78 5 loc ((.int a0) :: .ref b :: []) h P = if mrcv h b 0 = true then mRun d 1 [.ref b, .int a0] h (fun v h' => mFr d 78 8 loc (v.toList ++ []) h' P) else False) ∧
  (∀ (d : Nat) (l0 : Option Value) (l1 : Option Value) (l2 : Option Value) (l3 : Option Value) (l4 : Option Value) (l5 : Option Value) (l6 : Option Value) (l7 : Option Value) (x : Nat) (st : List Value) (h : MH) (P : MP), mnl l2 = true → mFr d 78 8 [l0, l1, l2, l3, l4, l5, l6, l7] (.ref x :: st) h P = mFr d 78 9 [l0, l1, l2, some (.ref x), l4, l5, l6, l7] (st) h P) ∧
  (∀ (d : Nat) (l0 : Option Value) (l1 : Option Value) (l2 : Option Value) (l3 : Option Value) (l4 : Option Value) (l5 : Option Value) (l6 : Option Value) (l7 : Option Value) (st : List Value) (h : MH) (P : MP), mnl l2 = true → mFr d 78 8 [l0, l1, l2, l3, l4, l5, l6, l7] (.null :: st) h P = mFr d 78 9 [l0, l1, l2, some .null, l4, l5, l6, l7] (st) h P) ∧
  (∀ (d : Nat) (l0 : Option Value) (l1 : Option Value) (l2 : Option Value) (l4 : Option Value) (l5 : Option Value) (l6 : Option Value) (l7 : Option Value) (x : Nat) (st : List Value) (h : MH) (P : MP), mFr d 78 9 [l0, l1, l2, some (.ref x), l4, l5, l6, l7] st h P = mFr d 78 10 [l0, l1, l2, some (.ref x), l4, l5, l6, l7] (.ref x :: st) h P) ∧
  (∀ (d : Nat) (l0 : Option Value) (l1 : Option Value) (l2 : Option Value) (l4 : Option Value) (l5 : Option Value) (l6 : Option Value) (l7 : Option Value) (st : List Value) (h : MH) (P : MP), mFr d 78 9 [l0, l1, l2, some .null, l4, l5, l6, l7] st h P = mFr d 78 10 [l0, l1, l2, some .null, l4, l5, l6, l7] (.null :: st) h P) ∧
  (∀ (d : Nat) (loc : List (Option Value)) (x : Nat) (st : List Value) (h : MH) (P : MP), mFr d 78 10 loc (.ref x :: st) h P = if x < 900 then mFr d 78 13 loc (st) h P else False) ∧
  (∀ (d : Nat) (loc : List (Option Value)) (st : List Value) (h : MH) (P : MP), mFr d 78 10 loc (.null :: st) h P = mFr d 78 22 loc (st) h P) := ⟨fun _ _ _ _ _ _ _ _ _ _ _ _ => (mFr_S mq78 h78_0).trans rfl,
  fun _ _ _ _ _ _ => F_get mq78 h78_1 (Or.inl (rfl : _ = some (25, 0, 8, 5))),
  fun _ _ _ _ _ _ _ _ _ _ _ _ => (mFr_S mq78 h78_4).trans rfl,
  fun _ _ b a0 _ _ => F_callV (as := [.int a0]) (rest := []) mq78 (Or.inl h78_5) (rfl : _ = some (135, 6, 1, 1)) (Or.inl ⟨h78_5, by decide⟩) (by rfl) (by rfl) (by rfl) (Nat.le_of_ble_eq_true rfl),
  fun _ _ _ _ _ _ _ _ _ _ _ _ _ hm => (mFr_S mq78 h78_8).trans (by simp only [mgo.eq_1, mstep, mi1, ml1, mast, mst, mst2, mprev, List.length_cons, List.length_nil, List.getElem?_cons_succ, List.getElem?_cons_zero, hm]; rfl),
  fun _ _ _ _ _ _ _ _ _ _ _ _ hm => (mFr_S mq78 h78_8).trans (by simp only [mgo.eq_1, mstep, mi1, ml1, mast, mst, mst2, mprev, List.length_cons, List.length_nil, List.getElem?_cons_succ, List.getElem?_cons_zero, hm]; rfl),
  fun _ _ _ _ _ _ _ _ _ _ _ _ => (mFr_S mq78 h78_9).trans rfl,
  fun _ _ _ _ _ _ _ _ _ _ _ => (mFr_S mq78 h78_9).trans rfl,
  fun _ _ _ _ _ _ => F_ifnullR mq78 h78_10,
  fun _ _ _ _ _ => F_ifnullN 22 mq78 h78_10 (by decide)⟩
theorem E78_13 : (∀ (d : Nat) (l0 : Option Value) (l1 : Option Value) (l3 : Option Value) (l4 : Option Value) (l5 : Option Value) (l6 : Option Value) (l7 : Option Value) (x : Int32) (st : List Value) (h : MH) (P : MP), mFr d 78 13 [l0, l1, some (.int x), l3, l4, l5, l6, l7] st h P = mFr d 78 14 [l0, l1, some (.int x), l3, l4, l5, l6, l7] (.int x :: st) h P) ∧
  (∀ (d : Nat) (loc : List (Option Value)) (x : Int32) (st : List Value) (h : MH) (P : MP), mFr d 78 14 loc (.int x :: st) h P = if x < 0 then mFr d 78 22 loc (st) h P else mFr d 78 17 loc (st) h P) := ⟨fun _ _ _ _ _ _ _ _ _ _ _ _ => (mFr_S mq78 h78_13).trans rfl,
  fun _ _ _ _ _ _ => (F_ifz 22 mq78 h78_14 (by decide)).trans mif_lt⟩
theorem E78_17 : (∀ (d : Nat) (l0 : Option Value) (l1 : Option Value) (l3 : Option Value) (l4 : Option Value) (l5 : Option Value) (l6 : Option Value) (l7 : Option Value) (x : Int32) (st : List Value) (h : MH) (P : MP), mFr d 78 17 [l0, l1, some (.int x), l3, l4, l5, l6, l7] st h P = mFr d 78 18 [l0, l1, some (.int x), l3, l4, l5, l6, l7] (.int x :: st) h P) ∧
  (∀ (d : Nat) (loc : List (Option Value)) (st : List Value) (h : MH) (P : MP), mFr d 78 18 loc st h P = mFr d 78 19 loc (.int 1 :: st) h P) ∧
  (∀ (d : Nat) (loc : List (Option Value)) (x y : Int32) (st : List Value) (h : MH) (P : MP), mFr d 78 19 loc (.int y :: .int x :: st) h P = if y < x then mFr d 78 22 loc (st) h P else mFr d 78 25 loc (st) h P) := ⟨fun _ _ _ _ _ _ _ _ _ _ _ _ => (mFr_S mq78 h78_17).trans rfl,
  fun _ _ _ _ _ => (mFr_S mq78 h78_18).trans rfl,
  fun _ _ _ _ _ _ _ => (F_icmp 25 mq78 h78_19 (by decide)).trans mif_le⟩
theorem E78_22 : (∀ (d : Nat) (loc : List (Option Value)) (st : List Value) (h : MH) (P : MP), mFr d 78 22 loc st h P = mFr d 78 24 loc (.int (-2) :: st) h P) ∧
  (∀ (d : Nat) (loc : List (Option Value)) (x : Int32) (h : MH) (P : MP), mFr d 78 24 loc [.int x] h P = P (some (.int x)) h) := ⟨fun _ _ _ _ _ => (mFr_S mq78 h78_22).trans rfl,
  fun _ _ _ _ _ => F_ret mq78 h78_24 rfl rfl⟩
theorem E78_25 : (∀ (d : Nat) (loc : List (Option Value)) (st : List Value) (h : MH) (P : MP), mFr d 78 25 loc st h P = mFr d 78 26 loc (.int (-1) :: st) h P) ∧
  (∀ (d : Nat) (l0 : Option Value) (l1 : Option Value) (l2 : Option Value) (l3 : Option Value) (l4 : Option Value) (l5 : Option Value) (l6 : Option Value) (l7 : Option Value) (x : Int32) (st : List Value) (h : MH) (P : MP), mnl l3 = true → mFr d 78 26 [l0, l1, l2, l3, l4, l5, l6, l7] (.int x :: st) h P = mFr d 78 28 [l0, l1, l2, l3, some (.int x), l5, l6, l7] (st) h P) ∧
  (∀ (d : Nat) (l1 : Option Value) (l2 : Option Value) (l3 : Option Value) (l4 : Option Value) (l5 : Option Value) (l6 : Option Value) (l7 : Option Value) (x : Nat) (st : List Value) (h : MH) (P : MP), mFr d 78 28 [some (.ref x), l1, l2, l3, l4, l5, l6, l7] st h P = mFr d 78 29 [some (.ref x), l1, l2, l3, l4, l5, l6, l7] (.ref x :: st) h P) ∧
  (∀ (d : Nat) (l0 : Option Value) (l1 : Option Value) (l2 : Option Value) (l4 : Option Value) (l5 : Option Value) (l6 : Option Value) (l7 : Option Value) (x : Nat) (st : List Value) (h : MH) (P : MP), mFr d 78 29 [l0, l1, l2, some (.ref x), l4, l5, l6, l7] st h P = mFr d 78 30 [l0, l1, l2, some (.ref x), l4, l5, l6, l7] (.ref x :: st) h P) ∧
  (∀ (d : Nat) (l0 : Option Value) (l1 : Option Value) (l2 : Option Value) (l4 : Option Value) (l5 : Option Value) (l6 : Option Value) (l7 : Option Value) (st : List Value) (h : MH) (P : MP), mFr d 78 29 [l0, l1, l2, some .null, l4, l5, l6, l7] st h P = mFr d 78 30 [l0, l1, l2, some .null, l4, l5, l6, l7] (.null :: st) h P) ∧
  (∀ (d : Nat) (l1 : Option Value) (l2 : Option Value) (l3 : Option Value) (l4 : Option Value) (l5 : Option Value) (l6 : Option Value) (l7 : Option Value) (x : Nat) (st : List Value) (h : MH) (P : MP), mFr d 78 30 [some (.ref x), l1, l2, l3, l4, l5, l6, l7] st h P = mFr d 78 31 [some (.ref x), l1, l2, l3, l4, l5, l6, l7] (.ref x :: st) h P) ∧
  (∀ (d : Nat) (loc : List (Option Value)) (a : Nat) (st : List Value) (h : MH) (P : MP), mFr d 78 31 loc (.ref a :: st) h P = pget h a 8 4 (fun v => mFr d 78 34 loc (v :: st) h P)) ∧
  (∀ (d : Nat) (loc : List (Option Value)) (b : Nat) (a0 : Nat) (a1 : Nat) (h : MH) (P : MP), mFr d 78 34 loc ((.ref a1) :: (.ref a0) :: .ref b :: []) h P = if mrcv h b 8 = true then mRun d 75 [.ref b, .ref a0, .ref a1] h (fun v h' => mFr d 78 37 loc (v.toList ++ []) h' P) else False) ∧
  (∀ (d : Nat) (l0 : Option Value) (l1 : Option Value) (l2 : Option Value) (l3 : Option Value) (l4 : Option Value) (l5 : Option Value) (l6 : Option Value) (l7 : Option Value) (x : Int32) (st : List Value) (h : MH) (P : MP), mnl l4 = true → mFr d 78 37 [l0, l1, l2, l3, l4, l5, l6, l7] (.int x :: st) h P = mFr d 78 39 [l0, l1, l2, l3, l4, some (.int x), l6, l7] (st) h P) ∧
  (∀ (d : Nat) (l1 : Option Value) (l2 : Option Value) (l3 : Option Value) (l4 : Option Value) (l5 : Option Value) (l6 : Option Value) (l7 : Option Value) (x : Nat) (st : List Value) (h : MH) (P : MP), mFr d 78 39 [some (.ref x), l1, l2, l3, l4, l5, l6, l7] st h P = mFr d 78 40 [some (.ref x), l1, l2, l3, l4, l5, l6, l7] (.ref x :: st) h P) ∧
  (∀ (d : Nat) (loc : List (Option Value)) (a : Nat) (st : List Value) (h : MH) (P : MP), mFr d 78 40 loc (.ref a :: st) h P = pget h a 8 10 (fun v => mFr d 78 43 loc (v :: st) h P)) ∧
  (∀ (d : Nat) (l1 : Option Value) (l2 : Option Value) (l3 : Option Value) (l4 : Option Value) (l5 : Option Value) (l6 : Option Value) (l7 : Option Value) (x : Nat) (st : List Value) (h : MH) (P : MP), mFr d 78 43 [some (.ref x), l1, l2, l3, l4, l5, l6, l7] st h P = mFr d 78 44 [some (.ref x), l1, l2, l3, l4, l5, l6, l7] (.ref x :: st) h P) ∧
  (∀ (d : Nat) (loc : List (Option Value)) (a : Nat) (st : List Value) (h : MH) (P : MP), mFr d 78 44 loc (.ref a :: st) h P = pget h a 8 4 (fun v => mFr d 78 47 loc (v :: st) h P)) ∧
  (∀ (d : Nat) (loc : List (Option Value)) (b : Nat) (a0 : Nat) (h : MH) (P : MP), mFr d 78 47 loc ((.ref a0) :: .ref b :: []) h P = if mrcv h b 2 = true then mRun d 20 [.ref b, .ref a0] h (fun v h' => mFr d 78 50 loc (v.toList ++ []) h' P) else False) ∧
  (∀ (d : Nat) (loc : List (Option Value)) (st : List Value) (h : MH) (P : MP), mFr d 78 50 loc st h P = mFr d 78 51 loc (.int 0 :: st) h P) ∧
  (∀ (d : Nat) (l0 : Option Value) (l1 : Option Value) (l2 : Option Value) (l3 : Option Value) (l4 : Option Value) (l5 : Option Value) (l6 : Option Value) (l7 : Option Value) (x : Int32) (st : List Value) (h : MH) (P : MP), mnl l5 = true → mFr d 78 51 [l0, l1, l2, l3, l4, l5, l6, l7] (.int x :: st) h P = mFr d 78 53 [l0, l1, l2, l3, l4, l5, some (.int x), l7] (st) h P) := ⟨fun _ _ _ _ _ => (mFr_S mq78 h78_25).trans rfl,
  fun _ _ _ _ _ _ _ _ _ _ _ _ _ hm => (mFr_S mq78 h78_26).trans (by simp only [mgo.eq_1, mstep, mi1, ml1, mast, mst, mst2, mprev, List.length_cons, List.length_nil, List.getElem?_cons_succ, List.getElem?_cons_zero, hm]; rfl),
  fun _ _ _ _ _ _ _ _ _ _ _ _ => (mFr_S mq78 h78_28).trans rfl,
  fun _ _ _ _ _ _ _ _ _ _ _ _ => (mFr_S mq78 h78_29).trans rfl,
  fun _ _ _ _ _ _ _ _ _ _ _ => (mFr_S mq78 h78_29).trans rfl,
  fun _ _ _ _ _ _ _ _ _ _ _ _ => (mFr_S mq78 h78_30).trans rfl,
  fun _ _ _ _ _ _ => F_get mq78 h78_31 (Or.inl (rfl : _ = some (100, 0, 8, 4))),
  fun _ _ b a0 a1 _ _ => F_callV (as := [.ref a0, .ref a1]) (rest := []) mq78 (Or.inl h78_34) (rfl : _ = some (198, 6, 75, 0)) (Or.inl ⟨h78_34, by decide⟩) (by rfl) (by rfl) (by rfl) (Nat.le_of_ble_eq_true rfl),
  fun _ _ _ _ _ _ _ _ _ _ _ _ _ hm => (mFr_S mq78 h78_37).trans (by simp only [mgo.eq_1, mstep, mi1, ml1, mast, mst, mst2, mprev, List.length_cons, List.length_nil, List.getElem?_cons_succ, List.getElem?_cons_zero, hm]; rfl),
  fun _ _ _ _ _ _ _ _ _ _ _ _ => (mFr_S mq78 h78_39).trans rfl,
  fun _ _ _ _ _ _ => F_get mq78 h78_40 (Or.inl (rfl : _ = some (107, 0, 8, 10))),
  fun _ _ _ _ _ _ _ _ _ _ _ _ => (mFr_S mq78 h78_43).trans rfl,
  fun _ _ _ _ _ _ => F_get mq78 h78_44 (Or.inl (rfl : _ = some (100, 0, 8, 4))),
  fun _ _ b a0 _ _ => F_callV (as := [.ref a0]) (rest := []) mq78 (Or.inl h78_47) (rfl : _ = some (206, 6, 20, 1)) (Or.inl ⟨h78_47, by decide⟩) (by rfl) (by rfl) (by rfl) (Nat.le_of_ble_eq_true rfl),
  fun _ _ _ _ _ => (mFr_S mq78 h78_50).trans rfl,
  fun _ _ _ _ _ _ _ _ _ _ _ _ _ hm => (mFr_S mq78 h78_51).trans (by simp only [mgo.eq_1, mstep, mi1, ml1, mast, mst, mst2, mprev, List.length_cons, List.length_nil, List.getElem?_cons_succ, List.getElem?_cons_zero, hm]; rfl)⟩
theorem E78_53 : (∀ (d : Nat) (l0 : Option Value) (l1 : Option Value) (l2 : Option Value) (l3 : Option Value) (l4 : Option Value) (l5 : Option Value) (l7 : Option Value) (x : Int32) (st : List Value) (h : MH) (P : MP), mFr d 78 53 [l0, l1, l2, l3, l4, l5, some (.int x), l7] st h P = mFr d 78 55 [l0, l1, l2, l3, l4, l5, some (.int x), l7] (.int x :: st) h P) ∧
  (∀ (d : Nat) (loc : List (Option Value)) (st : List Value) (h : MH) (P : MP), mFr d 78 55 loc st h P = mFr d 78 57 loc (.int 24 :: st) h P) ∧
  (∀ (d : Nat) (loc : List (Option Value)) (x y : Int32) (st : List Value) (h : MH) (P : MP), mFr d 78 57 loc (.int y :: .int x :: st) h P = if x < y then mFr d 78 60 loc (st) h P else mFr d 78 120 loc (st) h P) := ⟨fun _ _ _ _ _ _ _ _ _ _ _ _ => (mFr_S mq78 h78_53).trans rfl,
  fun _ _ _ _ _ => (mFr_S mq78 h78_55).trans rfl,
  fun _ _ _ _ _ _ _ => (F_icmp 120 mq78 h78_57 (by decide)).trans mif_ge⟩
theorem E78_60 : (∀ (d : Nat) (l1 : Option Value) (l2 : Option Value) (l3 : Option Value) (l4 : Option Value) (l5 : Option Value) (l6 : Option Value) (l7 : Option Value) (x : Nat) (st : List Value) (h : MH) (P : MP), mFr d 78 60 [some (.ref x), l1, l2, l3, l4, l5, l6, l7] st h P = mFr d 78 61 [some (.ref x), l1, l2, l3, l4, l5, l6, l7] (.ref x :: st) h P) ∧
  (∀ (d : Nat) (loc : List (Option Value)) (a : Nat) (st : List Value) (h : MH) (P : MP), mFr d 78 61 loc (.ref a :: st) h P = pget h a 8 10 (fun v => mFr d 78 64 loc (v :: st) h P)) ∧
  (∀ (d : Nat) (l0 : Option Value) (l1 : Option Value) (l2 : Option Value) (l3 : Option Value) (l4 : Option Value) (l5 : Option Value) (l7 : Option Value) (x : Int32) (st : List Value) (h : MH) (P : MP), mFr d 78 64 [l0, l1, l2, l3, l4, l5, some (.int x), l7] st h P = mFr d 78 66 [l0, l1, l2, l3, l4, l5, some (.int x), l7] (.int x :: st) h P) ∧
  (∀ (d : Nat) (loc : List (Option Value)) (st : List Value) (h : MH) (P : MP), mFr d 78 66 loc st h P = mFr d 78 67 loc (.int 0 :: st) h P) ∧
  (∀ (d : Nat) (loc : List (Option Value)) (b : Nat) (a0 : Int32) (a1 : Int32) (h : MH) (P : MP), mFr d 78 67 loc ((.int a1) :: (.int a0) :: .ref b :: []) h P = if mrcv h b 2 = true then mRun d 18 [.ref b, .int a0, .int a1] h (fun v h' => mFr d 78 70 loc (v.toList ++ []) h' P) else False) ∧
  (∀ (d : Nat) (l1 : Option Value) (l2 : Option Value) (l3 : Option Value) (l4 : Option Value) (l5 : Option Value) (l6 : Option Value) (l7 : Option Value) (x : Nat) (st : List Value) (h : MH) (P : MP), mFr d 78 70 [some (.ref x), l1, l2, l3, l4, l5, l6, l7] st h P = mFr d 78 71 [some (.ref x), l1, l2, l3, l4, l5, l6, l7] (.ref x :: st) h P) ∧
  (∀ (d : Nat) (l0 : Option Value) (l1 : Option Value) (l2 : Option Value) (l4 : Option Value) (l5 : Option Value) (l6 : Option Value) (l7 : Option Value) (x : Nat) (st : List Value) (h : MH) (P : MP), mFr d 78 71 [l0, l1, l2, some (.ref x), l4, l5, l6, l7] st h P = mFr d 78 72 [l0, l1, l2, some (.ref x), l4, l5, l6, l7] (.ref x :: st) h P) ∧
  (∀ (d : Nat) (l0 : Option Value) (l1 : Option Value) (l2 : Option Value) (l4 : Option Value) (l5 : Option Value) (l6 : Option Value) (l7 : Option Value) (st : List Value) (h : MH) (P : MP), mFr d 78 71 [l0, l1, l2, some .null, l4, l5, l6, l7] st h P = mFr d 78 72 [l0, l1, l2, some .null, l4, l5, l6, l7] (.null :: st) h P) ∧
  (∀ (d : Nat) (l1 : Option Value) (l2 : Option Value) (l3 : Option Value) (l4 : Option Value) (l5 : Option Value) (l6 : Option Value) (l7 : Option Value) (x : Nat) (st : List Value) (h : MH) (P : MP), mFr d 78 72 [some (.ref x), l1, l2, l3, l4, l5, l6, l7] st h P = mFr d 78 73 [some (.ref x), l1, l2, l3, l4, l5, l6, l7] (.ref x :: st) h P) ∧
  (∀ (d : Nat) (loc : List (Option Value)) (a : Nat) (st : List Value) (h : MH) (P : MP), mFr d 78 73 loc (.ref a :: st) h P = pget h a 8 10 (fun v => mFr d 78 76 loc (v :: st) h P)) ∧
  (∀ (d : Nat) (loc : List (Option Value)) (b : Nat) (a0 : Nat) (a1 : Nat) (h : MH) (P : MP), mFr d 78 76 loc ((.ref a1) :: (.ref a0) :: .ref b :: []) h P = if mrcv h b 8 = true then mRun d 75 [.ref b, .ref a0, .ref a1] h (fun v h' => mFr d 78 79 loc (v.toList ++ []) h' P) else False) ∧
  (∀ (d : Nat) (l0 : Option Value) (l1 : Option Value) (l2 : Option Value) (l3 : Option Value) (l4 : Option Value) (l5 : Option Value) (l6 : Option Value) (l7 : Option Value) (x : Int32) (st : List Value) (h : MH) (P : MP), mnl l6 = true → mFr d 78 79 [l0, l1, l2, l3, l4, l5, l6, l7] (.int x :: st) h P = mFr d 78 81 [l0, l1, l2, l3, l4, l5, l6, some (.int x)] (st) h P) ∧
  (∀ (d : Nat) (l1 : Option Value) (l2 : Option Value) (l3 : Option Value) (l4 : Option Value) (l5 : Option Value) (l6 : Option Value) (l7 : Option Value) (x : Nat) (st : List Value) (h : MH) (P : MP), mFr d 78 81 [some (.ref x), l1, l2, l3, l4, l5, l6, l7] st h P = mFr d 78 82 [some (.ref x), l1, l2, l3, l4, l5, l6, l7] (.ref x :: st) h P) ∧
  (∀ (d : Nat) (loc : List (Option Value)) (a : Nat) (st : List Value) (h : MH) (P : MP), mFr d 78 82 loc (.ref a :: st) h P = pget h a 8 10 (fun v => mFr d 78 85 loc (v :: st) h P)) ∧
  (∀ (d : Nat) (l0 : Option Value) (l1 : Option Value) (l2 : Option Value) (l3 : Option Value) (l4 : Option Value) (l5 : Option Value) (l7 : Option Value) (x : Int32) (st : List Value) (h : MH) (P : MP), mFr d 78 85 [l0, l1, l2, l3, l4, l5, some (.int x), l7] st h P = mFr d 78 87 [l0, l1, l2, l3, l4, l5, some (.int x), l7] (.int x :: st) h P) ∧
  (∀ (d : Nat) (l1 : Option Value) (l2 : Option Value) (l3 : Option Value) (l4 : Option Value) (l5 : Option Value) (l6 : Option Value) (l7 : Option Value) (x : Nat) (st : List Value) (h : MH) (P : MP), mFr d 78 87 [some (.ref x), l1, l2, l3, l4, l5, l6, l7] st h P = mFr d 78 88 [some (.ref x), l1, l2, l3, l4, l5, l6, l7] (.ref x :: st) h P) ∧
  (∀ (d : Nat) (loc : List (Option Value)) (a : Nat) (st : List Value) (h : MH) (P : MP), mFr d 78 88 loc (.ref a :: st) h P = pget h a 8 4 (fun v => mFr d 78 91 loc (v :: st) h P)) ∧
  (∀ (d : Nat) (l0 : Option Value) (l1 : Option Value) (l2 : Option Value) (l3 : Option Value) (l4 : Option Value) (l5 : Option Value) (l7 : Option Value) (x : Int32) (st : List Value) (h : MH) (P : MP), mFr d 78 91 [l0, l1, l2, l3, l4, l5, some (.int x), l7] st h P = mFr d 78 93 [l0, l1, l2, l3, l4, l5, some (.int x), l7] (.int x :: st) h P) ∧
  (∀ (d : Nat) (loc : List (Option Value)) (b : Nat) (a0 : Int32) (s0 : Int32) (s1 : Nat) (h : MH) (P : MP), mFr d 78 93 loc ((.int a0) :: .ref b :: [.int s0, .ref s1]) h P = if mrcv h b 2 = true then mRun d 17 [.ref b, .int a0] h (fun v h' => mFr d 78 96 loc (v.toList ++ [.int s0, .ref s1]) h' P) else False) ∧
  (∀ (d : Nat) (loc : List (Option Value)) (b : Nat) (a0 : Int32) (a1 : Int32) (h : MH) (P : MP), mFr d 78 96 loc ((.int a1) :: (.int a0) :: .ref b :: []) h P = if mrcv h b 2 = true then mRun d 18 [.ref b, .int a0, .int a1] h (fun v h' => mFr d 78 99 loc (v.toList ++ []) h' P) else False) ∧
  (∀ (d : Nat) (l0 : Option Value) (l1 : Option Value) (l2 : Option Value) (l3 : Option Value) (l4 : Option Value) (l5 : Option Value) (l6 : Option Value) (x : Int32) (st : List Value) (h : MH) (P : MP), mFr d 78 99 [l0, l1, l2, l3, l4, l5, l6, some (.int x)] st h P = mFr d 78 101 [l0, l1, l2, l3, l4, l5, l6, some (.int x)] (.int x :: st) h P) ∧
  (∀ (d : Nat) (l0 : Option Value) (l1 : Option Value) (l2 : Option Value) (l3 : Option Value) (l4 : Option Value) (l6 : Option Value) (l7 : Option Value) (x : Int32) (st : List Value) (h : MH) (P : MP), mFr d 78 101 [l0, l1, l2, l3, l4, some (.int x), l6, l7] st h P = mFr d 78 103 [l0, l1, l2, l3, l4, some (.int x), l6, l7] (.int x :: st) h P) ∧
  (∀ (d : Nat) (loc : List (Option Value)) (x y : Int32) (st : List Value) (h : MH) (P : MP), mFr d 78 103 loc (.int y :: .int x :: st) h P = if x < y then mFr d 78 106 loc (st) h P else mFr d 78 114 loc (st) h P) := ⟨fun _ _ _ _ _ _ _ _ _ _ _ _ => (mFr_S mq78 h78_60).trans rfl,
  fun _ _ _ _ _ _ => F_get mq78 h78_61 (Or.inl (rfl : _ = some (107, 0, 8, 10))),
  fun _ _ _ _ _ _ _ _ _ _ _ _ => (mFr_S mq78 h78_64).trans rfl,
  fun _ _ _ _ _ => (mFr_S mq78 h78_66).trans rfl,
  fun _ _ b a0 a1 _ _ => F_callV (as := [.int a0, .int a1]) (rest := []) mq78 (Or.inl h78_67) (rfl : _ = some (167, 6, 18, 1)) (Or.inl ⟨h78_67, by decide⟩) (by rfl) (by rfl) (by rfl) (Nat.le_of_ble_eq_true rfl),
  fun _ _ _ _ _ _ _ _ _ _ _ _ => (mFr_S mq78 h78_70).trans rfl,
  fun _ _ _ _ _ _ _ _ _ _ _ _ => (mFr_S mq78 h78_71).trans rfl,
  fun _ _ _ _ _ _ _ _ _ _ _ => (mFr_S mq78 h78_71).trans rfl,
  fun _ _ _ _ _ _ _ _ _ _ _ _ => (mFr_S mq78 h78_72).trans rfl,
  fun _ _ _ _ _ _ => F_get mq78 h78_73 (Or.inl (rfl : _ = some (107, 0, 8, 10))),
  fun _ _ b a0 a1 _ _ => F_callV (as := [.ref a0, .ref a1]) (rest := []) mq78 (Or.inl h78_76) (rfl : _ = some (198, 6, 75, 0)) (Or.inl ⟨h78_76, by decide⟩) (by rfl) (by rfl) (by rfl) (Nat.le_of_ble_eq_true rfl),
  fun _ _ _ _ _ _ _ _ _ _ _ _ _ hm => (mFr_S mq78 h78_79).trans (by simp only [mgo.eq_1, mstep, mi1, ml1, mast, mst, mst2, mprev, List.length_cons, List.length_nil, List.getElem?_cons_succ, List.getElem?_cons_zero, hm]; rfl),
  fun _ _ _ _ _ _ _ _ _ _ _ _ => (mFr_S mq78 h78_81).trans rfl,
  fun _ _ _ _ _ _ => F_get mq78 h78_82 (Or.inl (rfl : _ = some (107, 0, 8, 10))),
  fun _ _ _ _ _ _ _ _ _ _ _ _ => (mFr_S mq78 h78_85).trans rfl,
  fun _ _ _ _ _ _ _ _ _ _ _ _ => (mFr_S mq78 h78_87).trans rfl,
  fun _ _ _ _ _ _ => F_get mq78 h78_88 (Or.inl (rfl : _ = some (100, 0, 8, 4))),
  fun _ _ _ _ _ _ _ _ _ _ _ _ => (mFr_S mq78 h78_91).trans rfl,
  fun _ _ b a0 s0 s1 _ _ => F_callV (as := [.int a0]) (rest := [.int s0, .ref s1]) mq78 (Or.inl h78_93) (rfl : _ = some (131, 6, 17, 1)) (Or.inl ⟨h78_93, by decide⟩) (by rfl) (by rfl) (by rfl) (Nat.le_of_ble_eq_true rfl),
  fun _ _ b a0 a1 _ _ => F_callV (as := [.int a0, .int a1]) (rest := []) mq78 (Or.inl h78_96) (rfl : _ = some (167, 6, 18, 1)) (Or.inl ⟨h78_96, by decide⟩) (by rfl) (by rfl) (by rfl) (Nat.le_of_ble_eq_true rfl),
  fun _ _ _ _ _ _ _ _ _ _ _ _ => (mFr_S mq78 h78_99).trans rfl,
  fun _ _ _ _ _ _ _ _ _ _ _ _ => (mFr_S mq78 h78_101).trans rfl,
  fun _ _ _ _ _ _ _ => (F_icmp 114 mq78 h78_103 (by decide)).trans mif_ge⟩
theorem E78_106 : (∀ (d : Nat) (l0 : Option Value) (l1 : Option Value) (l2 : Option Value) (l3 : Option Value) (l4 : Option Value) (l5 : Option Value) (l6 : Option Value) (x : Int32) (st : List Value) (h : MH) (P : MP), mFr d 78 106 [l0, l1, l2, l3, l4, l5, l6, some (.int x)] st h P = mFr d 78 108 [l0, l1, l2, l3, l4, l5, l6, some (.int x)] (.int x :: st) h P) ∧
  (∀ (d : Nat) (l0 : Option Value) (l1 : Option Value) (l2 : Option Value) (l3 : Option Value) (l4 : Option Value) (l5 : Option Value) (l6 : Option Value) (l7 : Option Value) (x : Int32) (st : List Value) (h : MH) (P : MP), mnl l4 = true → mFr d 78 108 [l0, l1, l2, l3, l4, l5, l6, l7] (.int x :: st) h P = mFr d 78 110 [l0, l1, l2, l3, l4, some (.int x), l6, l7] (st) h P) ∧
  (∀ (d : Nat) (l0 : Option Value) (l1 : Option Value) (l2 : Option Value) (l3 : Option Value) (l4 : Option Value) (l5 : Option Value) (l7 : Option Value) (x : Int32) (st : List Value) (h : MH) (P : MP), mFr d 78 110 [l0, l1, l2, l3, l4, l5, some (.int x), l7] st h P = mFr d 78 112 [l0, l1, l2, l3, l4, l5, some (.int x), l7] (.int x :: st) h P) ∧
  (∀ (d : Nat) (l0 : Option Value) (l1 : Option Value) (l2 : Option Value) (l3 : Option Value) (l4 : Option Value) (l5 : Option Value) (l6 : Option Value) (l7 : Option Value) (x : Int32) (st : List Value) (h : MH) (P : MP), mnl l3 = true → mFr d 78 112 [l0, l1, l2, l3, l4, l5, l6, l7] (.int x :: st) h P = mFr d 78 114 [l0, l1, l2, l3, some (.int x), l5, l6, l7] (st) h P) := ⟨fun _ _ _ _ _ _ _ _ _ _ _ _ => (mFr_S mq78 h78_106).trans rfl,
  fun _ _ _ _ _ _ _ _ _ _ _ _ _ hm => (mFr_S mq78 h78_108).trans (by simp only [mgo.eq_1, mstep, mi1, ml1, mast, mst, mst2, mprev, List.length_cons, List.length_nil, List.getElem?_cons_succ, List.getElem?_cons_zero, hm]; rfl),
  fun _ _ _ _ _ _ _ _ _ _ _ _ => (mFr_S mq78 h78_110).trans rfl,
  fun _ _ _ _ _ _ _ _ _ _ _ _ _ hm => (mFr_S mq78 h78_112).trans (by simp only [mgo.eq_1, mstep, mi1, ml1, mast, mst, mst2, mprev, List.length_cons, List.length_nil, List.getElem?_cons_succ, List.getElem?_cons_zero, hm]; rfl)⟩
theorem E78_114 : (∀ (d : Nat) (l0 : Option Value) (l1 : Option Value) (l2 : Option Value) (l3 : Option Value) (l4 : Option Value) (l5 : Option Value) (l7 : Option Value) (x : Int32) (st : List Value) (h : MH) (P : MP), mnl l5 = true → mFr d 78 114 [l0, l1, l2, l3, l4, l5, some (.int x), l7] st h P = mFr d 78 117 [l0, l1, l2, l3, l4, l5, some (.int (x + 1)), l7] (st) h P) ∧
  (∀ (d : Nat) (loc : List (Option Value)) (st : List Value) (h : MH) (P : MP), mFr d 78 117 loc st h P = mFr d 78 53 loc (st) h P) := ⟨fun _ _ _ _ _ _ _ _ _ _ _ _ hm => (mFr_S mq78 h78_114).trans (by simp only [mgo.eq_1, mstep, mld, mst, mprev, List.length_cons, List.length_nil, List.getElem?_cons_succ, List.getElem?_cons_zero, hm]; rfl),
  fun _ _ _ _ _ => F_goto 53 mq78 h78_117 (by decide)⟩
theorem E78_120 : (∀ (d : Nat) (l0 : Option Value) (l1 : Option Value) (l3 : Option Value) (l4 : Option Value) (l5 : Option Value) (l6 : Option Value) (l7 : Option Value) (x : Int32) (st : List Value) (h : MH) (P : MP), mFr d 78 120 [l0, l1, some (.int x), l3, l4, l5, l6, l7] st h P = mFr d 78 121 [l0, l1, some (.int x), l3, l4, l5, l6, l7] (.int x :: st) h P) ∧
  (∀ (d : Nat) (loc : List (Option Value)) (x : Int32) (st : List Value) (h : MH) (P : MP), mFr d 78 121 loc (.int x :: st) h P = if x = 0 then mFr d 78 124 loc (st) h P else mFr d 78 129 loc (st) h P) := ⟨fun _ _ _ _ _ _ _ _ _ _ _ _ => (mFr_S mq78 h78_120).trans rfl,
  fun _ _ _ _ _ _ => (F_ifz 129 mq78 h78_121 (by decide)).trans mif_ne⟩
theorem E78_124 : (∀ (d : Nat) (l0 : Option Value) (l1 : Option Value) (l2 : Option Value) (l3 : Option Value) (l5 : Option Value) (l6 : Option Value) (l7 : Option Value) (x : Int32) (st : List Value) (h : MH) (P : MP), mFr d 78 124 [l0, l1, l2, l3, some (.int x), l5, l6, l7] st h P = mFr d 78 126 [l0, l1, l2, l3, some (.int x), l5, l6, l7] (.int x :: st) h P) ∧
  (∀ (d : Nat) (loc : List (Option Value)) (st : List Value) (h : MH) (P : MP), mFr d 78 126 loc st h P = mFr d 78 131 loc (st) h P) := ⟨fun _ _ _ _ _ _ _ _ _ _ _ _ => (mFr_S mq78 h78_124).trans rfl,
  fun _ _ _ _ _ => F_goto 131 mq78 h78_126 (by decide)⟩
theorem E78_129 : (∀ (d : Nat) (l0 : Option Value) (l1 : Option Value) (l2 : Option Value) (l3 : Option Value) (l4 : Option Value) (l6 : Option Value) (l7 : Option Value) (x : Int32) (st : List Value) (h : MH) (P : MP), mFr d 78 129 [l0, l1, l2, l3, l4, some (.int x), l6, l7] st h P = mFr d 78 131 [l0, l1, l2, l3, l4, some (.int x), l6, l7] (.int x :: st) h P) := fun _ _ _ _ _ _ _ _ _ _ _ _ => (mFr_S mq78 h78_129).trans rfl
theorem E78_131 : (∀ (d : Nat) (loc : List (Option Value)) (x : Int32) (h : MH) (P : MP), mFr d 78 131 loc [.int x] h P = P (some (.int x)) h) := fun _ _ _ _ _ => F_ret mq78 h78_131 rfl rfl
theorem B78 : ∀ (d : Nat) (b : Nat) (a0 : Int32) (a1 : Int32) (h : MH) (P : MP), mRun (d + 1) 78 [.ref b, .int a0, .int a1] h P = mFr d 78 0 [some (.ref b), some (.int a0), some (.int a1), none, none, none, none, none] [] h P := fun _ _ _ _ _ _ => mRun_S mq78 (Nat.le_of_ble_eq_true rfl)
-- 79: PuncturesAreViews.change(II)I loops at [53, 66]
def q79 : MI := (yX8_change, cX8_change, 9, (some .int), 8, 2)
theorem mq79 : mtab[79]? = some q79 := rfl
theorem h79_0 : mfetch q79.2.1 0 = some (.aload_n 0) := by decide +kernel
theorem h79_1 : mfetch q79.2.1 1 = some (.getfield 25) := by decide +kernel
theorem h79_4 : mfetch q79.2.1 4 = some (.iload_n 1) := by decide +kernel
theorem h79_5 : mfetch q79.2.1 5 = some (.invokevirtual 135) := by decide +kernel
theorem h79_8 : mfetch q79.2.1 8 = some (.astore_n 3) := by decide +kernel
theorem h79_9 : mfetch q79.2.1 9 = some (.aload_n 3) := by decide +kernel
theorem h79_10 : mfetch q79.2.1 10 = some (.ifnull 12) := by decide +kernel
theorem h79_13 : mfetch q79.2.1 13 = some (.iload_n 2) := by decide +kernel
theorem h79_14 : mfetch q79.2.1 14 = some (.ifCond .lt 8) := by decide +kernel
theorem h79_17 : mfetch q79.2.1 17 = some (.iload_n 2) := by decide +kernel
theorem h79_18 : mfetch q79.2.1 18 = some (.iconst 1) := by decide +kernel
theorem h79_19 : mfetch q79.2.1 19 = some (.if_icmp .le 6) := by decide +kernel
theorem h79_22 : mfetch q79.2.1 22 = some (.bipush (-2)) := by decide +kernel
theorem h79_24 : mfetch q79.2.1 24 = some (.ireturn) := by decide +kernel
theorem h79_25 : mfetch q79.2.1 25 = some (.iconst (-1)) := by decide +kernel
theorem h79_26 : mfetch q79.2.1 26 = some (.istore 4) := by decide +kernel
theorem h79_28 : mfetch q79.2.1 28 = some (.aload_n 0) := by decide +kernel
theorem h79_29 : mfetch q79.2.1 29 = some (.aload_n 3) := by decide +kernel
theorem h79_30 : mfetch q79.2.1 30 = some (.aload_n 0) := by decide +kernel
theorem h79_31 : mfetch q79.2.1 31 = some (.getfield 100) := by decide +kernel
theorem h79_34 : mfetch q79.2.1 34 = some (.invokevirtual 198) := by decide +kernel
theorem h79_37 : mfetch q79.2.1 37 = some (.istore 5) := by decide +kernel
theorem h79_39 : mfetch q79.2.1 39 = some (.aload_n 0) := by decide +kernel
theorem h79_40 : mfetch q79.2.1 40 = some (.getfield 107) := by decide +kernel
theorem h79_43 : mfetch q79.2.1 43 = some (.aload_n 0) := by decide +kernel
theorem h79_44 : mfetch q79.2.1 44 = some (.getfield 100) := by decide +kernel
theorem h79_47 : mfetch q79.2.1 47 = some (.invokevirtual 206) := by decide +kernel
theorem h79_50 : mfetch q79.2.1 50 = some (.iconst 0) := by decide +kernel
theorem h79_51 : mfetch q79.2.1 51 = some (.istore 6) := by decide +kernel
theorem h79_53 : mfetch q79.2.1 53 = some (.iload 6) := by decide +kernel
theorem h79_55 : mfetch q79.2.1 55 = some (.bipush 24) := by decide +kernel
theorem h79_57 : mfetch q79.2.1 57 = some (.if_icmp .ge 84) := by decide +kernel
theorem h79_60 : mfetch q79.2.1 60 = some (.iload 6) := by decide +kernel
theorem h79_62 : mfetch q79.2.1 62 = some (.iconst 1) := by decide +kernel
theorem h79_63 : mfetch q79.2.1 63 = some (.iadd) := by decide +kernel
theorem h79_64 : mfetch q79.2.1 64 = some (.istore 7) := by decide +kernel
theorem h79_66 : mfetch q79.2.1 66 = some (.iload 7) := by decide +kernel
theorem h79_68 : mfetch q79.2.1 68 = some (.bipush 24) := by decide +kernel
theorem h79_70 : mfetch q79.2.1 70 = some (.if_icmp .ge 65) := by decide +kernel
theorem h79_73 : mfetch q79.2.1 73 = some (.aload_n 0) := by decide +kernel
theorem h79_74 : mfetch q79.2.1 74 = some (.getfield 100) := by decide +kernel
theorem h79_77 : mfetch q79.2.1 77 = some (.iload 6) := by decide +kernel
theorem h79_79 : mfetch q79.2.1 79 = some (.invokevirtual 131) := by decide +kernel
theorem h79_82 : mfetch q79.2.1 82 = some (.aload_n 0) := by decide +kernel
theorem h79_83 : mfetch q79.2.1 83 = some (.getfield 100) := by decide +kernel
theorem h79_86 : mfetch q79.2.1 86 = some (.iload 7) := by decide +kernel
theorem h79_88 : mfetch q79.2.1 88 = some (.invokevirtual 131) := by decide +kernel
theorem h79_91 : mfetch q79.2.1 91 = some (.if_icmp .ne 6) := by decide +kernel
theorem h79_94 : mfetch q79.2.1 94 = some (.goto 35) := by decide +kernel
theorem h79_97 : mfetch q79.2.1 97 = some (.aload_n 0) := by decide +kernel
theorem h79_98 : mfetch q79.2.1 98 = some (.aload_n 3) := by decide +kernel
theorem h79_99 : mfetch q79.2.1 99 = some (.iload 6) := by decide +kernel
theorem h79_101 : mfetch q79.2.1 101 = some (.iload 7) := by decide +kernel
theorem h79_103 : mfetch q79.2.1 103 = some (.invokevirtual 209) := by decide +kernel
theorem h79_106 : mfetch q79.2.1 106 = some (.istore 8) := by decide +kernel
theorem h79_108 : mfetch q79.2.1 108 = some (.iload 8) := by decide +kernel
theorem h79_110 : mfetch q79.2.1 110 = some (.iload 5) := by decide +kernel
theorem h79_112 : mfetch q79.2.1 112 = some (.if_icmp .ge 17) := by decide +kernel
theorem h79_115 : mfetch q79.2.1 115 = some (.iload 8) := by decide +kernel
theorem h79_117 : mfetch q79.2.1 117 = some (.istore 5) := by decide +kernel
theorem h79_119 : mfetch q79.2.1 119 = some (.bipush 100) := by decide +kernel
theorem h79_121 : mfetch q79.2.1 121 = some (.iload 6) := by decide +kernel
theorem h79_123 : mfetch q79.2.1 123 = some (.imul) := by decide +kernel
theorem h79_124 : mfetch q79.2.1 124 = some (.iload 7) := by decide +kernel
theorem h79_126 : mfetch q79.2.1 126 = some (.iadd) := by decide +kernel
theorem h79_127 : mfetch q79.2.1 127 = some (.istore 4) := by decide +kernel
theorem h79_129 : mfetch q79.2.1 129 = some (.iinc 7 1) := by decide +kernel
theorem h79_132 : mfetch q79.2.1 132 = some (.goto (-66)) := by decide +kernel
theorem h79_135 : mfetch q79.2.1 135 = some (.iinc 6 1) := by decide +kernel
theorem h79_138 : mfetch q79.2.1 138 = some (.goto (-85)) := by decide +kernel
theorem h79_141 : mfetch q79.2.1 141 = some (.iload_n 2) := by decide +kernel
theorem h79_142 : mfetch q79.2.1 142 = some (.ifCond .ne 8) := by decide +kernel
theorem h79_145 : mfetch q79.2.1 145 = some (.iload 4) := by decide +kernel
theorem h79_147 : mfetch q79.2.1 147 = some (.goto 5) := by decide +kernel
theorem h79_150 : mfetch q79.2.1 150 = some (.iload 5) := by decide +kernel
theorem h79_152 : mfetch q79.2.1 152 = some (.ireturn) := by decide +kernel
theorem E79_0 : (∀ (d : Nat) (l1 : Option Value) (l2 : Option Value) (l3 : Option Value) (l4 : Option Value) (l5 : Option Value) (l6 : Option Value) (l7 : Option Value) (l8 : Option Value) (x : Nat) (st : List Value) (h : MH) (P : MP), mFr d 79 0 [some (.ref x), l1, l2, l3, l4, l5, l6, l7, l8] st h P = mFr d 79 1 [some (.ref x), l1, l2, l3, l4, l5, l6, l7, l8] (.ref x :: st) h P) ∧
  (∀ (d : Nat) (loc : List (Option Value)) (a : Nat) (st : List Value) (h : MH) (P : MP), mFr d 79 1 loc (.ref a :: st) h P = pget h a 8 5 (fun v => mFr d 79 4 loc (v :: st) h P)) ∧
  (∀ (d : Nat) (l0 : Option Value) (l2 : Option Value) (l3 : Option Value) (l4 : Option Value) (l5 : Option Value) (l6 : Option Value) (l7 : Option Value) (l8 : Option Value) (x : Int32) (st : List Value) (h : MH) (P : MP), mFr d 79 4 [l0, some (.int x), l2, l3, l4, l5, l6, l7, l8] st h P = mFr d 79 5 [l0, some (.int x), l2, l3, l4, l5, l6, l7, l8] (.int x :: st) h P) ∧
  (∀ (d : Nat) (loc : List (Option Value)) (b : Nat) (a0 : Int32) (h : MH) (P : MP), mFr d 79 5 loc ((.int a0) :: .ref b :: []) h P = if mrcv h b 0 = true then mRun d 1 [.ref b, .int a0] h (fun v h' => mFr d 79 8 loc (v.toList ++ []) h' P) else False) ∧
  (∀ (d : Nat) (l0 : Option Value) (l1 : Option Value) (l2 : Option Value) (l3 : Option Value) (l4 : Option Value) (l5 : Option Value) (l6 : Option Value) (l7 : Option Value) (l8 : Option Value) (x : Nat) (st : List Value) (h : MH) (P : MP), mnl l2 = true → mFr d 79 8 [l0, l1, l2, l3, l4, l5, l6, l7, l8] (.ref x :: st) h P = mFr d 79 9 [l0, l1, l2, some (.ref x), l4, l5, l6, l7, l8] (st) h P) ∧
  (∀ (d : Nat) (l0 : Option Value) (l1 : Option Value) (l2 : Option Value) (l3 : Option Value) (l4 : Option Value) (l5 : Option Value) (l6 : Option Value) (l7 : Option Value) (l8 : Option Value) (st : List Value) (h : MH) (P : MP), mnl l2 = true → mFr d 79 8 [l0, l1, l2, l3, l4, l5, l6, l7, l8] (.null :: st) h P = mFr d 79 9 [l0, l1, l2, some .null, l4, l5, l6, l7, l8] (st) h P) ∧
  (∀ (d : Nat) (l0 : Option Value) (l1 : Option Value) (l2 : Option Value) (l4 : Option Value) (l5 : Option Value) (l6 : Option Value) (l7 : Option Value) (l8 : Option Value) (x : Nat) (st : List Value) (h : MH) (P : MP), mFr d 79 9 [l0, l1, l2, some (.ref x), l4, l5, l6, l7, l8] st h P = mFr d 79 10 [l0, l1, l2, some (.ref x), l4, l5, l6, l7, l8] (.ref x :: st) h P) ∧
  (∀ (d : Nat) (l0 : Option Value) (l1 : Option Value) (l2 : Option Value) (l4 : Option Value) (l5 : Option Value) (l6 : Option Value) (l7 : Option Value) (l8 : Option Value) (st : List Value) (h : MH) (P : MP), mFr d 79 9 [l0, l1, l2, some .null, l4, l5, l6, l7, l8] st h P = mFr d 79 10 [l0, l1, l2, some .null, l4, l5, l6, l7, l8] (.null :: st) h P) ∧
  (∀ (d : Nat) (loc : List (Option Value)) (x : Nat) (st : List Value) (h : MH) (P : MP), mFr d 79 10 loc (.ref x :: st) h P = if x < 900 then mFr d 79 13 loc (st) h P else False) ∧
  (∀ (d : Nat) (loc : List (Option Value)) (st : List Value) (h : MH) (P : MP), mFr d 79 10 loc (.null :: st) h P = mFr d 79 22 loc (st) h P) := ⟨fun _ _ _ _ _ _ _ _ _ _ _ _ _ => (mFr_S mq79 h79_0).trans rfl,
  fun _ _ _ _ _ _ => F_get mq79 h79_1 (Or.inl (rfl : _ = some (25, 0, 8, 5))),
  fun _ _ _ _ _ _ _ _ _ _ _ _ _ => (mFr_S mq79 h79_4).trans rfl,
  fun _ _ b a0 _ _ => F_callV (as := [.int a0]) (rest := []) mq79 (Or.inl h79_5) (rfl : _ = some (135, 6, 1, 1)) (Or.inl ⟨h79_5, by decide⟩) (by rfl) (by rfl) (by rfl) (Nat.le_of_ble_eq_true rfl),
  fun _ _ _ _ _ _ _ _ _ _ _ _ _ _ hm => (mFr_S mq79 h79_8).trans (by simp only [mgo.eq_1, mstep, mi1, ml1, mast, mst, mst2, mprev, List.length_cons, List.length_nil, List.getElem?_cons_succ, List.getElem?_cons_zero, hm]; rfl),
  fun _ _ _ _ _ _ _ _ _ _ _ _ _ hm => (mFr_S mq79 h79_8).trans (by simp only [mgo.eq_1, mstep, mi1, ml1, mast, mst, mst2, mprev, List.length_cons, List.length_nil, List.getElem?_cons_succ, List.getElem?_cons_zero, hm]; rfl),
  fun _ _ _ _ _ _ _ _ _ _ _ _ _ => (mFr_S mq79 h79_9).trans rfl,
  fun _ _ _ _ _ _ _ _ _ _ _ _ => (mFr_S mq79 h79_9).trans rfl,
  fun _ _ _ _ _ _ => F_ifnullR mq79 h79_10,
  fun _ _ _ _ _ => F_ifnullN 22 mq79 h79_10 (by decide)⟩
theorem E79_13 : (∀ (d : Nat) (l0 : Option Value) (l1 : Option Value) (l3 : Option Value) (l4 : Option Value) (l5 : Option Value) (l6 : Option Value) (l7 : Option Value) (l8 : Option Value) (x : Int32) (st : List Value) (h : MH) (P : MP), mFr d 79 13 [l0, l1, some (.int x), l3, l4, l5, l6, l7, l8] st h P = mFr d 79 14 [l0, l1, some (.int x), l3, l4, l5, l6, l7, l8] (.int x :: st) h P) ∧
  (∀ (d : Nat) (loc : List (Option Value)) (x : Int32) (st : List Value) (h : MH) (P : MP), mFr d 79 14 loc (.int x :: st) h P = if x < 0 then mFr d 79 22 loc (st) h P else mFr d 79 17 loc (st) h P) := ⟨fun _ _ _ _ _ _ _ _ _ _ _ _ _ => (mFr_S mq79 h79_13).trans rfl,
  fun _ _ _ _ _ _ => (F_ifz 22 mq79 h79_14 (by decide)).trans mif_lt⟩
theorem E79_17 : (∀ (d : Nat) (l0 : Option Value) (l1 : Option Value) (l3 : Option Value) (l4 : Option Value) (l5 : Option Value) (l6 : Option Value) (l7 : Option Value) (l8 : Option Value) (x : Int32) (st : List Value) (h : MH) (P : MP), mFr d 79 17 [l0, l1, some (.int x), l3, l4, l5, l6, l7, l8] st h P = mFr d 79 18 [l0, l1, some (.int x), l3, l4, l5, l6, l7, l8] (.int x :: st) h P) ∧
  (∀ (d : Nat) (loc : List (Option Value)) (st : List Value) (h : MH) (P : MP), mFr d 79 18 loc st h P = mFr d 79 19 loc (.int 1 :: st) h P) ∧
  (∀ (d : Nat) (loc : List (Option Value)) (x y : Int32) (st : List Value) (h : MH) (P : MP), mFr d 79 19 loc (.int y :: .int x :: st) h P = if y < x then mFr d 79 22 loc (st) h P else mFr d 79 25 loc (st) h P) := ⟨fun _ _ _ _ _ _ _ _ _ _ _ _ _ => (mFr_S mq79 h79_17).trans rfl,
  fun _ _ _ _ _ => (mFr_S mq79 h79_18).trans rfl,
  fun _ _ _ _ _ _ _ => (F_icmp 25 mq79 h79_19 (by decide)).trans mif_le⟩
theorem E79_22 : (∀ (d : Nat) (loc : List (Option Value)) (st : List Value) (h : MH) (P : MP), mFr d 79 22 loc st h P = mFr d 79 24 loc (.int (-2) :: st) h P) ∧
  (∀ (d : Nat) (loc : List (Option Value)) (x : Int32) (h : MH) (P : MP), mFr d 79 24 loc [.int x] h P = P (some (.int x)) h) := ⟨fun _ _ _ _ _ => (mFr_S mq79 h79_22).trans rfl,
  fun _ _ _ _ _ => F_ret mq79 h79_24 rfl rfl⟩
theorem E79_25 : (∀ (d : Nat) (loc : List (Option Value)) (st : List Value) (h : MH) (P : MP), mFr d 79 25 loc st h P = mFr d 79 26 loc (.int (-1) :: st) h P) ∧
  (∀ (d : Nat) (l0 : Option Value) (l1 : Option Value) (l2 : Option Value) (l3 : Option Value) (l4 : Option Value) (l5 : Option Value) (l6 : Option Value) (l7 : Option Value) (l8 : Option Value) (x : Int32) (st : List Value) (h : MH) (P : MP), mnl l3 = true → mFr d 79 26 [l0, l1, l2, l3, l4, l5, l6, l7, l8] (.int x :: st) h P = mFr d 79 28 [l0, l1, l2, l3, some (.int x), l5, l6, l7, l8] (st) h P) ∧
  (∀ (d : Nat) (l1 : Option Value) (l2 : Option Value) (l3 : Option Value) (l4 : Option Value) (l5 : Option Value) (l6 : Option Value) (l7 : Option Value) (l8 : Option Value) (x : Nat) (st : List Value) (h : MH) (P : MP), mFr d 79 28 [some (.ref x), l1, l2, l3, l4, l5, l6, l7, l8] st h P = mFr d 79 29 [some (.ref x), l1, l2, l3, l4, l5, l6, l7, l8] (.ref x :: st) h P) ∧
  (∀ (d : Nat) (l0 : Option Value) (l1 : Option Value) (l2 : Option Value) (l4 : Option Value) (l5 : Option Value) (l6 : Option Value) (l7 : Option Value) (l8 : Option Value) (x : Nat) (st : List Value) (h : MH) (P : MP), mFr d 79 29 [l0, l1, l2, some (.ref x), l4, l5, l6, l7, l8] st h P = mFr d 79 30 [l0, l1, l2, some (.ref x), l4, l5, l6, l7, l8] (.ref x :: st) h P) ∧
  (∀ (d : Nat) (l0 : Option Value) (l1 : Option Value) (l2 : Option Value) (l4 : Option Value) (l5 : Option Value) (l6 : Option Value) (l7 : Option Value) (l8 : Option Value) (st : List Value) (h : MH) (P : MP), mFr d 79 29 [l0, l1, l2, some .null, l4, l5, l6, l7, l8] st h P = mFr d 79 30 [l0, l1, l2, some .null, l4, l5, l6, l7, l8] (.null :: st) h P) ∧
  (∀ (d : Nat) (l1 : Option Value) (l2 : Option Value) (l3 : Option Value) (l4 : Option Value) (l5 : Option Value) (l6 : Option Value) (l7 : Option Value) (l8 : Option Value) (x : Nat) (st : List Value) (h : MH) (P : MP), mFr d 79 30 [some (.ref x), l1, l2, l3, l4, l5, l6, l7, l8] st h P = mFr d 79 31 [some (.ref x), l1, l2, l3, l4, l5, l6, l7, l8] (.ref x :: st) h P) ∧
  (∀ (d : Nat) (loc : List (Option Value)) (a : Nat) (st : List Value) (h : MH) (P : MP), mFr d 79 31 loc (.ref a :: st) h P = pget h a 8 4 (fun v => mFr d 79 34 loc (v :: st) h P)) ∧
  (∀ (d : Nat) (loc : List (Option Value)) (b : Nat) (a0 : Nat) (a1 : Nat) (h : MH) (P : MP), mFr d 79 34 loc ((.ref a1) :: (.ref a0) :: .ref b :: []) h P = if mrcv h b 8 = true then mRun d 75 [.ref b, .ref a0, .ref a1] h (fun v h' => mFr d 79 37 loc (v.toList ++ []) h' P) else False) ∧
  (∀ (d : Nat) (l0 : Option Value) (l1 : Option Value) (l2 : Option Value) (l3 : Option Value) (l4 : Option Value) (l5 : Option Value) (l6 : Option Value) (l7 : Option Value) (l8 : Option Value) (x : Int32) (st : List Value) (h : MH) (P : MP), mnl l4 = true → mFr d 79 37 [l0, l1, l2, l3, l4, l5, l6, l7, l8] (.int x :: st) h P = mFr d 79 39 [l0, l1, l2, l3, l4, some (.int x), l6, l7, l8] (st) h P) ∧
  (∀ (d : Nat) (l1 : Option Value) (l2 : Option Value) (l3 : Option Value) (l4 : Option Value) (l5 : Option Value) (l6 : Option Value) (l7 : Option Value) (l8 : Option Value) (x : Nat) (st : List Value) (h : MH) (P : MP), mFr d 79 39 [some (.ref x), l1, l2, l3, l4, l5, l6, l7, l8] st h P = mFr d 79 40 [some (.ref x), l1, l2, l3, l4, l5, l6, l7, l8] (.ref x :: st) h P) ∧
  (∀ (d : Nat) (loc : List (Option Value)) (a : Nat) (st : List Value) (h : MH) (P : MP), mFr d 79 40 loc (.ref a :: st) h P = pget h a 8 10 (fun v => mFr d 79 43 loc (v :: st) h P)) ∧
  (∀ (d : Nat) (l1 : Option Value) (l2 : Option Value) (l3 : Option Value) (l4 : Option Value) (l5 : Option Value) (l6 : Option Value) (l7 : Option Value) (l8 : Option Value) (x : Nat) (st : List Value) (h : MH) (P : MP), mFr d 79 43 [some (.ref x), l1, l2, l3, l4, l5, l6, l7, l8] st h P = mFr d 79 44 [some (.ref x), l1, l2, l3, l4, l5, l6, l7, l8] (.ref x :: st) h P) ∧
  (∀ (d : Nat) (loc : List (Option Value)) (a : Nat) (st : List Value) (h : MH) (P : MP), mFr d 79 44 loc (.ref a :: st) h P = pget h a 8 4 (fun v => mFr d 79 47 loc (v :: st) h P)) ∧
  (∀ (d : Nat) (loc : List (Option Value)) (b : Nat) (a0 : Nat) (h : MH) (P : MP), mFr d 79 47 loc ((.ref a0) :: .ref b :: []) h P = if mrcv h b 2 = true then mRun d 20 [.ref b, .ref a0] h (fun v h' => mFr d 79 50 loc (v.toList ++ []) h' P) else False) ∧
  (∀ (d : Nat) (loc : List (Option Value)) (st : List Value) (h : MH) (P : MP), mFr d 79 50 loc st h P = mFr d 79 51 loc (.int 0 :: st) h P) ∧
  (∀ (d : Nat) (l0 : Option Value) (l1 : Option Value) (l2 : Option Value) (l3 : Option Value) (l4 : Option Value) (l5 : Option Value) (l6 : Option Value) (l7 : Option Value) (l8 : Option Value) (x : Int32) (st : List Value) (h : MH) (P : MP), mnl l5 = true → mFr d 79 51 [l0, l1, l2, l3, l4, l5, l6, l7, l8] (.int x :: st) h P = mFr d 79 53 [l0, l1, l2, l3, l4, l5, some (.int x), l7, l8] (st) h P) := ⟨fun _ _ _ _ _ => (mFr_S mq79 h79_25).trans rfl,
  fun _ _ _ _ _ _ _ _ _ _ _ _ _ _ hm => (mFr_S mq79 h79_26).trans (by simp only [mgo.eq_1, mstep, mi1, ml1, mast, mst, mst2, mprev, List.length_cons, List.length_nil, List.getElem?_cons_succ, List.getElem?_cons_zero, hm]; rfl),
  fun _ _ _ _ _ _ _ _ _ _ _ _ _ => (mFr_S mq79 h79_28).trans rfl,
  fun _ _ _ _ _ _ _ _ _ _ _ _ _ => (mFr_S mq79 h79_29).trans rfl,
  fun _ _ _ _ _ _ _ _ _ _ _ _ => (mFr_S mq79 h79_29).trans rfl,
  fun _ _ _ _ _ _ _ _ _ _ _ _ _ => (mFr_S mq79 h79_30).trans rfl,
  fun _ _ _ _ _ _ => F_get mq79 h79_31 (Or.inl (rfl : _ = some (100, 0, 8, 4))),
  fun _ _ b a0 a1 _ _ => F_callV (as := [.ref a0, .ref a1]) (rest := []) mq79 (Or.inl h79_34) (rfl : _ = some (198, 6, 75, 0)) (Or.inl ⟨h79_34, by decide⟩) (by rfl) (by rfl) (by rfl) (Nat.le_of_ble_eq_true rfl),
  fun _ _ _ _ _ _ _ _ _ _ _ _ _ _ hm => (mFr_S mq79 h79_37).trans (by simp only [mgo.eq_1, mstep, mi1, ml1, mast, mst, mst2, mprev, List.length_cons, List.length_nil, List.getElem?_cons_succ, List.getElem?_cons_zero, hm]; rfl),
  fun _ _ _ _ _ _ _ _ _ _ _ _ _ => (mFr_S mq79 h79_39).trans rfl,
  fun _ _ _ _ _ _ => F_get mq79 h79_40 (Or.inl (rfl : _ = some (107, 0, 8, 10))),
  fun _ _ _ _ _ _ _ _ _ _ _ _ _ => (mFr_S mq79 h79_43).trans rfl,
  fun _ _ _ _ _ _ => F_get mq79 h79_44 (Or.inl (rfl : _ = some (100, 0, 8, 4))),
  fun _ _ b a0 _ _ => F_callV (as := [.ref a0]) (rest := []) mq79 (Or.inl h79_47) (rfl : _ = some (206, 6, 20, 1)) (Or.inl ⟨h79_47, by decide⟩) (by rfl) (by rfl) (by rfl) (Nat.le_of_ble_eq_true rfl),
  fun _ _ _ _ _ => (mFr_S mq79 h79_50).trans rfl,
  fun _ _ _ _ _ _ _ _ _ _ _ _ _ _ hm => (mFr_S mq79 h79_51).trans (by simp only [mgo.eq_1, mstep, mi1, ml1, mast, mst, mst2, mprev, List.length_cons, List.length_nil, List.getElem?_cons_succ, List.getElem?_cons_zero, hm]; rfl)⟩
theorem E79_53 : (∀ (d : Nat) (l0 : Option Value) (l1 : Option Value) (l2 : Option Value) (l3 : Option Value) (l4 : Option Value) (l5 : Option Value) (l7 : Option Value) (l8 : Option Value) (x : Int32) (st : List Value) (h : MH) (P : MP), mFr d 79 53 [l0, l1, l2, l3, l4, l5, some (.int x), l7, l8] st h P = mFr d 79 55 [l0, l1, l2, l3, l4, l5, some (.int x), l7, l8] (.int x :: st) h P) ∧
  (∀ (d : Nat) (loc : List (Option Value)) (st : List Value) (h : MH) (P : MP), mFr d 79 55 loc st h P = mFr d 79 57 loc (.int 24 :: st) h P) ∧
  (∀ (d : Nat) (loc : List (Option Value)) (x y : Int32) (st : List Value) (h : MH) (P : MP), mFr d 79 57 loc (.int y :: .int x :: st) h P = if x < y then mFr d 79 60 loc (st) h P else mFr d 79 141 loc (st) h P) := ⟨fun _ _ _ _ _ _ _ _ _ _ _ _ _ => (mFr_S mq79 h79_53).trans rfl,
  fun _ _ _ _ _ => (mFr_S mq79 h79_55).trans rfl,
  fun _ _ _ _ _ _ _ => (F_icmp 141 mq79 h79_57 (by decide)).trans mif_ge⟩
theorem E79_60 : (∀ (d : Nat) (l0 : Option Value) (l1 : Option Value) (l2 : Option Value) (l3 : Option Value) (l4 : Option Value) (l5 : Option Value) (l7 : Option Value) (l8 : Option Value) (x : Int32) (st : List Value) (h : MH) (P : MP), mFr d 79 60 [l0, l1, l2, l3, l4, l5, some (.int x), l7, l8] st h P = mFr d 79 62 [l0, l1, l2, l3, l4, l5, some (.int x), l7, l8] (.int x :: st) h P) ∧
  (∀ (d : Nat) (loc : List (Option Value)) (st : List Value) (h : MH) (P : MP), mFr d 79 62 loc st h P = mFr d 79 63 loc (.int 1 :: st) h P) ∧
  (∀ (d : Nat) (loc : List (Option Value)) (x y : Int32) (st : List Value) (h : MH) (P : MP), mFr d 79 63 loc (.int y :: .int x :: st) h P = mFr d 79 64 loc (.int (x + y) :: st) h P) ∧
  (∀ (d : Nat) (l0 : Option Value) (l1 : Option Value) (l2 : Option Value) (l3 : Option Value) (l4 : Option Value) (l5 : Option Value) (l6 : Option Value) (l7 : Option Value) (l8 : Option Value) (x : Int32) (st : List Value) (h : MH) (P : MP), mnl l6 = true → mFr d 79 64 [l0, l1, l2, l3, l4, l5, l6, l7, l8] (.int x :: st) h P = mFr d 79 66 [l0, l1, l2, l3, l4, l5, l6, some (.int x), l8] (st) h P) := ⟨fun _ _ _ _ _ _ _ _ _ _ _ _ _ => (mFr_S mq79 h79_60).trans rfl,
  fun _ _ _ _ _ => (mFr_S mq79 h79_62).trans rfl,
  fun _ _ _ _ _ _ _ => (mFr_S mq79 h79_63).trans rfl,
  fun _ _ _ _ _ _ _ _ _ _ _ _ _ _ hm => (mFr_S mq79 h79_64).trans (by simp only [mgo.eq_1, mstep, mi1, ml1, mast, mst, mst2, mprev, List.length_cons, List.length_nil, List.getElem?_cons_succ, List.getElem?_cons_zero, hm]; rfl)⟩
theorem E79_66 : (∀ (d : Nat) (l0 : Option Value) (l1 : Option Value) (l2 : Option Value) (l3 : Option Value) (l4 : Option Value) (l5 : Option Value) (l6 : Option Value) (l8 : Option Value) (x : Int32) (st : List Value) (h : MH) (P : MP), mFr d 79 66 [l0, l1, l2, l3, l4, l5, l6, some (.int x), l8] st h P = mFr d 79 68 [l0, l1, l2, l3, l4, l5, l6, some (.int x), l8] (.int x :: st) h P) ∧
  (∀ (d : Nat) (loc : List (Option Value)) (st : List Value) (h : MH) (P : MP), mFr d 79 68 loc st h P = mFr d 79 70 loc (.int 24 :: st) h P) ∧
  (∀ (d : Nat) (loc : List (Option Value)) (x y : Int32) (st : List Value) (h : MH) (P : MP), mFr d 79 70 loc (.int y :: .int x :: st) h P = if x < y then mFr d 79 73 loc (st) h P else mFr d 79 135 loc (st) h P) := ⟨fun _ _ _ _ _ _ _ _ _ _ _ _ _ => (mFr_S mq79 h79_66).trans rfl,
  fun _ _ _ _ _ => (mFr_S mq79 h79_68).trans rfl,
  fun _ _ _ _ _ _ _ => (F_icmp 135 mq79 h79_70 (by decide)).trans mif_ge⟩
theorem E79_73 : (∀ (d : Nat) (l1 : Option Value) (l2 : Option Value) (l3 : Option Value) (l4 : Option Value) (l5 : Option Value) (l6 : Option Value) (l7 : Option Value) (l8 : Option Value) (x : Nat) (st : List Value) (h : MH) (P : MP), mFr d 79 73 [some (.ref x), l1, l2, l3, l4, l5, l6, l7, l8] st h P = mFr d 79 74 [some (.ref x), l1, l2, l3, l4, l5, l6, l7, l8] (.ref x :: st) h P) ∧
  (∀ (d : Nat) (loc : List (Option Value)) (a : Nat) (st : List Value) (h : MH) (P : MP), mFr d 79 74 loc (.ref a :: st) h P = pget h a 8 4 (fun v => mFr d 79 77 loc (v :: st) h P)) ∧
  (∀ (d : Nat) (l0 : Option Value) (l1 : Option Value) (l2 : Option Value) (l3 : Option Value) (l4 : Option Value) (l5 : Option Value) (l7 : Option Value) (l8 : Option Value) (x : Int32) (st : List Value) (h : MH) (P : MP), mFr d 79 77 [l0, l1, l2, l3, l4, l5, some (.int x), l7, l8] st h P = mFr d 79 79 [l0, l1, l2, l3, l4, l5, some (.int x), l7, l8] (.int x :: st) h P) ∧
  (∀ (d : Nat) (loc : List (Option Value)) (b : Nat) (a0 : Int32) (h : MH) (P : MP), mFr d 79 79 loc ((.int a0) :: .ref b :: []) h P = if mrcv h b 2 = true then mRun d 17 [.ref b, .int a0] h (fun v h' => mFr d 79 82 loc (v.toList ++ []) h' P) else False) ∧
  (∀ (d : Nat) (l1 : Option Value) (l2 : Option Value) (l3 : Option Value) (l4 : Option Value) (l5 : Option Value) (l6 : Option Value) (l7 : Option Value) (l8 : Option Value) (x : Nat) (st : List Value) (h : MH) (P : MP), mFr d 79 82 [some (.ref x), l1, l2, l3, l4, l5, l6, l7, l8] st h P = mFr d 79 83 [some (.ref x), l1, l2, l3, l4, l5, l6, l7, l8] (.ref x :: st) h P) ∧
  (∀ (d : Nat) (loc : List (Option Value)) (a : Nat) (st : List Value) (h : MH) (P : MP), mFr d 79 83 loc (.ref a :: st) h P = pget h a 8 4 (fun v => mFr d 79 86 loc (v :: st) h P)) ∧
  (∀ (d : Nat) (l0 : Option Value) (l1 : Option Value) (l2 : Option Value) (l3 : Option Value) (l4 : Option Value) (l5 : Option Value) (l6 : Option Value) (l8 : Option Value) (x : Int32) (st : List Value) (h : MH) (P : MP), mFr d 79 86 [l0, l1, l2, l3, l4, l5, l6, some (.int x), l8] st h P = mFr d 79 88 [l0, l1, l2, l3, l4, l5, l6, some (.int x), l8] (.int x :: st) h P) ∧
  (∀ (d : Nat) (loc : List (Option Value)) (b : Nat) (a0 : Int32) (s0 : Int32) (h : MH) (P : MP), mFr d 79 88 loc ((.int a0) :: .ref b :: [.int s0]) h P = if mrcv h b 2 = true then mRun d 17 [.ref b, .int a0] h (fun v h' => mFr d 79 91 loc (v.toList ++ [.int s0]) h' P) else False) ∧
  (∀ (d : Nat) (loc : List (Option Value)) (x y : Int32) (st : List Value) (h : MH) (P : MP), mFr d 79 91 loc (.int y :: .int x :: st) h P = if x = y then mFr d 79 94 loc (st) h P else mFr d 79 97 loc (st) h P) := ⟨fun _ _ _ _ _ _ _ _ _ _ _ _ _ => (mFr_S mq79 h79_73).trans rfl,
  fun _ _ _ _ _ _ => F_get mq79 h79_74 (Or.inl (rfl : _ = some (100, 0, 8, 4))),
  fun _ _ _ _ _ _ _ _ _ _ _ _ _ => (mFr_S mq79 h79_77).trans rfl,
  fun _ _ b a0 _ _ => F_callV (as := [.int a0]) (rest := []) mq79 (Or.inl h79_79) (rfl : _ = some (131, 6, 17, 1)) (Or.inl ⟨h79_79, by decide⟩) (by rfl) (by rfl) (by rfl) (Nat.le_of_ble_eq_true rfl),
  fun _ _ _ _ _ _ _ _ _ _ _ _ _ => (mFr_S mq79 h79_82).trans rfl,
  fun _ _ _ _ _ _ => F_get mq79 h79_83 (Or.inl (rfl : _ = some (100, 0, 8, 4))),
  fun _ _ _ _ _ _ _ _ _ _ _ _ _ => (mFr_S mq79 h79_86).trans rfl,
  fun _ _ b a0 s0 _ _ => F_callV (as := [.int a0]) (rest := [.int s0]) mq79 (Or.inl h79_88) (rfl : _ = some (131, 6, 17, 1)) (Or.inl ⟨h79_88, by decide⟩) (by rfl) (by rfl) (by rfl) (Nat.le_of_ble_eq_true rfl),
  fun _ _ _ _ _ _ _ => (F_icmp 97 mq79 h79_91 (by decide)).trans mif_ne⟩
theorem E79_94 : (∀ (d : Nat) (loc : List (Option Value)) (st : List Value) (h : MH) (P : MP), mFr d 79 94 loc st h P = mFr d 79 129 loc (st) h P) := fun _ _ _ _ _ => F_goto 129 mq79 h79_94 (by decide)
theorem E79_97 : (∀ (d : Nat) (l1 : Option Value) (l2 : Option Value) (l3 : Option Value) (l4 : Option Value) (l5 : Option Value) (l6 : Option Value) (l7 : Option Value) (l8 : Option Value) (x : Nat) (st : List Value) (h : MH) (P : MP), mFr d 79 97 [some (.ref x), l1, l2, l3, l4, l5, l6, l7, l8] st h P = mFr d 79 98 [some (.ref x), l1, l2, l3, l4, l5, l6, l7, l8] (.ref x :: st) h P) ∧
  (∀ (d : Nat) (l0 : Option Value) (l1 : Option Value) (l2 : Option Value) (l4 : Option Value) (l5 : Option Value) (l6 : Option Value) (l7 : Option Value) (l8 : Option Value) (x : Nat) (st : List Value) (h : MH) (P : MP), mFr d 79 98 [l0, l1, l2, some (.ref x), l4, l5, l6, l7, l8] st h P = mFr d 79 99 [l0, l1, l2, some (.ref x), l4, l5, l6, l7, l8] (.ref x :: st) h P) ∧
  (∀ (d : Nat) (l0 : Option Value) (l1 : Option Value) (l2 : Option Value) (l4 : Option Value) (l5 : Option Value) (l6 : Option Value) (l7 : Option Value) (l8 : Option Value) (st : List Value) (h : MH) (P : MP), mFr d 79 98 [l0, l1, l2, some .null, l4, l5, l6, l7, l8] st h P = mFr d 79 99 [l0, l1, l2, some .null, l4, l5, l6, l7, l8] (.null :: st) h P) ∧
  (∀ (d : Nat) (l0 : Option Value) (l1 : Option Value) (l2 : Option Value) (l3 : Option Value) (l4 : Option Value) (l5 : Option Value) (l7 : Option Value) (l8 : Option Value) (x : Int32) (st : List Value) (h : MH) (P : MP), mFr d 79 99 [l0, l1, l2, l3, l4, l5, some (.int x), l7, l8] st h P = mFr d 79 101 [l0, l1, l2, l3, l4, l5, some (.int x), l7, l8] (.int x :: st) h P) ∧
  (∀ (d : Nat) (l0 : Option Value) (l1 : Option Value) (l2 : Option Value) (l3 : Option Value) (l4 : Option Value) (l5 : Option Value) (l6 : Option Value) (l8 : Option Value) (x : Int32) (st : List Value) (h : MH) (P : MP), mFr d 79 101 [l0, l1, l2, l3, l4, l5, l6, some (.int x), l8] st h P = mFr d 79 103 [l0, l1, l2, l3, l4, l5, l6, some (.int x), l8] (.int x :: st) h P) ∧
  (∀ (d : Nat) (loc : List (Option Value)) (b : Nat) (a0 : Nat) (a1 : Int32) (a2 : Int32) (h : MH) (P : MP), mFr d 79 103 loc ((.int a2) :: (.int a1) :: (.ref a0) :: .ref b :: []) h P = if mrcv h b 8 = true then mRun d 80 [.ref b, .ref a0, .int a1, .int a2] h (fun v h' => mFr d 79 106 loc (v.toList ++ []) h' P) else False) ∧
  (∀ (d : Nat) (l0 : Option Value) (l1 : Option Value) (l2 : Option Value) (l3 : Option Value) (l4 : Option Value) (l5 : Option Value) (l6 : Option Value) (l7 : Option Value) (l8 : Option Value) (x : Int32) (st : List Value) (h : MH) (P : MP), mnl l7 = true → mFr d 79 106 [l0, l1, l2, l3, l4, l5, l6, l7, l8] (.int x :: st) h P = mFr d 79 108 [l0, l1, l2, l3, l4, l5, l6, l7, some (.int x)] (st) h P) ∧
  (∀ (d : Nat) (l0 : Option Value) (l1 : Option Value) (l2 : Option Value) (l3 : Option Value) (l4 : Option Value) (l5 : Option Value) (l6 : Option Value) (l7 : Option Value) (x : Int32) (st : List Value) (h : MH) (P : MP), mFr d 79 108 [l0, l1, l2, l3, l4, l5, l6, l7, some (.int x)] st h P = mFr d 79 110 [l0, l1, l2, l3, l4, l5, l6, l7, some (.int x)] (.int x :: st) h P) ∧
  (∀ (d : Nat) (l0 : Option Value) (l1 : Option Value) (l2 : Option Value) (l3 : Option Value) (l4 : Option Value) (l6 : Option Value) (l7 : Option Value) (l8 : Option Value) (x : Int32) (st : List Value) (h : MH) (P : MP), mFr d 79 110 [l0, l1, l2, l3, l4, some (.int x), l6, l7, l8] st h P = mFr d 79 112 [l0, l1, l2, l3, l4, some (.int x), l6, l7, l8] (.int x :: st) h P) ∧
  (∀ (d : Nat) (loc : List (Option Value)) (x y : Int32) (st : List Value) (h : MH) (P : MP), mFr d 79 112 loc (.int y :: .int x :: st) h P = if x < y then mFr d 79 115 loc (st) h P else mFr d 79 129 loc (st) h P) := ⟨fun _ _ _ _ _ _ _ _ _ _ _ _ _ => (mFr_S mq79 h79_97).trans rfl,
  fun _ _ _ _ _ _ _ _ _ _ _ _ _ => (mFr_S mq79 h79_98).trans rfl,
  fun _ _ _ _ _ _ _ _ _ _ _ _ => (mFr_S mq79 h79_98).trans rfl,
  fun _ _ _ _ _ _ _ _ _ _ _ _ _ => (mFr_S mq79 h79_99).trans rfl,
  fun _ _ _ _ _ _ _ _ _ _ _ _ _ => (mFr_S mq79 h79_101).trans rfl,
  fun _ _ b a0 a1 a2 _ _ => F_callV (as := [.ref a0, .int a1, .int a2]) (rest := []) mq79 (Or.inl h79_103) (rfl : _ = some (209, 6, 80, 0)) (Or.inl ⟨h79_103, by decide⟩) (by rfl) (by rfl) (by rfl) (Nat.le_of_ble_eq_true rfl),
  fun _ _ _ _ _ _ _ _ _ _ _ _ _ _ hm => (mFr_S mq79 h79_106).trans (by simp only [mgo.eq_1, mstep, mi1, ml1, mast, mst, mst2, mprev, List.length_cons, List.length_nil, List.getElem?_cons_succ, List.getElem?_cons_zero, hm]; rfl),
  fun _ _ _ _ _ _ _ _ _ _ _ _ _ => (mFr_S mq79 h79_108).trans rfl,
  fun _ _ _ _ _ _ _ _ _ _ _ _ _ => (mFr_S mq79 h79_110).trans rfl,
  fun _ _ _ _ _ _ _ => (F_icmp 129 mq79 h79_112 (by decide)).trans mif_ge⟩
theorem E79_115 : (∀ (d : Nat) (l0 : Option Value) (l1 : Option Value) (l2 : Option Value) (l3 : Option Value) (l4 : Option Value) (l5 : Option Value) (l6 : Option Value) (l7 : Option Value) (x : Int32) (st : List Value) (h : MH) (P : MP), mFr d 79 115 [l0, l1, l2, l3, l4, l5, l6, l7, some (.int x)] st h P = mFr d 79 117 [l0, l1, l2, l3, l4, l5, l6, l7, some (.int x)] (.int x :: st) h P) ∧
  (∀ (d : Nat) (l0 : Option Value) (l1 : Option Value) (l2 : Option Value) (l3 : Option Value) (l4 : Option Value) (l5 : Option Value) (l6 : Option Value) (l7 : Option Value) (l8 : Option Value) (x : Int32) (st : List Value) (h : MH) (P : MP), mnl l4 = true → mFr d 79 117 [l0, l1, l2, l3, l4, l5, l6, l7, l8] (.int x :: st) h P = mFr d 79 119 [l0, l1, l2, l3, l4, some (.int x), l6, l7, l8] (st) h P) ∧
  (∀ (d : Nat) (loc : List (Option Value)) (st : List Value) (h : MH) (P : MP), mFr d 79 119 loc st h P = mFr d 79 121 loc (.int 100 :: st) h P) ∧
  (∀ (d : Nat) (l0 : Option Value) (l1 : Option Value) (l2 : Option Value) (l3 : Option Value) (l4 : Option Value) (l5 : Option Value) (l7 : Option Value) (l8 : Option Value) (x : Int32) (st : List Value) (h : MH) (P : MP), mFr d 79 121 [l0, l1, l2, l3, l4, l5, some (.int x), l7, l8] st h P = mFr d 79 123 [l0, l1, l2, l3, l4, l5, some (.int x), l7, l8] (.int x :: st) h P) ∧
  (∀ (d : Nat) (loc : List (Option Value)) (x y : Int32) (st : List Value) (h : MH) (P : MP), mFr d 79 123 loc (.int y :: .int x :: st) h P = mFr d 79 124 loc (.int (x * y) :: st) h P) ∧
  (∀ (d : Nat) (l0 : Option Value) (l1 : Option Value) (l2 : Option Value) (l3 : Option Value) (l4 : Option Value) (l5 : Option Value) (l6 : Option Value) (l8 : Option Value) (x : Int32) (st : List Value) (h : MH) (P : MP), mFr d 79 124 [l0, l1, l2, l3, l4, l5, l6, some (.int x), l8] st h P = mFr d 79 126 [l0, l1, l2, l3, l4, l5, l6, some (.int x), l8] (.int x :: st) h P) ∧
  (∀ (d : Nat) (loc : List (Option Value)) (x y : Int32) (st : List Value) (h : MH) (P : MP), mFr d 79 126 loc (.int y :: .int x :: st) h P = mFr d 79 127 loc (.int (x + y) :: st) h P) ∧
  (∀ (d : Nat) (l0 : Option Value) (l1 : Option Value) (l2 : Option Value) (l3 : Option Value) (l4 : Option Value) (l5 : Option Value) (l6 : Option Value) (l7 : Option Value) (l8 : Option Value) (x : Int32) (st : List Value) (h : MH) (P : MP), mnl l3 = true → mFr d 79 127 [l0, l1, l2, l3, l4, l5, l6, l7, l8] (.int x :: st) h P = mFr d 79 129 [l0, l1, l2, l3, some (.int x), l5, l6, l7, l8] (st) h P) := ⟨fun _ _ _ _ _ _ _ _ _ _ _ _ _ => (mFr_S mq79 h79_115).trans rfl,
  fun _ _ _ _ _ _ _ _ _ _ _ _ _ _ hm => (mFr_S mq79 h79_117).trans (by simp only [mgo.eq_1, mstep, mi1, ml1, mast, mst, mst2, mprev, List.length_cons, List.length_nil, List.getElem?_cons_succ, List.getElem?_cons_zero, hm]; rfl),
  fun _ _ _ _ _ => (mFr_S mq79 h79_119).trans rfl,
  fun _ _ _ _ _ _ _ _ _ _ _ _ _ => (mFr_S mq79 h79_121).trans rfl,
  fun _ _ _ _ _ _ _ => (mFr_S mq79 h79_123).trans rfl,
  fun _ _ _ _ _ _ _ _ _ _ _ _ _ => (mFr_S mq79 h79_124).trans rfl,
  fun _ _ _ _ _ _ _ => (mFr_S mq79 h79_126).trans rfl,
  fun _ _ _ _ _ _ _ _ _ _ _ _ _ _ hm => (mFr_S mq79 h79_127).trans (by simp only [mgo.eq_1, mstep, mi1, ml1, mast, mst, mst2, mprev, List.length_cons, List.length_nil, List.getElem?_cons_succ, List.getElem?_cons_zero, hm]; rfl)⟩
theorem E79_129 : (∀ (d : Nat) (l0 : Option Value) (l1 : Option Value) (l2 : Option Value) (l3 : Option Value) (l4 : Option Value) (l5 : Option Value) (l6 : Option Value) (l8 : Option Value) (x : Int32) (st : List Value) (h : MH) (P : MP), mnl l6 = true → mFr d 79 129 [l0, l1, l2, l3, l4, l5, l6, some (.int x), l8] st h P = mFr d 79 132 [l0, l1, l2, l3, l4, l5, l6, some (.int (x + 1)), l8] (st) h P) ∧
  (∀ (d : Nat) (loc : List (Option Value)) (st : List Value) (h : MH) (P : MP), mFr d 79 132 loc st h P = mFr d 79 66 loc (st) h P) := ⟨fun _ _ _ _ _ _ _ _ _ _ _ _ _ hm => (mFr_S mq79 h79_129).trans (by simp only [mgo.eq_1, mstep, mld, mst, mprev, List.length_cons, List.length_nil, List.getElem?_cons_succ, List.getElem?_cons_zero, hm]; rfl),
  fun _ _ _ _ _ => F_goto 66 mq79 h79_132 (by decide)⟩
theorem E79_135 : (∀ (d : Nat) (l0 : Option Value) (l1 : Option Value) (l2 : Option Value) (l3 : Option Value) (l4 : Option Value) (l5 : Option Value) (l7 : Option Value) (l8 : Option Value) (x : Int32) (st : List Value) (h : MH) (P : MP), mnl l5 = true → mFr d 79 135 [l0, l1, l2, l3, l4, l5, some (.int x), l7, l8] st h P = mFr d 79 138 [l0, l1, l2, l3, l4, l5, some (.int (x + 1)), l7, l8] (st) h P) ∧
  (∀ (d : Nat) (loc : List (Option Value)) (st : List Value) (h : MH) (P : MP), mFr d 79 138 loc st h P = mFr d 79 53 loc (st) h P) := ⟨fun _ _ _ _ _ _ _ _ _ _ _ _ _ hm => (mFr_S mq79 h79_135).trans (by simp only [mgo.eq_1, mstep, mld, mst, mprev, List.length_cons, List.length_nil, List.getElem?_cons_succ, List.getElem?_cons_zero, hm]; rfl),
  fun _ _ _ _ _ => F_goto 53 mq79 h79_138 (by decide)⟩
theorem E79_141 : (∀ (d : Nat) (l0 : Option Value) (l1 : Option Value) (l3 : Option Value) (l4 : Option Value) (l5 : Option Value) (l6 : Option Value) (l7 : Option Value) (l8 : Option Value) (x : Int32) (st : List Value) (h : MH) (P : MP), mFr d 79 141 [l0, l1, some (.int x), l3, l4, l5, l6, l7, l8] st h P = mFr d 79 142 [l0, l1, some (.int x), l3, l4, l5, l6, l7, l8] (.int x :: st) h P) ∧
  (∀ (d : Nat) (loc : List (Option Value)) (x : Int32) (st : List Value) (h : MH) (P : MP), mFr d 79 142 loc (.int x :: st) h P = if x = 0 then mFr d 79 145 loc (st) h P else mFr d 79 150 loc (st) h P) := ⟨fun _ _ _ _ _ _ _ _ _ _ _ _ _ => (mFr_S mq79 h79_141).trans rfl,
  fun _ _ _ _ _ _ => (F_ifz 150 mq79 h79_142 (by decide)).trans mif_ne⟩
theorem E79_145 : (∀ (d : Nat) (l0 : Option Value) (l1 : Option Value) (l2 : Option Value) (l3 : Option Value) (l5 : Option Value) (l6 : Option Value) (l7 : Option Value) (l8 : Option Value) (x : Int32) (st : List Value) (h : MH) (P : MP), mFr d 79 145 [l0, l1, l2, l3, some (.int x), l5, l6, l7, l8] st h P = mFr d 79 147 [l0, l1, l2, l3, some (.int x), l5, l6, l7, l8] (.int x :: st) h P) ∧
  (∀ (d : Nat) (loc : List (Option Value)) (st : List Value) (h : MH) (P : MP), mFr d 79 147 loc st h P = mFr d 79 152 loc (st) h P) := ⟨fun _ _ _ _ _ _ _ _ _ _ _ _ _ => (mFr_S mq79 h79_145).trans rfl,
  fun _ _ _ _ _ => F_goto 152 mq79 h79_147 (by decide)⟩
theorem E79_150 : (∀ (d : Nat) (l0 : Option Value) (l1 : Option Value) (l2 : Option Value) (l3 : Option Value) (l4 : Option Value) (l6 : Option Value) (l7 : Option Value) (l8 : Option Value) (x : Int32) (st : List Value) (h : MH) (P : MP), mFr d 79 150 [l0, l1, l2, l3, l4, some (.int x), l6, l7, l8] st h P = mFr d 79 152 [l0, l1, l2, l3, l4, some (.int x), l6, l7, l8] (.int x :: st) h P) := fun _ _ _ _ _ _ _ _ _ _ _ _ _ => (mFr_S mq79 h79_150).trans rfl
theorem E79_152 : (∀ (d : Nat) (loc : List (Option Value)) (x : Int32) (h : MH) (P : MP), mFr d 79 152 loc [.int x] h P = P (some (.int x)) h) := fun _ _ _ _ _ => F_ret mq79 h79_152 rfl rfl
theorem B79 : ∀ (d : Nat) (b : Nat) (a0 : Int32) (a1 : Int32) (h : MH) (P : MP), mRun (d + 1) 79 [.ref b, .int a0, .int a1] h P = mFr d 79 0 [some (.ref b), some (.int a0), some (.int a1), none, none, none, none, none, none] [] h P := fun _ _ _ _ _ _ => mRun_S mq79 (Nat.le_of_ble_eq_true rfl)
-- 80: PuncturesAreViews.stepsHomeChanged(LPuncturesAreViews$Rider;II)I
def q80 : MI := (yX8_stepsHomeChanged, cX8_stepsHomeChanged, 5, (some .int), 8, 3)
theorem mq80 : mtab[80]? = some q80 := rfl
theorem h80_0 : mfetch q80.2.1 0 = some (.aload_n 0) := by decide +kernel
theorem h80_1 : mfetch q80.2.1 1 = some (.getfield 107) := by decide +kernel
theorem h80_4 : mfetch q80.2.1 4 = some (.iload_n 2) := by decide +kernel
theorem h80_5 : mfetch q80.2.1 5 = some (.aload_n 0) := by decide +kernel
theorem h80_6 : mfetch q80.2.1 6 = some (.getfield 100) := by decide +kernel
theorem h80_9 : mfetch q80.2.1 9 = some (.iload_n 3) := by decide +kernel
theorem h80_10 : mfetch q80.2.1 10 = some (.invokevirtual 131) := by decide +kernel
theorem h80_13 : mfetch q80.2.1 13 = some (.invokevirtual 167) := by decide +kernel
theorem h80_16 : mfetch q80.2.1 16 = some (.aload_n 0) := by decide +kernel
theorem h80_17 : mfetch q80.2.1 17 = some (.getfield 107) := by decide +kernel
theorem h80_20 : mfetch q80.2.1 20 = some (.iload_n 3) := by decide +kernel
theorem h80_21 : mfetch q80.2.1 21 = some (.aload_n 0) := by decide +kernel
theorem h80_22 : mfetch q80.2.1 22 = some (.getfield 100) := by decide +kernel
theorem h80_25 : mfetch q80.2.1 25 = some (.iload_n 2) := by decide +kernel
theorem h80_26 : mfetch q80.2.1 26 = some (.invokevirtual 131) := by decide +kernel
theorem h80_29 : mfetch q80.2.1 29 = some (.invokevirtual 167) := by decide +kernel
theorem h80_32 : mfetch q80.2.1 32 = some (.aload_n 0) := by decide +kernel
theorem h80_33 : mfetch q80.2.1 33 = some (.aload_n 1) := by decide +kernel
theorem h80_34 : mfetch q80.2.1 34 = some (.aload_n 0) := by decide +kernel
theorem h80_35 : mfetch q80.2.1 35 = some (.getfield 107) := by decide +kernel
theorem h80_38 : mfetch q80.2.1 38 = some (.invokevirtual 198) := by decide +kernel
theorem h80_41 : mfetch q80.2.1 41 = some (.istore 4) := by decide +kernel
theorem h80_43 : mfetch q80.2.1 43 = some (.aload_n 0) := by decide +kernel
theorem h80_44 : mfetch q80.2.1 44 = some (.getfield 107) := by decide +kernel
theorem h80_47 : mfetch q80.2.1 47 = some (.iload_n 2) := by decide +kernel
theorem h80_48 : mfetch q80.2.1 48 = some (.aload_n 0) := by decide +kernel
theorem h80_49 : mfetch q80.2.1 49 = some (.getfield 100) := by decide +kernel
theorem h80_52 : mfetch q80.2.1 52 = some (.iload_n 2) := by decide +kernel
theorem h80_53 : mfetch q80.2.1 53 = some (.invokevirtual 131) := by decide +kernel
theorem h80_56 : mfetch q80.2.1 56 = some (.invokevirtual 167) := by decide +kernel
theorem h80_59 : mfetch q80.2.1 59 = some (.aload_n 0) := by decide +kernel
theorem h80_60 : mfetch q80.2.1 60 = some (.getfield 107) := by decide +kernel
theorem h80_63 : mfetch q80.2.1 63 = some (.iload_n 3) := by decide +kernel
theorem h80_64 : mfetch q80.2.1 64 = some (.aload_n 0) := by decide +kernel
theorem h80_65 : mfetch q80.2.1 65 = some (.getfield 100) := by decide +kernel
theorem h80_68 : mfetch q80.2.1 68 = some (.iload_n 3) := by decide +kernel
theorem h80_69 : mfetch q80.2.1 69 = some (.invokevirtual 131) := by decide +kernel
theorem h80_72 : mfetch q80.2.1 72 = some (.invokevirtual 167) := by decide +kernel
theorem h80_75 : mfetch q80.2.1 75 = some (.iload 4) := by decide +kernel
theorem h80_77 : mfetch q80.2.1 77 = some (.ireturn) := by decide +kernel
theorem E80_0 : (∀ (d : Nat) (l1 : Option Value) (l2 : Option Value) (l3 : Option Value) (l4 : Option Value) (x : Nat) (st : List Value) (h : MH) (P : MP), mFr d 80 0 [some (.ref x), l1, l2, l3, l4] st h P = mFr d 80 1 [some (.ref x), l1, l2, l3, l4] (.ref x :: st) h P) ∧
  (∀ (d : Nat) (loc : List (Option Value)) (a : Nat) (st : List Value) (h : MH) (P : MP), mFr d 80 1 loc (.ref a :: st) h P = pget h a 8 10 (fun v => mFr d 80 4 loc (v :: st) h P)) ∧
  (∀ (d : Nat) (l0 : Option Value) (l1 : Option Value) (l3 : Option Value) (l4 : Option Value) (x : Int32) (st : List Value) (h : MH) (P : MP), mFr d 80 4 [l0, l1, some (.int x), l3, l4] st h P = mFr d 80 5 [l0, l1, some (.int x), l3, l4] (.int x :: st) h P) ∧
  (∀ (d : Nat) (l1 : Option Value) (l2 : Option Value) (l3 : Option Value) (l4 : Option Value) (x : Nat) (st : List Value) (h : MH) (P : MP), mFr d 80 5 [some (.ref x), l1, l2, l3, l4] st h P = mFr d 80 6 [some (.ref x), l1, l2, l3, l4] (.ref x :: st) h P) ∧
  (∀ (d : Nat) (loc : List (Option Value)) (a : Nat) (st : List Value) (h : MH) (P : MP), mFr d 80 6 loc (.ref a :: st) h P = pget h a 8 4 (fun v => mFr d 80 9 loc (v :: st) h P)) ∧
  (∀ (d : Nat) (l0 : Option Value) (l1 : Option Value) (l2 : Option Value) (l4 : Option Value) (x : Int32) (st : List Value) (h : MH) (P : MP), mFr d 80 9 [l0, l1, l2, some (.int x), l4] st h P = mFr d 80 10 [l0, l1, l2, some (.int x), l4] (.int x :: st) h P) ∧
  (∀ (d : Nat) (loc : List (Option Value)) (b : Nat) (a0 : Int32) (s0 : Int32) (s1 : Nat) (h : MH) (P : MP), mFr d 80 10 loc ((.int a0) :: .ref b :: [.int s0, .ref s1]) h P = if mrcv h b 2 = true then mRun d 17 [.ref b, .int a0] h (fun v h' => mFr d 80 13 loc (v.toList ++ [.int s0, .ref s1]) h' P) else False) ∧
  (∀ (d : Nat) (loc : List (Option Value)) (b : Nat) (a0 : Int32) (a1 : Int32) (h : MH) (P : MP), mFr d 80 13 loc ((.int a1) :: (.int a0) :: .ref b :: []) h P = if mrcv h b 2 = true then mRun d 18 [.ref b, .int a0, .int a1] h (fun v h' => mFr d 80 16 loc (v.toList ++ []) h' P) else False) ∧
  (∀ (d : Nat) (l1 : Option Value) (l2 : Option Value) (l3 : Option Value) (l4 : Option Value) (x : Nat) (st : List Value) (h : MH) (P : MP), mFr d 80 16 [some (.ref x), l1, l2, l3, l4] st h P = mFr d 80 17 [some (.ref x), l1, l2, l3, l4] (.ref x :: st) h P) ∧
  (∀ (d : Nat) (loc : List (Option Value)) (a : Nat) (st : List Value) (h : MH) (P : MP), mFr d 80 17 loc (.ref a :: st) h P = pget h a 8 10 (fun v => mFr d 80 20 loc (v :: st) h P)) ∧
  (∀ (d : Nat) (l0 : Option Value) (l1 : Option Value) (l2 : Option Value) (l4 : Option Value) (x : Int32) (st : List Value) (h : MH) (P : MP), mFr d 80 20 [l0, l1, l2, some (.int x), l4] st h P = mFr d 80 21 [l0, l1, l2, some (.int x), l4] (.int x :: st) h P) ∧
  (∀ (d : Nat) (l1 : Option Value) (l2 : Option Value) (l3 : Option Value) (l4 : Option Value) (x : Nat) (st : List Value) (h : MH) (P : MP), mFr d 80 21 [some (.ref x), l1, l2, l3, l4] st h P = mFr d 80 22 [some (.ref x), l1, l2, l3, l4] (.ref x :: st) h P) ∧
  (∀ (d : Nat) (loc : List (Option Value)) (a : Nat) (st : List Value) (h : MH) (P : MP), mFr d 80 22 loc (.ref a :: st) h P = pget h a 8 4 (fun v => mFr d 80 25 loc (v :: st) h P)) ∧
  (∀ (d : Nat) (l0 : Option Value) (l1 : Option Value) (l3 : Option Value) (l4 : Option Value) (x : Int32) (st : List Value) (h : MH) (P : MP), mFr d 80 25 [l0, l1, some (.int x), l3, l4] st h P = mFr d 80 26 [l0, l1, some (.int x), l3, l4] (.int x :: st) h P) ∧
  (∀ (d : Nat) (loc : List (Option Value)) (b : Nat) (a0 : Int32) (s0 : Int32) (s1 : Nat) (h : MH) (P : MP), mFr d 80 26 loc ((.int a0) :: .ref b :: [.int s0, .ref s1]) h P = if mrcv h b 2 = true then mRun d 17 [.ref b, .int a0] h (fun v h' => mFr d 80 29 loc (v.toList ++ [.int s0, .ref s1]) h' P) else False) ∧
  (∀ (d : Nat) (loc : List (Option Value)) (b : Nat) (a0 : Int32) (a1 : Int32) (h : MH) (P : MP), mFr d 80 29 loc ((.int a1) :: (.int a0) :: .ref b :: []) h P = if mrcv h b 2 = true then mRun d 18 [.ref b, .int a0, .int a1] h (fun v h' => mFr d 80 32 loc (v.toList ++ []) h' P) else False) ∧
  (∀ (d : Nat) (l1 : Option Value) (l2 : Option Value) (l3 : Option Value) (l4 : Option Value) (x : Nat) (st : List Value) (h : MH) (P : MP), mFr d 80 32 [some (.ref x), l1, l2, l3, l4] st h P = mFr d 80 33 [some (.ref x), l1, l2, l3, l4] (.ref x :: st) h P) ∧
  (∀ (d : Nat) (l0 : Option Value) (l2 : Option Value) (l3 : Option Value) (l4 : Option Value) (x : Nat) (st : List Value) (h : MH) (P : MP), mFr d 80 33 [l0, some (.ref x), l2, l3, l4] st h P = mFr d 80 34 [l0, some (.ref x), l2, l3, l4] (.ref x :: st) h P) ∧
  (∀ (d : Nat) (l0 : Option Value) (l2 : Option Value) (l3 : Option Value) (l4 : Option Value) (st : List Value) (h : MH) (P : MP), mFr d 80 33 [l0, some .null, l2, l3, l4] st h P = mFr d 80 34 [l0, some .null, l2, l3, l4] (.null :: st) h P) ∧
  (∀ (d : Nat) (l1 : Option Value) (l2 : Option Value) (l3 : Option Value) (l4 : Option Value) (x : Nat) (st : List Value) (h : MH) (P : MP), mFr d 80 34 [some (.ref x), l1, l2, l3, l4] st h P = mFr d 80 35 [some (.ref x), l1, l2, l3, l4] (.ref x :: st) h P) ∧
  (∀ (d : Nat) (loc : List (Option Value)) (a : Nat) (st : List Value) (h : MH) (P : MP), mFr d 80 35 loc (.ref a :: st) h P = pget h a 8 10 (fun v => mFr d 80 38 loc (v :: st) h P)) ∧
  (∀ (d : Nat) (loc : List (Option Value)) (b : Nat) (a0 : Nat) (a1 : Nat) (h : MH) (P : MP), mFr d 80 38 loc ((.ref a1) :: (.ref a0) :: .ref b :: []) h P = if mrcv h b 8 = true then mRun d 75 [.ref b, .ref a0, .ref a1] h (fun v h' => mFr d 80 41 loc (v.toList ++ []) h' P) else False) ∧
  (∀ (d : Nat) (l0 : Option Value) (l1 : Option Value) (l2 : Option Value) (l3 : Option Value) (l4 : Option Value) (x : Int32) (st : List Value) (h : MH) (P : MP), mnl l3 = true → mFr d 80 41 [l0, l1, l2, l3, l4] (.int x :: st) h P = mFr d 80 43 [l0, l1, l2, l3, some (.int x)] (st) h P) ∧
  (∀ (d : Nat) (l1 : Option Value) (l2 : Option Value) (l3 : Option Value) (l4 : Option Value) (x : Nat) (st : List Value) (h : MH) (P : MP), mFr d 80 43 [some (.ref x), l1, l2, l3, l4] st h P = mFr d 80 44 [some (.ref x), l1, l2, l3, l4] (.ref x :: st) h P) ∧
  (∀ (d : Nat) (loc : List (Option Value)) (a : Nat) (st : List Value) (h : MH) (P : MP), mFr d 80 44 loc (.ref a :: st) h P = pget h a 8 10 (fun v => mFr d 80 47 loc (v :: st) h P)) ∧
  (∀ (d : Nat) (l0 : Option Value) (l1 : Option Value) (l3 : Option Value) (l4 : Option Value) (x : Int32) (st : List Value) (h : MH) (P : MP), mFr d 80 47 [l0, l1, some (.int x), l3, l4] st h P = mFr d 80 48 [l0, l1, some (.int x), l3, l4] (.int x :: st) h P) ∧
  (∀ (d : Nat) (l1 : Option Value) (l2 : Option Value) (l3 : Option Value) (l4 : Option Value) (x : Nat) (st : List Value) (h : MH) (P : MP), mFr d 80 48 [some (.ref x), l1, l2, l3, l4] st h P = mFr d 80 49 [some (.ref x), l1, l2, l3, l4] (.ref x :: st) h P) ∧
  (∀ (d : Nat) (loc : List (Option Value)) (a : Nat) (st : List Value) (h : MH) (P : MP), mFr d 80 49 loc (.ref a :: st) h P = pget h a 8 4 (fun v => mFr d 80 52 loc (v :: st) h P)) ∧
  (∀ (d : Nat) (l0 : Option Value) (l1 : Option Value) (l3 : Option Value) (l4 : Option Value) (x : Int32) (st : List Value) (h : MH) (P : MP), mFr d 80 52 [l0, l1, some (.int x), l3, l4] st h P = mFr d 80 53 [l0, l1, some (.int x), l3, l4] (.int x :: st) h P) ∧
  (∀ (d : Nat) (loc : List (Option Value)) (b : Nat) (a0 : Int32) (s0 : Int32) (s1 : Nat) (h : MH) (P : MP), mFr d 80 53 loc ((.int a0) :: .ref b :: [.int s0, .ref s1]) h P = if mrcv h b 2 = true then mRun d 17 [.ref b, .int a0] h (fun v h' => mFr d 80 56 loc (v.toList ++ [.int s0, .ref s1]) h' P) else False) ∧
  (∀ (d : Nat) (loc : List (Option Value)) (b : Nat) (a0 : Int32) (a1 : Int32) (h : MH) (P : MP), mFr d 80 56 loc ((.int a1) :: (.int a0) :: .ref b :: []) h P = if mrcv h b 2 = true then mRun d 18 [.ref b, .int a0, .int a1] h (fun v h' => mFr d 80 59 loc (v.toList ++ []) h' P) else False) ∧
  (∀ (d : Nat) (l1 : Option Value) (l2 : Option Value) (l3 : Option Value) (l4 : Option Value) (x : Nat) (st : List Value) (h : MH) (P : MP), mFr d 80 59 [some (.ref x), l1, l2, l3, l4] st h P = mFr d 80 60 [some (.ref x), l1, l2, l3, l4] (.ref x :: st) h P) ∧
  (∀ (d : Nat) (loc : List (Option Value)) (a : Nat) (st : List Value) (h : MH) (P : MP), mFr d 80 60 loc (.ref a :: st) h P = pget h a 8 10 (fun v => mFr d 80 63 loc (v :: st) h P)) ∧
  (∀ (d : Nat) (l0 : Option Value) (l1 : Option Value) (l2 : Option Value) (l4 : Option Value) (x : Int32) (st : List Value) (h : MH) (P : MP), mFr d 80 63 [l0, l1, l2, some (.int x), l4] st h P = mFr d 80 64 [l0, l1, l2, some (.int x), l4] (.int x :: st) h P) ∧
  (∀ (d : Nat) (l1 : Option Value) (l2 : Option Value) (l3 : Option Value) (l4 : Option Value) (x : Nat) (st : List Value) (h : MH) (P : MP), mFr d 80 64 [some (.ref x), l1, l2, l3, l4] st h P = mFr d 80 65 [some (.ref x), l1, l2, l3, l4] (.ref x :: st) h P) ∧
  (∀ (d : Nat) (loc : List (Option Value)) (a : Nat) (st : List Value) (h : MH) (P : MP), mFr d 80 65 loc (.ref a :: st) h P = pget h a 8 4 (fun v => mFr d 80 68 loc (v :: st) h P)) ∧
  (∀ (d : Nat) (l0 : Option Value) (l1 : Option Value) (l2 : Option Value) (l4 : Option Value) (x : Int32) (st : List Value) (h : MH) (P : MP), mFr d 80 68 [l0, l1, l2, some (.int x), l4] st h P = mFr d 80 69 [l0, l1, l2, some (.int x), l4] (.int x :: st) h P) ∧
  (∀ (d : Nat) (loc : List (Option Value)) (b : Nat) (a0 : Int32) (s0 : Int32) (s1 : Nat) (h : MH) (P : MP), mFr d 80 69 loc ((.int a0) :: .ref b :: [.int s0, .ref s1]) h P = if mrcv h b 2 = true then mRun d 17 [.ref b, .int a0] h (fun v h' => mFr d 80 72 loc (v.toList ++ [.int s0, .ref s1]) h' P) else False) ∧
  (∀ (d : Nat) (loc : List (Option Value)) (b : Nat) (a0 : Int32) (a1 : Int32) (h : MH) (P : MP), mFr d 80 72 loc ((.int a1) :: (.int a0) :: .ref b :: []) h P = if mrcv h b 2 = true then mRun d 18 [.ref b, .int a0, .int a1] h (fun v h' => mFr d 80 75 loc (v.toList ++ []) h' P) else False) ∧
  (∀ (d : Nat) (l0 : Option Value) (l1 : Option Value) (l2 : Option Value) (l3 : Option Value) (x : Int32) (st : List Value) (h : MH) (P : MP), mFr d 80 75 [l0, l1, l2, l3, some (.int x)] st h P = mFr d 80 77 [l0, l1, l2, l3, some (.int x)] (.int x :: st) h P) ∧
  (∀ (d : Nat) (loc : List (Option Value)) (x : Int32) (h : MH) (P : MP), mFr d 80 77 loc [.int x] h P = P (some (.int x)) h) := ⟨fun _ _ _ _ _ _ _ _ _ => (mFr_S mq80 h80_0).trans rfl,
  fun _ _ _ _ _ _ => F_get mq80 h80_1 (Or.inl (rfl : _ = some (107, 0, 8, 10))),
  fun _ _ _ _ _ _ _ _ _ => (mFr_S mq80 h80_4).trans rfl,
  fun _ _ _ _ _ _ _ _ _ => (mFr_S mq80 h80_5).trans rfl,
  fun _ _ _ _ _ _ => F_get mq80 h80_6 (Or.inl (rfl : _ = some (100, 0, 8, 4))),
  fun _ _ _ _ _ _ _ _ _ => (mFr_S mq80 h80_9).trans rfl,
  fun _ _ b a0 s0 s1 _ _ => F_callV (as := [.int a0]) (rest := [.int s0, .ref s1]) mq80 (Or.inl h80_10) (rfl : _ = some (131, 6, 17, 1)) (Or.inl ⟨h80_10, by decide⟩) (by rfl) (by rfl) (by rfl) (Nat.le_of_ble_eq_true rfl),
  fun _ _ b a0 a1 _ _ => F_callV (as := [.int a0, .int a1]) (rest := []) mq80 (Or.inl h80_13) (rfl : _ = some (167, 6, 18, 1)) (Or.inl ⟨h80_13, by decide⟩) (by rfl) (by rfl) (by rfl) (Nat.le_of_ble_eq_true rfl),
  fun _ _ _ _ _ _ _ _ _ => (mFr_S mq80 h80_16).trans rfl,
  fun _ _ _ _ _ _ => F_get mq80 h80_17 (Or.inl (rfl : _ = some (107, 0, 8, 10))),
  fun _ _ _ _ _ _ _ _ _ => (mFr_S mq80 h80_20).trans rfl,
  fun _ _ _ _ _ _ _ _ _ => (mFr_S mq80 h80_21).trans rfl,
  fun _ _ _ _ _ _ => F_get mq80 h80_22 (Or.inl (rfl : _ = some (100, 0, 8, 4))),
  fun _ _ _ _ _ _ _ _ _ => (mFr_S mq80 h80_25).trans rfl,
  fun _ _ b a0 s0 s1 _ _ => F_callV (as := [.int a0]) (rest := [.int s0, .ref s1]) mq80 (Or.inl h80_26) (rfl : _ = some (131, 6, 17, 1)) (Or.inl ⟨h80_26, by decide⟩) (by rfl) (by rfl) (by rfl) (Nat.le_of_ble_eq_true rfl),
  fun _ _ b a0 a1 _ _ => F_callV (as := [.int a0, .int a1]) (rest := []) mq80 (Or.inl h80_29) (rfl : _ = some (167, 6, 18, 1)) (Or.inl ⟨h80_29, by decide⟩) (by rfl) (by rfl) (by rfl) (Nat.le_of_ble_eq_true rfl),
  fun _ _ _ _ _ _ _ _ _ => (mFr_S mq80 h80_32).trans rfl,
  fun _ _ _ _ _ _ _ _ _ => (mFr_S mq80 h80_33).trans rfl,
  fun _ _ _ _ _ _ _ _ => (mFr_S mq80 h80_33).trans rfl,
  fun _ _ _ _ _ _ _ _ _ => (mFr_S mq80 h80_34).trans rfl,
  fun _ _ _ _ _ _ => F_get mq80 h80_35 (Or.inl (rfl : _ = some (107, 0, 8, 10))),
  fun _ _ b a0 a1 _ _ => F_callV (as := [.ref a0, .ref a1]) (rest := []) mq80 (Or.inl h80_38) (rfl : _ = some (198, 6, 75, 0)) (Or.inl ⟨h80_38, by decide⟩) (by rfl) (by rfl) (by rfl) (Nat.le_of_ble_eq_true rfl),
  fun _ _ _ _ _ _ _ _ _ _ hm => (mFr_S mq80 h80_41).trans (by simp only [mgo.eq_1, mstep, mi1, ml1, mast, mst, mst2, mprev, List.length_cons, List.length_nil, List.getElem?_cons_succ, List.getElem?_cons_zero, hm]; rfl),
  fun _ _ _ _ _ _ _ _ _ => (mFr_S mq80 h80_43).trans rfl,
  fun _ _ _ _ _ _ => F_get mq80 h80_44 (Or.inl (rfl : _ = some (107, 0, 8, 10))),
  fun _ _ _ _ _ _ _ _ _ => (mFr_S mq80 h80_47).trans rfl,
  fun _ _ _ _ _ _ _ _ _ => (mFr_S mq80 h80_48).trans rfl,
  fun _ _ _ _ _ _ => F_get mq80 h80_49 (Or.inl (rfl : _ = some (100, 0, 8, 4))),
  fun _ _ _ _ _ _ _ _ _ => (mFr_S mq80 h80_52).trans rfl,
  fun _ _ b a0 s0 s1 _ _ => F_callV (as := [.int a0]) (rest := [.int s0, .ref s1]) mq80 (Or.inl h80_53) (rfl : _ = some (131, 6, 17, 1)) (Or.inl ⟨h80_53, by decide⟩) (by rfl) (by rfl) (by rfl) (Nat.le_of_ble_eq_true rfl),
  fun _ _ b a0 a1 _ _ => F_callV (as := [.int a0, .int a1]) (rest := []) mq80 (Or.inl h80_56) (rfl : _ = some (167, 6, 18, 1)) (Or.inl ⟨h80_56, by decide⟩) (by rfl) (by rfl) (by rfl) (Nat.le_of_ble_eq_true rfl),
  fun _ _ _ _ _ _ _ _ _ => (mFr_S mq80 h80_59).trans rfl,
  fun _ _ _ _ _ _ => F_get mq80 h80_60 (Or.inl (rfl : _ = some (107, 0, 8, 10))),
  fun _ _ _ _ _ _ _ _ _ => (mFr_S mq80 h80_63).trans rfl,
  fun _ _ _ _ _ _ _ _ _ => (mFr_S mq80 h80_64).trans rfl,
  fun _ _ _ _ _ _ => F_get mq80 h80_65 (Or.inl (rfl : _ = some (100, 0, 8, 4))),
  fun _ _ _ _ _ _ _ _ _ => (mFr_S mq80 h80_68).trans rfl,
  fun _ _ b a0 s0 s1 _ _ => F_callV (as := [.int a0]) (rest := [.int s0, .ref s1]) mq80 (Or.inl h80_69) (rfl : _ = some (131, 6, 17, 1)) (Or.inl ⟨h80_69, by decide⟩) (by rfl) (by rfl) (by rfl) (Nat.le_of_ble_eq_true rfl),
  fun _ _ b a0 a1 _ _ => F_callV (as := [.int a0, .int a1]) (rest := []) mq80 (Or.inl h80_72) (rfl : _ = some (167, 6, 18, 1)) (Or.inl ⟨h80_72, by decide⟩) (by rfl) (by rfl) (by rfl) (Nat.le_of_ble_eq_true rfl),
  fun _ _ _ _ _ _ _ _ _ => (mFr_S mq80 h80_75).trans rfl,
  fun _ _ _ _ _ => F_ret mq80 h80_77 rfl rfl⟩
theorem B80 : ∀ (d : Nat) (b : Nat) (a0 : Nat) (a1 : Int32) (a2 : Int32) (h : MH) (P : MP), mRun (d + 1) 80 [.ref b, .ref a0, .int a1, .int a2] h P = mFr d 80 0 [some (.ref b), some (.ref a0), some (.int a1), some (.int a2), none] [] h P := fun _ _ _ _ _ _ _ => mRun_S mq80 (Nat.le_of_ble_eq_true rfl)
-- 81: PuncturesAreViews.bears(II)I loops at [51]
def q81 : MI := (yX8_bears, cX8_bears, 5, (some .int), 8, 2)
theorem mq81 : mtab[81]? = some q81 := rfl
theorem h81_0 : mfetch q81.2.1 0 = some (.aload_n 0) := by decide +kernel
theorem h81_1 : mfetch q81.2.1 1 = some (.getfield 25) := by decide +kernel
theorem h81_4 : mfetch q81.2.1 4 = some (.iload_n 1) := by decide +kernel
theorem h81_5 : mfetch q81.2.1 5 = some (.invokevirtual 135) := by decide +kernel
theorem h81_8 : mfetch q81.2.1 8 = some (.astore_n 3) := by decide +kernel
theorem h81_9 : mfetch q81.2.1 9 = some (.aload_n 3) := by decide +kernel
theorem h81_10 : mfetch q81.2.1 10 = some (.ifnull 13) := by decide +kernel
theorem h81_13 : mfetch q81.2.1 13 = some (.iload_n 2) := by decide +kernel
theorem h81_14 : mfetch q81.2.1 14 = some (.ifCond .lt 9) := by decide +kernel
theorem h81_17 : mfetch q81.2.1 17 = some (.iload_n 2) := by decide +kernel
theorem h81_18 : mfetch q81.2.1 18 = some (.bipush 24) := by decide +kernel
theorem h81_20 : mfetch q81.2.1 20 = some (.if_icmp .lt 6) := by decide +kernel
theorem h81_23 : mfetch q81.2.1 23 = some (.bipush (-2)) := by decide +kernel
theorem h81_25 : mfetch q81.2.1 25 = some (.ireturn) := by decide +kernel
theorem h81_26 : mfetch q81.2.1 26 = some (.iload_n 2) := by decide +kernel
theorem h81_27 : mfetch q81.2.1 27 = some (.aload_n 3) := by decide +kernel
theorem h81_28 : mfetch q81.2.1 28 = some (.getfield 145) := by decide +kernel
theorem h81_31 : mfetch q81.2.1 31 = some (.if_icmp .gt 5) := by decide +kernel
theorem h81_34 : mfetch q81.2.1 34 = some (.iconst (-1)) := by decide +kernel
theorem h81_35 : mfetch q81.2.1 35 = some (.ireturn) := by decide +kernel
theorem h81_36 : mfetch q81.2.1 36 = some (.aload_n 0) := by decide +kernel
theorem h81_37 : mfetch q81.2.1 37 = some (.getfield 107) := by decide +kernel
theorem h81_40 : mfetch q81.2.1 40 = some (.aload_n 0) := by decide +kernel
theorem h81_41 : mfetch q81.2.1 41 = some (.getfield 100) := by decide +kernel
theorem h81_44 : mfetch q81.2.1 44 = some (.invokevirtual 206) := by decide +kernel
theorem h81_47 : mfetch q81.2.1 47 = some (.bipush 9) := by decide +kernel
theorem h81_49 : mfetch q81.2.1 49 = some (.istore 4) := by decide +kernel
theorem h81_51 : mfetch q81.2.1 51 = some (.iload 4) := by decide +kernel
theorem h81_53 : mfetch q81.2.1 53 = some (.ifCond .lt 35) := by decide +kernel
theorem h81_56 : mfetch q81.2.1 56 = some (.aload_n 0) := by decide +kernel
theorem h81_57 : mfetch q81.2.1 57 = some (.getfield 107) := by decide +kernel
theorem h81_60 : mfetch q81.2.1 60 = some (.iload_n 2) := by decide +kernel
theorem h81_61 : mfetch q81.2.1 61 = some (.iload 4) := by decide +kernel
theorem h81_63 : mfetch q81.2.1 63 = some (.invokevirtual 167) := by decide +kernel
theorem h81_66 : mfetch q81.2.1 66 = some (.aload_n 0) := by decide +kernel
theorem h81_67 : mfetch q81.2.1 67 = some (.aload_n 3) := by decide +kernel
theorem h81_68 : mfetch q81.2.1 68 = some (.iload_n 2) := by decide +kernel
theorem h81_69 : mfetch q81.2.1 69 = some (.aload_n 0) := by decide +kernel
theorem h81_70 : mfetch q81.2.1 70 = some (.getfield 107) := by decide +kernel
theorem h81_73 : mfetch q81.2.1 73 = some (.invokevirtual 213) := by decide +kernel
theorem h81_76 : mfetch q81.2.1 76 = some (.ifCond .ne 6) := by decide +kernel
theorem h81_79 : mfetch q81.2.1 79 = some (.iload 4) := by decide +kernel
theorem h81_81 : mfetch q81.2.1 81 = some (.ireturn) := by decide +kernel
theorem h81_82 : mfetch q81.2.1 82 = some (.iinc 4 (-1)) := by decide +kernel
theorem h81_85 : mfetch q81.2.1 85 = some (.goto (-34)) := by decide +kernel
theorem h81_88 : mfetch q81.2.1 88 = some (.iconst (-1)) := by decide +kernel
theorem h81_89 : mfetch q81.2.1 89 = some (.ireturn) := by decide +kernel
theorem E81_0 : (∀ (d : Nat) (l1 : Option Value) (l2 : Option Value) (l3 : Option Value) (l4 : Option Value) (x : Nat) (st : List Value) (h : MH) (P : MP), mFr d 81 0 [some (.ref x), l1, l2, l3, l4] st h P = mFr d 81 1 [some (.ref x), l1, l2, l3, l4] (.ref x :: st) h P) ∧
  (∀ (d : Nat) (loc : List (Option Value)) (a : Nat) (st : List Value) (h : MH) (P : MP), mFr d 81 1 loc (.ref a :: st) h P = pget h a 8 5 (fun v => mFr d 81 4 loc (v :: st) h P)) ∧
  (∀ (d : Nat) (l0 : Option Value) (l2 : Option Value) (l3 : Option Value) (l4 : Option Value) (x : Int32) (st : List Value) (h : MH) (P : MP), mFr d 81 4 [l0, some (.int x), l2, l3, l4] st h P = mFr d 81 5 [l0, some (.int x), l2, l3, l4] (.int x :: st) h P) ∧
  (∀ (d : Nat) (loc : List (Option Value)) (b : Nat) (a0 : Int32) (h : MH) (P : MP), mFr d 81 5 loc ((.int a0) :: .ref b :: []) h P = if mrcv h b 0 = true then mRun d 1 [.ref b, .int a0] h (fun v h' => mFr d 81 8 loc (v.toList ++ []) h' P) else False) ∧
  (∀ (d : Nat) (l0 : Option Value) (l1 : Option Value) (l2 : Option Value) (l3 : Option Value) (l4 : Option Value) (x : Nat) (st : List Value) (h : MH) (P : MP), mnl l2 = true → mFr d 81 8 [l0, l1, l2, l3, l4] (.ref x :: st) h P = mFr d 81 9 [l0, l1, l2, some (.ref x), l4] (st) h P) ∧
  (∀ (d : Nat) (l0 : Option Value) (l1 : Option Value) (l2 : Option Value) (l3 : Option Value) (l4 : Option Value) (st : List Value) (h : MH) (P : MP), mnl l2 = true → mFr d 81 8 [l0, l1, l2, l3, l4] (.null :: st) h P = mFr d 81 9 [l0, l1, l2, some .null, l4] (st) h P) ∧
  (∀ (d : Nat) (l0 : Option Value) (l1 : Option Value) (l2 : Option Value) (l4 : Option Value) (x : Nat) (st : List Value) (h : MH) (P : MP), mFr d 81 9 [l0, l1, l2, some (.ref x), l4] st h P = mFr d 81 10 [l0, l1, l2, some (.ref x), l4] (.ref x :: st) h P) ∧
  (∀ (d : Nat) (l0 : Option Value) (l1 : Option Value) (l2 : Option Value) (l4 : Option Value) (st : List Value) (h : MH) (P : MP), mFr d 81 9 [l0, l1, l2, some .null, l4] st h P = mFr d 81 10 [l0, l1, l2, some .null, l4] (.null :: st) h P) ∧
  (∀ (d : Nat) (loc : List (Option Value)) (x : Nat) (st : List Value) (h : MH) (P : MP), mFr d 81 10 loc (.ref x :: st) h P = if x < 900 then mFr d 81 13 loc (st) h P else False) ∧
  (∀ (d : Nat) (loc : List (Option Value)) (st : List Value) (h : MH) (P : MP), mFr d 81 10 loc (.null :: st) h P = mFr d 81 23 loc (st) h P) := ⟨fun _ _ _ _ _ _ _ _ _ => (mFr_S mq81 h81_0).trans rfl,
  fun _ _ _ _ _ _ => F_get mq81 h81_1 (Or.inl (rfl : _ = some (25, 0, 8, 5))),
  fun _ _ _ _ _ _ _ _ _ => (mFr_S mq81 h81_4).trans rfl,
  fun _ _ b a0 _ _ => F_callV (as := [.int a0]) (rest := []) mq81 (Or.inl h81_5) (rfl : _ = some (135, 6, 1, 1)) (Or.inl ⟨h81_5, by decide⟩) (by rfl) (by rfl) (by rfl) (Nat.le_of_ble_eq_true rfl),
  fun _ _ _ _ _ _ _ _ _ _ hm => (mFr_S mq81 h81_8).trans (by simp only [mgo.eq_1, mstep, mi1, ml1, mast, mst, mst2, mprev, List.length_cons, List.length_nil, List.getElem?_cons_succ, List.getElem?_cons_zero, hm]; rfl),
  fun _ _ _ _ _ _ _ _ _ hm => (mFr_S mq81 h81_8).trans (by simp only [mgo.eq_1, mstep, mi1, ml1, mast, mst, mst2, mprev, List.length_cons, List.length_nil, List.getElem?_cons_succ, List.getElem?_cons_zero, hm]; rfl),
  fun _ _ _ _ _ _ _ _ _ => (mFr_S mq81 h81_9).trans rfl,
  fun _ _ _ _ _ _ _ _ => (mFr_S mq81 h81_9).trans rfl,
  fun _ _ _ _ _ _ => F_ifnullR mq81 h81_10,
  fun _ _ _ _ _ => F_ifnullN 23 mq81 h81_10 (by decide)⟩
theorem E81_13 : (∀ (d : Nat) (l0 : Option Value) (l1 : Option Value) (l3 : Option Value) (l4 : Option Value) (x : Int32) (st : List Value) (h : MH) (P : MP), mFr d 81 13 [l0, l1, some (.int x), l3, l4] st h P = mFr d 81 14 [l0, l1, some (.int x), l3, l4] (.int x :: st) h P) ∧
  (∀ (d : Nat) (loc : List (Option Value)) (x : Int32) (st : List Value) (h : MH) (P : MP), mFr d 81 14 loc (.int x :: st) h P = if x < 0 then mFr d 81 23 loc (st) h P else mFr d 81 17 loc (st) h P) := ⟨fun _ _ _ _ _ _ _ _ _ => (mFr_S mq81 h81_13).trans rfl,
  fun _ _ _ _ _ _ => (F_ifz 23 mq81 h81_14 (by decide)).trans mif_lt⟩
theorem E81_17 : (∀ (d : Nat) (l0 : Option Value) (l1 : Option Value) (l3 : Option Value) (l4 : Option Value) (x : Int32) (st : List Value) (h : MH) (P : MP), mFr d 81 17 [l0, l1, some (.int x), l3, l4] st h P = mFr d 81 18 [l0, l1, some (.int x), l3, l4] (.int x :: st) h P) ∧
  (∀ (d : Nat) (loc : List (Option Value)) (st : List Value) (h : MH) (P : MP), mFr d 81 18 loc st h P = mFr d 81 20 loc (.int 24 :: st) h P) ∧
  (∀ (d : Nat) (loc : List (Option Value)) (x y : Int32) (st : List Value) (h : MH) (P : MP), mFr d 81 20 loc (.int y :: .int x :: st) h P = if x < y then mFr d 81 26 loc (st) h P else mFr d 81 23 loc (st) h P) := ⟨fun _ _ _ _ _ _ _ _ _ => (mFr_S mq81 h81_17).trans rfl,
  fun _ _ _ _ _ => (mFr_S mq81 h81_18).trans rfl,
  fun _ _ _ _ _ _ _ => (F_icmp 26 mq81 h81_20 (by decide)).trans mif_lt⟩
theorem E81_23 : (∀ (d : Nat) (loc : List (Option Value)) (st : List Value) (h : MH) (P : MP), mFr d 81 23 loc st h P = mFr d 81 25 loc (.int (-2) :: st) h P) ∧
  (∀ (d : Nat) (loc : List (Option Value)) (x : Int32) (h : MH) (P : MP), mFr d 81 25 loc [.int x] h P = P (some (.int x)) h) := ⟨fun _ _ _ _ _ => (mFr_S mq81 h81_23).trans rfl,
  fun _ _ _ _ _ => F_ret mq81 h81_25 rfl rfl⟩
theorem E81_26 : (∀ (d : Nat) (l0 : Option Value) (l1 : Option Value) (l3 : Option Value) (l4 : Option Value) (x : Int32) (st : List Value) (h : MH) (P : MP), mFr d 81 26 [l0, l1, some (.int x), l3, l4] st h P = mFr d 81 27 [l0, l1, some (.int x), l3, l4] (.int x :: st) h P) ∧
  (∀ (d : Nat) (l0 : Option Value) (l1 : Option Value) (l2 : Option Value) (l4 : Option Value) (x : Nat) (st : List Value) (h : MH) (P : MP), mFr d 81 27 [l0, l1, l2, some (.ref x), l4] st h P = mFr d 81 28 [l0, l1, l2, some (.ref x), l4] (.ref x :: st) h P) ∧
  (∀ (d : Nat) (l0 : Option Value) (l1 : Option Value) (l2 : Option Value) (l4 : Option Value) (st : List Value) (h : MH) (P : MP), mFr d 81 27 [l0, l1, l2, some .null, l4] st h P = mFr d 81 28 [l0, l1, l2, some .null, l4] (.null :: st) h P) ∧
  (∀ (d : Nat) (loc : List (Option Value)) (a : Nat) (st : List Value) (h : MH) (P : MP), mFr d 81 28 loc (.ref a :: st) h P = pget h a 1 3 (fun v => mFr d 81 31 loc (v :: st) h P)) ∧
  (∀ (d : Nat) (loc : List (Option Value)) (x y : Int32) (st : List Value) (h : MH) (P : MP), mFr d 81 31 loc (.int y :: .int x :: st) h P = if y < x then mFr d 81 36 loc (st) h P else mFr d 81 34 loc (st) h P) := ⟨fun _ _ _ _ _ _ _ _ _ => (mFr_S mq81 h81_26).trans rfl,
  fun _ _ _ _ _ _ _ _ _ => (mFr_S mq81 h81_27).trans rfl,
  fun _ _ _ _ _ _ _ _ => (mFr_S mq81 h81_27).trans rfl,
  fun _ _ _ _ _ _ => F_get mq81 h81_28 (Or.inr (rfl : _ = some (145, 1, 1, 3))),
  fun _ _ _ _ _ _ _ => (F_icmp 36 mq81 h81_31 (by decide)).trans mif_gt⟩
theorem E81_34 : (∀ (d : Nat) (loc : List (Option Value)) (st : List Value) (h : MH) (P : MP), mFr d 81 34 loc st h P = mFr d 81 35 loc (.int (-1) :: st) h P) ∧
  (∀ (d : Nat) (loc : List (Option Value)) (x : Int32) (h : MH) (P : MP), mFr d 81 35 loc [.int x] h P = P (some (.int x)) h) := ⟨fun _ _ _ _ _ => (mFr_S mq81 h81_34).trans rfl,
  fun _ _ _ _ _ => F_ret mq81 h81_35 rfl rfl⟩
theorem E81_36 : (∀ (d : Nat) (l1 : Option Value) (l2 : Option Value) (l3 : Option Value) (l4 : Option Value) (x : Nat) (st : List Value) (h : MH) (P : MP), mFr d 81 36 [some (.ref x), l1, l2, l3, l4] st h P = mFr d 81 37 [some (.ref x), l1, l2, l3, l4] (.ref x :: st) h P) ∧
  (∀ (d : Nat) (loc : List (Option Value)) (a : Nat) (st : List Value) (h : MH) (P : MP), mFr d 81 37 loc (.ref a :: st) h P = pget h a 8 10 (fun v => mFr d 81 40 loc (v :: st) h P)) ∧
  (∀ (d : Nat) (l1 : Option Value) (l2 : Option Value) (l3 : Option Value) (l4 : Option Value) (x : Nat) (st : List Value) (h : MH) (P : MP), mFr d 81 40 [some (.ref x), l1, l2, l3, l4] st h P = mFr d 81 41 [some (.ref x), l1, l2, l3, l4] (.ref x :: st) h P) ∧
  (∀ (d : Nat) (loc : List (Option Value)) (a : Nat) (st : List Value) (h : MH) (P : MP), mFr d 81 41 loc (.ref a :: st) h P = pget h a 8 4 (fun v => mFr d 81 44 loc (v :: st) h P)) ∧
  (∀ (d : Nat) (loc : List (Option Value)) (b : Nat) (a0 : Nat) (h : MH) (P : MP), mFr d 81 44 loc ((.ref a0) :: .ref b :: []) h P = if mrcv h b 2 = true then mRun d 20 [.ref b, .ref a0] h (fun v h' => mFr d 81 47 loc (v.toList ++ []) h' P) else False) ∧
  (∀ (d : Nat) (loc : List (Option Value)) (st : List Value) (h : MH) (P : MP), mFr d 81 47 loc st h P = mFr d 81 49 loc (.int 9 :: st) h P) ∧
  (∀ (d : Nat) (l0 : Option Value) (l1 : Option Value) (l2 : Option Value) (l3 : Option Value) (l4 : Option Value) (x : Int32) (st : List Value) (h : MH) (P : MP), mnl l3 = true → mFr d 81 49 [l0, l1, l2, l3, l4] (.int x :: st) h P = mFr d 81 51 [l0, l1, l2, l3, some (.int x)] (st) h P) := ⟨fun _ _ _ _ _ _ _ _ _ => (mFr_S mq81 h81_36).trans rfl,
  fun _ _ _ _ _ _ => F_get mq81 h81_37 (Or.inl (rfl : _ = some (107, 0, 8, 10))),
  fun _ _ _ _ _ _ _ _ _ => (mFr_S mq81 h81_40).trans rfl,
  fun _ _ _ _ _ _ => F_get mq81 h81_41 (Or.inl (rfl : _ = some (100, 0, 8, 4))),
  fun _ _ b a0 _ _ => F_callV (as := [.ref a0]) (rest := []) mq81 (Or.inl h81_44) (rfl : _ = some (206, 6, 20, 1)) (Or.inl ⟨h81_44, by decide⟩) (by rfl) (by rfl) (by rfl) (Nat.le_of_ble_eq_true rfl),
  fun _ _ _ _ _ => (mFr_S mq81 h81_47).trans rfl,
  fun _ _ _ _ _ _ _ _ _ _ hm => (mFr_S mq81 h81_49).trans (by simp only [mgo.eq_1, mstep, mi1, ml1, mast, mst, mst2, mprev, List.length_cons, List.length_nil, List.getElem?_cons_succ, List.getElem?_cons_zero, hm]; rfl)⟩
theorem E81_51 : (∀ (d : Nat) (l0 : Option Value) (l1 : Option Value) (l2 : Option Value) (l3 : Option Value) (x : Int32) (st : List Value) (h : MH) (P : MP), mFr d 81 51 [l0, l1, l2, l3, some (.int x)] st h P = mFr d 81 53 [l0, l1, l2, l3, some (.int x)] (.int x :: st) h P) ∧
  (∀ (d : Nat) (loc : List (Option Value)) (x : Int32) (st : List Value) (h : MH) (P : MP), mFr d 81 53 loc (.int x :: st) h P = if x < 0 then mFr d 81 88 loc (st) h P else mFr d 81 56 loc (st) h P) := ⟨fun _ _ _ _ _ _ _ _ _ => (mFr_S mq81 h81_51).trans rfl,
  fun _ _ _ _ _ _ => (F_ifz 88 mq81 h81_53 (by decide)).trans mif_lt⟩
theorem E81_56 : (∀ (d : Nat) (l1 : Option Value) (l2 : Option Value) (l3 : Option Value) (l4 : Option Value) (x : Nat) (st : List Value) (h : MH) (P : MP), mFr d 81 56 [some (.ref x), l1, l2, l3, l4] st h P = mFr d 81 57 [some (.ref x), l1, l2, l3, l4] (.ref x :: st) h P) ∧
  (∀ (d : Nat) (loc : List (Option Value)) (a : Nat) (st : List Value) (h : MH) (P : MP), mFr d 81 57 loc (.ref a :: st) h P = pget h a 8 10 (fun v => mFr d 81 60 loc (v :: st) h P)) ∧
  (∀ (d : Nat) (l0 : Option Value) (l1 : Option Value) (l3 : Option Value) (l4 : Option Value) (x : Int32) (st : List Value) (h : MH) (P : MP), mFr d 81 60 [l0, l1, some (.int x), l3, l4] st h P = mFr d 81 61 [l0, l1, some (.int x), l3, l4] (.int x :: st) h P) ∧
  (∀ (d : Nat) (l0 : Option Value) (l1 : Option Value) (l2 : Option Value) (l3 : Option Value) (x : Int32) (st : List Value) (h : MH) (P : MP), mFr d 81 61 [l0, l1, l2, l3, some (.int x)] st h P = mFr d 81 63 [l0, l1, l2, l3, some (.int x)] (.int x :: st) h P) ∧
  (∀ (d : Nat) (loc : List (Option Value)) (b : Nat) (a0 : Int32) (a1 : Int32) (h : MH) (P : MP), mFr d 81 63 loc ((.int a1) :: (.int a0) :: .ref b :: []) h P = if mrcv h b 2 = true then mRun d 18 [.ref b, .int a0, .int a1] h (fun v h' => mFr d 81 66 loc (v.toList ++ []) h' P) else False) ∧
  (∀ (d : Nat) (l1 : Option Value) (l2 : Option Value) (l3 : Option Value) (l4 : Option Value) (x : Nat) (st : List Value) (h : MH) (P : MP), mFr d 81 66 [some (.ref x), l1, l2, l3, l4] st h P = mFr d 81 67 [some (.ref x), l1, l2, l3, l4] (.ref x :: st) h P) ∧
  (∀ (d : Nat) (l0 : Option Value) (l1 : Option Value) (l2 : Option Value) (l4 : Option Value) (x : Nat) (st : List Value) (h : MH) (P : MP), mFr d 81 67 [l0, l1, l2, some (.ref x), l4] st h P = mFr d 81 68 [l0, l1, l2, some (.ref x), l4] (.ref x :: st) h P) ∧
  (∀ (d : Nat) (l0 : Option Value) (l1 : Option Value) (l2 : Option Value) (l4 : Option Value) (st : List Value) (h : MH) (P : MP), mFr d 81 67 [l0, l1, l2, some .null, l4] st h P = mFr d 81 68 [l0, l1, l2, some .null, l4] (.null :: st) h P) ∧
  (∀ (d : Nat) (l0 : Option Value) (l1 : Option Value) (l3 : Option Value) (l4 : Option Value) (x : Int32) (st : List Value) (h : MH) (P : MP), mFr d 81 68 [l0, l1, some (.int x), l3, l4] st h P = mFr d 81 69 [l0, l1, some (.int x), l3, l4] (.int x :: st) h P) ∧
  (∀ (d : Nat) (l1 : Option Value) (l2 : Option Value) (l3 : Option Value) (l4 : Option Value) (x : Nat) (st : List Value) (h : MH) (P : MP), mFr d 81 69 [some (.ref x), l1, l2, l3, l4] st h P = mFr d 81 70 [some (.ref x), l1, l2, l3, l4] (.ref x :: st) h P) ∧
  (∀ (d : Nat) (loc : List (Option Value)) (a : Nat) (st : List Value) (h : MH) (P : MP), mFr d 81 70 loc (.ref a :: st) h P = pget h a 8 10 (fun v => mFr d 81 73 loc (v :: st) h P)) ∧
  (∀ (d : Nat) (loc : List (Option Value)) (b : Nat) (a0 : Nat) (a1 : Int32) (a2 : Nat) (h : MH) (P : MP), mFr d 81 73 loc ((.ref a2) :: (.int a1) :: (.ref a0) :: .ref b :: []) h P = if mrcv h b 8 = true then mRun d 82 [.ref b, .ref a0, .int a1, .ref a2] h (fun v h' => mFr d 81 76 loc (v.toList ++ []) h' P) else False) ∧
  (∀ (d : Nat) (loc : List (Option Value)) (x : Int32) (st : List Value) (h : MH) (P : MP), mFr d 81 76 loc (.int x :: st) h P = if x = 0 then mFr d 81 79 loc (st) h P else mFr d 81 82 loc (st) h P) := ⟨fun _ _ _ _ _ _ _ _ _ => (mFr_S mq81 h81_56).trans rfl,
  fun _ _ _ _ _ _ => F_get mq81 h81_57 (Or.inl (rfl : _ = some (107, 0, 8, 10))),
  fun _ _ _ _ _ _ _ _ _ => (mFr_S mq81 h81_60).trans rfl,
  fun _ _ _ _ _ _ _ _ _ => (mFr_S mq81 h81_61).trans rfl,
  fun _ _ b a0 a1 _ _ => F_callV (as := [.int a0, .int a1]) (rest := []) mq81 (Or.inl h81_63) (rfl : _ = some (167, 6, 18, 1)) (Or.inl ⟨h81_63, by decide⟩) (by rfl) (by rfl) (by rfl) (Nat.le_of_ble_eq_true rfl),
  fun _ _ _ _ _ _ _ _ _ => (mFr_S mq81 h81_66).trans rfl,
  fun _ _ _ _ _ _ _ _ _ => (mFr_S mq81 h81_67).trans rfl,
  fun _ _ _ _ _ _ _ _ => (mFr_S mq81 h81_67).trans rfl,
  fun _ _ _ _ _ _ _ _ _ => (mFr_S mq81 h81_68).trans rfl,
  fun _ _ _ _ _ _ _ _ _ => (mFr_S mq81 h81_69).trans rfl,
  fun _ _ _ _ _ _ => F_get mq81 h81_70 (Or.inl (rfl : _ = some (107, 0, 8, 10))),
  fun _ _ b a0 a1 a2 _ _ => F_callV (as := [.ref a0, .int a1, .ref a2]) (rest := []) mq81 (Or.inl h81_73) (rfl : _ = some (213, 6, 82, 0)) (Or.inl ⟨h81_73, by decide⟩) (by rfl) (by rfl) (by rfl) (Nat.le_of_ble_eq_true rfl),
  fun _ _ _ _ _ _ => (F_ifz 82 mq81 h81_76 (by decide)).trans mif_ne⟩
theorem E81_79 : (∀ (d : Nat) (l0 : Option Value) (l1 : Option Value) (l2 : Option Value) (l3 : Option Value) (x : Int32) (st : List Value) (h : MH) (P : MP), mFr d 81 79 [l0, l1, l2, l3, some (.int x)] st h P = mFr d 81 81 [l0, l1, l2, l3, some (.int x)] (.int x :: st) h P) ∧
  (∀ (d : Nat) (loc : List (Option Value)) (x : Int32) (h : MH) (P : MP), mFr d 81 81 loc [.int x] h P = P (some (.int x)) h) := ⟨fun _ _ _ _ _ _ _ _ _ => (mFr_S mq81 h81_79).trans rfl,
  fun _ _ _ _ _ => F_ret mq81 h81_81 rfl rfl⟩
theorem E81_82 : (∀ (d : Nat) (l0 : Option Value) (l1 : Option Value) (l2 : Option Value) (l3 : Option Value) (x : Int32) (st : List Value) (h : MH) (P : MP), mnl l3 = true → mFr d 81 82 [l0, l1, l2, l3, some (.int x)] st h P = mFr d 81 85 [l0, l1, l2, l3, some (.int (x + (-1)))] (st) h P) ∧
  (∀ (d : Nat) (loc : List (Option Value)) (st : List Value) (h : MH) (P : MP), mFr d 81 85 loc st h P = mFr d 81 51 loc (st) h P) := ⟨fun _ _ _ _ _ _ _ _ _ hm => (mFr_S mq81 h81_82).trans (by simp only [mgo.eq_1, mstep, mld, mst, mprev, List.length_cons, List.length_nil, List.getElem?_cons_succ, List.getElem?_cons_zero, hm]; rfl),
  fun _ _ _ _ _ => F_goto 51 mq81 h81_85 (by decide)⟩
theorem E81_88 : (∀ (d : Nat) (loc : List (Option Value)) (st : List Value) (h : MH) (P : MP), mFr d 81 88 loc st h P = mFr d 81 89 loc (.int (-1) :: st) h P) ∧
  (∀ (d : Nat) (loc : List (Option Value)) (x : Int32) (h : MH) (P : MP), mFr d 81 89 loc [.int x] h P = P (some (.int x)) h) := ⟨fun _ _ _ _ _ => (mFr_S mq81 h81_88).trans rfl,
  fun _ _ _ _ _ => F_ret mq81 h81_89 rfl rfl⟩
theorem B81 : ∀ (d : Nat) (b : Nat) (a0 : Int32) (a1 : Int32) (h : MH) (P : MP), mRun (d + 1) 81 [.ref b, .int a0, .int a1] h P = mFr d 81 0 [some (.ref b), some (.int a0), some (.int a1), none, none] [] h P := fun _ _ _ _ _ _ => mRun_S mq81 (Nat.le_of_ble_eq_true rfl)
-- 82: PuncturesAreViews.comesFlat(LPuncturesAreViews$Rider;ILPuncturesAreViews$Road;)Z loops at [14]
def q82 : MI := (yX8_comesFlat, cX8_comesFlat, 6, (some .boolean), 8, 3)
theorem mq82 : mtab[82]? = some q82 := rfl
theorem h82_0 : mfetch q82.2.1 0 = some (.aload_n 0) := by decide +kernel
theorem h82_1 : mfetch q82.2.1 1 = some (.getfield 45) := by decide +kernel
theorem h82_4 : mfetch q82.2.1 4 = some (.aload_n 1) := by decide +kernel
theorem h82_5 : mfetch q82.2.1 5 = some (.invokevirtual 194) := by decide +kernel
theorem h82_8 : mfetch q82.2.1 8 = some (.iconst 0) := by decide +kernel
theorem h82_9 : mfetch q82.2.1 9 = some (.istore 4) := by decide +kernel
theorem h82_11 : mfetch q82.2.1 11 = some (.iconst 0) := by decide +kernel
theorem h82_12 : mfetch q82.2.1 12 = some (.istore 5) := by decide +kernel
theorem h82_14 : mfetch q82.2.1 14 = some (.iload 5) := by decide +kernel
theorem h82_16 : mfetch q82.2.1 16 = some (.sipush 240) := by decide +kernel
theorem h82_19 : mfetch q82.2.1 19 = some (.if_icmp .ge 30) := by decide +kernel
theorem h82_22 : mfetch q82.2.1 22 = some (.aload_n 0) := by decide +kernel
theorem h82_23 : mfetch q82.2.1 23 = some (.getfield 45) := by decide +kernel
theorem h82_26 : mfetch q82.2.1 26 = some (.getfield 145) := by decide +kernel
theorem h82_29 : mfetch q82.2.1 29 = some (.iload_n 2) := by decide +kernel
theorem h82_30 : mfetch q82.2.1 30 = some (.if_icmp .ge 19) := by decide +kernel
theorem h82_33 : mfetch q82.2.1 33 = some (.aload_n 0) := by decide +kernel
theorem h82_34 : mfetch q82.2.1 34 = some (.getfield 45) := by decide +kernel
theorem h82_37 : mfetch q82.2.1 37 = some (.aload_n 3) := by decide +kernel
theorem h82_38 : mfetch q82.2.1 38 = some (.invokevirtual 184) := by decide +kernel
theorem h82_41 : mfetch q82.2.1 41 = some (.istore 4) := by decide +kernel
theorem h82_43 : mfetch q82.2.1 43 = some (.iinc 5 1) := by decide +kernel
theorem h82_46 : mfetch q82.2.1 46 = some (.goto (-32)) := by decide +kernel
theorem h82_49 : mfetch q82.2.1 49 = some (.iload 4) := by decide +kernel
theorem h82_51 : mfetch q82.2.1 51 = some (.iconst 4) := by decide +kernel
theorem h82_52 : mfetch q82.2.1 52 = some (.if_icmp .ne 7) := by decide +kernel
theorem h82_55 : mfetch q82.2.1 55 = some (.iconst 1) := by decide +kernel
theorem h82_56 : mfetch q82.2.1 56 = some (.goto 4) := by decide +kernel
theorem h82_59 : mfetch q82.2.1 59 = some (.iconst 0) := by decide +kernel
theorem h82_60 : mfetch q82.2.1 60 = some (.ireturn) := by decide +kernel
theorem E82_0 : (∀ (d : Nat) (l1 : Option Value) (l2 : Option Value) (l3 : Option Value) (l4 : Option Value) (l5 : Option Value) (x : Nat) (st : List Value) (h : MH) (P : MP), mFr d 82 0 [some (.ref x), l1, l2, l3, l4, l5] st h P = mFr d 82 1 [some (.ref x), l1, l2, l3, l4, l5] (.ref x :: st) h P) ∧
  (∀ (d : Nat) (loc : List (Option Value)) (a : Nat) (st : List Value) (h : MH) (P : MP), mFr d 82 1 loc (.ref a :: st) h P = pget h a 8 12 (fun v => mFr d 82 4 loc (v :: st) h P)) ∧
  (∀ (d : Nat) (l0 : Option Value) (l2 : Option Value) (l3 : Option Value) (l4 : Option Value) (l5 : Option Value) (x : Nat) (st : List Value) (h : MH) (P : MP), mFr d 82 4 [l0, some (.ref x), l2, l3, l4, l5] st h P = mFr d 82 5 [l0, some (.ref x), l2, l3, l4, l5] (.ref x :: st) h P) ∧
  (∀ (d : Nat) (l0 : Option Value) (l2 : Option Value) (l3 : Option Value) (l4 : Option Value) (l5 : Option Value) (st : List Value) (h : MH) (P : MP), mFr d 82 4 [l0, some .null, l2, l3, l4, l5] st h P = mFr d 82 5 [l0, some .null, l2, l3, l4, l5] (.null :: st) h P) ∧
  (∀ (d : Nat) (loc : List (Option Value)) (b : Nat) (a0 : Nat) (h : MH) (P : MP), mFr d 82 5 loc ((.ref a0) :: .ref b :: []) h P = if mrcv h b 1 = true then mRun d 9 [.ref b, .ref a0] h (fun v h' => mFr d 82 8 loc (v.toList ++ []) h' P) else False) ∧
  (∀ (d : Nat) (loc : List (Option Value)) (st : List Value) (h : MH) (P : MP), mFr d 82 8 loc st h P = mFr d 82 9 loc (.int 0 :: st) h P) ∧
  (∀ (d : Nat) (l0 : Option Value) (l1 : Option Value) (l2 : Option Value) (l3 : Option Value) (l4 : Option Value) (l5 : Option Value) (x : Int32) (st : List Value) (h : MH) (P : MP), mnl l3 = true → mFr d 82 9 [l0, l1, l2, l3, l4, l5] (.int x :: st) h P = mFr d 82 11 [l0, l1, l2, l3, some (.int x), l5] (st) h P) ∧
  (∀ (d : Nat) (loc : List (Option Value)) (st : List Value) (h : MH) (P : MP), mFr d 82 11 loc st h P = mFr d 82 12 loc (.int 0 :: st) h P) ∧
  (∀ (d : Nat) (l0 : Option Value) (l1 : Option Value) (l2 : Option Value) (l3 : Option Value) (l4 : Option Value) (l5 : Option Value) (x : Int32) (st : List Value) (h : MH) (P : MP), mnl l4 = true → mFr d 82 12 [l0, l1, l2, l3, l4, l5] (.int x :: st) h P = mFr d 82 14 [l0, l1, l2, l3, l4, some (.int x)] (st) h P) := ⟨fun _ _ _ _ _ _ _ _ _ _ => (mFr_S mq82 h82_0).trans rfl,
  fun _ _ _ _ _ _ => F_get mq82 h82_1 (Or.inl (rfl : _ = some (45, 0, 8, 12))),
  fun _ _ _ _ _ _ _ _ _ _ => (mFr_S mq82 h82_4).trans rfl,
  fun _ _ _ _ _ _ _ _ _ => (mFr_S mq82 h82_4).trans rfl,
  fun _ _ b a0 _ _ => F_callV (as := [.ref a0]) (rest := []) mq82 (Or.inl h82_5) (rfl : _ = some (194, 6, 9, 1)) (Or.inl ⟨h82_5, by decide⟩) (by rfl) (by rfl) (by rfl) (Nat.le_of_ble_eq_true rfl),
  fun _ _ _ _ _ => (mFr_S mq82 h82_8).trans rfl,
  fun _ _ _ _ _ _ _ _ _ _ _ hm => (mFr_S mq82 h82_9).trans (by simp only [mgo.eq_1, mstep, mi1, ml1, mast, mst, mst2, mprev, List.length_cons, List.length_nil, List.getElem?_cons_succ, List.getElem?_cons_zero, hm]; rfl),
  fun _ _ _ _ _ => (mFr_S mq82 h82_11).trans rfl,
  fun _ _ _ _ _ _ _ _ _ _ _ hm => (mFr_S mq82 h82_12).trans (by simp only [mgo.eq_1, mstep, mi1, ml1, mast, mst, mst2, mprev, List.length_cons, List.length_nil, List.getElem?_cons_succ, List.getElem?_cons_zero, hm]; rfl)⟩
theorem E82_14 : (∀ (d : Nat) (l0 : Option Value) (l1 : Option Value) (l2 : Option Value) (l3 : Option Value) (l4 : Option Value) (x : Int32) (st : List Value) (h : MH) (P : MP), mFr d 82 14 [l0, l1, l2, l3, l4, some (.int x)] st h P = mFr d 82 16 [l0, l1, l2, l3, l4, some (.int x)] (.int x :: st) h P) ∧
  (∀ (d : Nat) (loc : List (Option Value)) (st : List Value) (h : MH) (P : MP), mFr d 82 16 loc st h P = mFr d 82 19 loc (.int 240 :: st) h P) ∧
  (∀ (d : Nat) (loc : List (Option Value)) (x y : Int32) (st : List Value) (h : MH) (P : MP), mFr d 82 19 loc (.int y :: .int x :: st) h P = if x < y then mFr d 82 22 loc (st) h P else mFr d 82 49 loc (st) h P) := ⟨fun _ _ _ _ _ _ _ _ _ _ => (mFr_S mq82 h82_14).trans rfl,
  fun _ _ _ _ _ => (mFr_S mq82 h82_16).trans rfl,
  fun _ _ _ _ _ _ _ => (F_icmp 49 mq82 h82_19 (by decide)).trans mif_ge⟩
theorem E82_22 : (∀ (d : Nat) (l1 : Option Value) (l2 : Option Value) (l3 : Option Value) (l4 : Option Value) (l5 : Option Value) (x : Nat) (st : List Value) (h : MH) (P : MP), mFr d 82 22 [some (.ref x), l1, l2, l3, l4, l5] st h P = mFr d 82 23 [some (.ref x), l1, l2, l3, l4, l5] (.ref x :: st) h P) ∧
  (∀ (d : Nat) (loc : List (Option Value)) (a : Nat) (st : List Value) (h : MH) (P : MP), mFr d 82 23 loc (.ref a :: st) h P = pget h a 8 12 (fun v => mFr d 82 26 loc (v :: st) h P)) ∧
  (∀ (d : Nat) (loc : List (Option Value)) (a : Nat) (st : List Value) (h : MH) (P : MP), mFr d 82 26 loc (.ref a :: st) h P = pget h a 1 3 (fun v => mFr d 82 29 loc (v :: st) h P)) ∧
  (∀ (d : Nat) (l0 : Option Value) (l1 : Option Value) (l3 : Option Value) (l4 : Option Value) (l5 : Option Value) (x : Int32) (st : List Value) (h : MH) (P : MP), mFr d 82 29 [l0, l1, some (.int x), l3, l4, l5] st h P = mFr d 82 30 [l0, l1, some (.int x), l3, l4, l5] (.int x :: st) h P) ∧
  (∀ (d : Nat) (loc : List (Option Value)) (x y : Int32) (st : List Value) (h : MH) (P : MP), mFr d 82 30 loc (.int y :: .int x :: st) h P = if x < y then mFr d 82 33 loc (st) h P else mFr d 82 49 loc (st) h P) := ⟨fun _ _ _ _ _ _ _ _ _ _ => (mFr_S mq82 h82_22).trans rfl,
  fun _ _ _ _ _ _ => F_get mq82 h82_23 (Or.inl (rfl : _ = some (45, 0, 8, 12))),
  fun _ _ _ _ _ _ => F_get mq82 h82_26 (Or.inr (rfl : _ = some (145, 1, 1, 3))),
  fun _ _ _ _ _ _ _ _ _ _ => (mFr_S mq82 h82_29).trans rfl,
  fun _ _ _ _ _ _ _ => (F_icmp 49 mq82 h82_30 (by decide)).trans mif_ge⟩
theorem E82_33 : (∀ (d : Nat) (l1 : Option Value) (l2 : Option Value) (l3 : Option Value) (l4 : Option Value) (l5 : Option Value) (x : Nat) (st : List Value) (h : MH) (P : MP), mFr d 82 33 [some (.ref x), l1, l2, l3, l4, l5] st h P = mFr d 82 34 [some (.ref x), l1, l2, l3, l4, l5] (.ref x :: st) h P) ∧
  (∀ (d : Nat) (loc : List (Option Value)) (a : Nat) (st : List Value) (h : MH) (P : MP), mFr d 82 34 loc (.ref a :: st) h P = pget h a 8 12 (fun v => mFr d 82 37 loc (v :: st) h P)) ∧
  (∀ (d : Nat) (l0 : Option Value) (l1 : Option Value) (l2 : Option Value) (l4 : Option Value) (l5 : Option Value) (x : Nat) (st : List Value) (h : MH) (P : MP), mFr d 82 37 [l0, l1, l2, some (.ref x), l4, l5] st h P = mFr d 82 38 [l0, l1, l2, some (.ref x), l4, l5] (.ref x :: st) h P) ∧
  (∀ (d : Nat) (l0 : Option Value) (l1 : Option Value) (l2 : Option Value) (l4 : Option Value) (l5 : Option Value) (st : List Value) (h : MH) (P : MP), mFr d 82 37 [l0, l1, l2, some .null, l4, l5] st h P = mFr d 82 38 [l0, l1, l2, some .null, l4, l5] (.null :: st) h P) ∧
  (∀ (d : Nat) (loc : List (Option Value)) (b : Nat) (a0 : Nat) (h : MH) (P : MP), mFr d 82 38 loc ((.ref a0) :: .ref b :: []) h P = if mrcv h b 1 = true then mRun d 11 [.ref b, .ref a0] h (fun v h' => mFr d 82 41 loc (v.toList ++ []) h' P) else False) ∧
  (∀ (d : Nat) (l0 : Option Value) (l1 : Option Value) (l2 : Option Value) (l3 : Option Value) (l4 : Option Value) (l5 : Option Value) (x : Int32) (st : List Value) (h : MH) (P : MP), mnl l3 = true → mFr d 82 41 [l0, l1, l2, l3, l4, l5] (.int x :: st) h P = mFr d 82 43 [l0, l1, l2, l3, some (.int x), l5] (st) h P) ∧
  (∀ (d : Nat) (l0 : Option Value) (l1 : Option Value) (l2 : Option Value) (l3 : Option Value) (l4 : Option Value) (x : Int32) (st : List Value) (h : MH) (P : MP), mnl l4 = true → mFr d 82 43 [l0, l1, l2, l3, l4, some (.int x)] st h P = mFr d 82 46 [l0, l1, l2, l3, l4, some (.int (x + 1))] (st) h P) ∧
  (∀ (d : Nat) (loc : List (Option Value)) (st : List Value) (h : MH) (P : MP), mFr d 82 46 loc st h P = mFr d 82 14 loc (st) h P) := ⟨fun _ _ _ _ _ _ _ _ _ _ => (mFr_S mq82 h82_33).trans rfl,
  fun _ _ _ _ _ _ => F_get mq82 h82_34 (Or.inl (rfl : _ = some (45, 0, 8, 12))),
  fun _ _ _ _ _ _ _ _ _ _ => (mFr_S mq82 h82_37).trans rfl,
  fun _ _ _ _ _ _ _ _ _ => (mFr_S mq82 h82_37).trans rfl,
  fun _ _ b a0 _ _ => F_callV (as := [.ref a0]) (rest := []) mq82 (Or.inl h82_38) (rfl : _ = some (184, 6, 11, 1)) (Or.inl ⟨h82_38, by decide⟩) (by rfl) (by rfl) (by rfl) (Nat.le_of_ble_eq_true rfl),
  fun _ _ _ _ _ _ _ _ _ _ _ hm => (mFr_S mq82 h82_41).trans (by simp only [mgo.eq_1, mstep, mi1, ml1, mast, mst, mst2, mprev, List.length_cons, List.length_nil, List.getElem?_cons_succ, List.getElem?_cons_zero, hm]; rfl),
  fun _ _ _ _ _ _ _ _ _ _ hm => (mFr_S mq82 h82_43).trans (by simp only [mgo.eq_1, mstep, mld, mst, mprev, List.length_cons, List.length_nil, List.getElem?_cons_succ, List.getElem?_cons_zero, hm]; rfl),
  fun _ _ _ _ _ => F_goto 14 mq82 h82_46 (by decide)⟩
theorem E82_49 : (∀ (d : Nat) (l0 : Option Value) (l1 : Option Value) (l2 : Option Value) (l3 : Option Value) (l5 : Option Value) (x : Int32) (st : List Value) (h : MH) (P : MP), mFr d 82 49 [l0, l1, l2, l3, some (.int x), l5] st h P = mFr d 82 51 [l0, l1, l2, l3, some (.int x), l5] (.int x :: st) h P) ∧
  (∀ (d : Nat) (loc : List (Option Value)) (st : List Value) (h : MH) (P : MP), mFr d 82 51 loc st h P = mFr d 82 52 loc (.int 4 :: st) h P) ∧
  (∀ (d : Nat) (loc : List (Option Value)) (x y : Int32) (st : List Value) (h : MH) (P : MP), mFr d 82 52 loc (.int y :: .int x :: st) h P = if x = y then mFr d 82 55 loc (st) h P else mFr d 82 59 loc (st) h P) := ⟨fun _ _ _ _ _ _ _ _ _ _ => (mFr_S mq82 h82_49).trans rfl,
  fun _ _ _ _ _ => (mFr_S mq82 h82_51).trans rfl,
  fun _ _ _ _ _ _ _ => (F_icmp 59 mq82 h82_52 (by decide)).trans mif_ne⟩
theorem E82_55 : (∀ (d : Nat) (loc : List (Option Value)) (st : List Value) (h : MH) (P : MP), mFr d 82 55 loc st h P = mFr d 82 56 loc (.int 1 :: st) h P) ∧
  (∀ (d : Nat) (loc : List (Option Value)) (st : List Value) (h : MH) (P : MP), mFr d 82 56 loc st h P = mFr d 82 60 loc (st) h P) := ⟨fun _ _ _ _ _ => (mFr_S mq82 h82_55).trans rfl,
  fun _ _ _ _ _ => F_goto 60 mq82 h82_56 (by decide)⟩
theorem E82_59 : (∀ (d : Nat) (loc : List (Option Value)) (st : List Value) (h : MH) (P : MP), mFr d 82 59 loc st h P = mFr d 82 60 loc (.int 0 :: st) h P) := fun _ _ _ _ _ => (mFr_S mq82 h82_59).trans rfl
theorem E82_60 : (∀ (d : Nat) (loc : List (Option Value)) (h : MH) (P : MP), mFr d 82 60 loc [.int 0] h P = P (some (.int 0)) h) ∧
  (∀ (d : Nat) (loc : List (Option Value)) (h : MH) (P : MP), mFr d 82 60 loc [.int 1] h P = P (some (.int 1)) h) ∧
  (∀ (d : Nat) (loc : List (Option Value)) (c : Prop) [Decidable c] (h : MH) (P : MP), mFr d 82 60 loc [.int (if c then 1 else 0)] h P = P (some (.int (if c then 1 else 0))) h) := ⟨fun _ _ _ _ => F_ret mq82 h82_60 rfl (by decide),
  fun _ _ _ _ => F_ret mq82 h82_60 rfl (by decide),
  fun _ _ _ _ _ _ => F_ret mq82 h82_60 rfl (by split <;> decide)⟩
theorem B82 : ∀ (d : Nat) (b : Nat) (a0 : Nat) (a1 : Int32) (a2 : Nat) (h : MH) (P : MP), mRun (d + 1) 82 [.ref b, .ref a0, .int a1, .ref a2] h P = mFr d 82 0 [some (.ref b), some (.ref a0), some (.int a1), some (.ref a2), none, none] [] h P := fun _ _ _ _ _ _ _ => mRun_S mq82 (Nat.le_of_ble_eq_true rfl)
-- 83: PuncturesAreViews.all(I)I
def q83 : MI := (yX8_all, cX8_all, 3, (some .int), 8, 1)
theorem mq83 : mtab[83]? = some q83 := rfl
theorem h83_0 : mfetch q83.2.1 0 = some (.iload_n 1) := by decide +kernel
theorem h83_1 : mfetch q83.2.1 1 = some (.tableswitch 109 0 4 #[35, 40, 70, 75, 104]) := by decide +kernel
theorem h83_36 : mfetch q83.2.1 36 = some (.aload_n 0) := by decide +kernel
theorem h83_37 : mfetch q83.2.1 37 = some (.invokevirtual 217) := by decide +kernel
theorem h83_40 : mfetch q83.2.1 40 = some (.ireturn) := by decide +kernel
theorem h83_41 : mfetch q83.2.1 41 = some (.aload_n 0) := by decide +kernel
theorem h83_42 : mfetch q83.2.1 42 = some (.getfield 25) := by decide +kernel
theorem h83_45 : mfetch q83.2.1 45 = some (.aload_n 0) := by decide +kernel
theorem h83_46 : mfetch q83.2.1 46 = some (.invokevirtual 217) := by decide +kernel
theorem h83_49 : mfetch q83.2.1 49 = some (.invokevirtual 135) := by decide +kernel
theorem h83_52 : mfetch q83.2.1 52 = some (.astore_n 2) := by decide +kernel
theorem h83_53 : mfetch q83.2.1 53 = some (.aload_n 2) := by decide +kernel
theorem h83_54 : mfetch q83.2.1 54 = some (.ifnonnull 7) := by decide +kernel
theorem h83_57 : mfetch q83.2.1 57 = some (.iconst (-1)) := by decide +kernel
theorem h83_58 : mfetch q83.2.1 58 = some (.goto 12) := by decide +kernel
theorem h83_61 : mfetch q83.2.1 61 = some (.aload_n 0) := by decide +kernel
theorem h83_62 : mfetch q83.2.1 62 = some (.aload_n 2) := by decide +kernel
theorem h83_63 : mfetch q83.2.1 63 = some (.aload_n 0) := by decide +kernel
theorem h83_64 : mfetch q83.2.1 64 = some (.getfield 100) := by decide +kernel
theorem h83_67 : mfetch q83.2.1 67 = some (.invokevirtual 198) := by decide +kernel
theorem h83_70 : mfetch q83.2.1 70 = some (.ireturn) := by decide +kernel
theorem h83_71 : mfetch q83.2.1 71 = some (.aload_n 0) := by decide +kernel
theorem h83_72 : mfetch q83.2.1 72 = some (.invokevirtual 220) := by decide +kernel
theorem h83_75 : mfetch q83.2.1 75 = some (.ireturn) := by decide +kernel
theorem h83_76 : mfetch q83.2.1 76 = some (.aload_n 0) := by decide +kernel
theorem h83_77 : mfetch q83.2.1 77 = some (.invokevirtual 220) := by decide +kernel
theorem h83_80 : mfetch q83.2.1 80 = some (.istore_n 2) := by decide +kernel
theorem h83_81 : mfetch q83.2.1 81 = some (.iload_n 2) := by decide +kernel
theorem h83_82 : mfetch q83.2.1 82 = some (.ifCond .lt 12) := by decide +kernel
theorem h83_85 : mfetch q83.2.1 85 = some (.iload_n 2) := by decide +kernel
theorem h83_86 : mfetch q83.2.1 86 = some (.aload_n 0) := by decide +kernel
theorem h83_87 : mfetch q83.2.1 87 = some (.getfield 48) := by decide +kernel
theorem h83_90 : mfetch q83.2.1 90 = some (.arraylength) := by decide +kernel
theorem h83_91 : mfetch q83.2.1 91 = some (.if_icmp .lt 7) := by decide +kernel
theorem h83_94 : mfetch q83.2.1 94 = some (.iconst 0) := by decide +kernel
theorem h83_95 : mfetch q83.2.1 95 = some (.goto 9) := by decide +kernel
theorem h83_98 : mfetch q83.2.1 98 = some (.aload_n 0) := by decide +kernel
theorem h83_99 : mfetch q83.2.1 99 = some (.getfield 48) := by decide +kernel
theorem h83_102 : mfetch q83.2.1 102 = some (.iload_n 2) := by decide +kernel
theorem h83_103 : mfetch q83.2.1 103 = some (.iaload) := by decide +kernel
theorem h83_104 : mfetch q83.2.1 104 = some (.ireturn) := by decide +kernel
theorem h83_105 : mfetch q83.2.1 105 = some (.aload_n 0) := by decide +kernel
theorem h83_106 : mfetch q83.2.1 106 = some (.invokevirtual 223) := by decide +kernel
theorem h83_109 : mfetch q83.2.1 109 = some (.ireturn) := by decide +kernel
theorem h83_110 : mfetch q83.2.1 110 = some (.bipush (-2)) := by decide +kernel
theorem h83_112 : mfetch q83.2.1 112 = some (.ireturn) := by decide +kernel
theorem E83_0 : (∀ (d : Nat) (l0 : Option Value) (l2 : Option Value) (x : Int32) (st : List Value) (h : MH) (P : MP), mFr d 83 0 [l0, some (.int x), l2] st h P = mFr d 83 1 [l0, some (.int x), l2] (.int x :: st) h P) ∧
  (∀ (d : Nat) (loc : List (Option Value)) (x : Int32) (st : List Value) (h : MH) (P : MP), mFr d 83 1 loc (.int x :: st) h P = if x = 0 then mFr d 83 36 loc (st) h P else if x = 1 then mFr d 83 41 loc (st) h P else if x = 2 then mFr d 83 71 loc (st) h P else if x = 3 then mFr d 83 76 loc (st) h P else if x = 4 then mFr d 83 105 loc (st) h P else mFr d 83 110 loc (st) h P) := ⟨fun _ _ _ _ _ _ _ => (mFr_S mq83 h83_0).trans rfl,
  fun _ _ _ _ _ _ => F_table 110 [(0, 36), (1, 41), (2, 71), (3, 76), (4, 105)] mq83 h83_1 (by decide) (by decide +kernel) (by decide)⟩
theorem E83_36 : (∀ (d : Nat) (l1 : Option Value) (l2 : Option Value) (x : Nat) (st : List Value) (h : MH) (P : MP), mFr d 83 36 [some (.ref x), l1, l2] st h P = mFr d 83 37 [some (.ref x), l1, l2] (.ref x :: st) h P) ∧
  (∀ (d : Nat) (loc : List (Option Value)) (b : Nat) (h : MH) (P : MP), mFr d 83 37 loc (.ref b :: []) h P = if mrcv h b 8 = true then mRun d 84 [.ref b] h (fun v h' => mFr d 83 40 loc (v.toList ++ []) h' P) else False) ∧
  (∀ (d : Nat) (loc : List (Option Value)) (x : Int32) (h : MH) (P : MP), mFr d 83 40 loc [.int x] h P = P (some (.int x)) h) := ⟨fun _ _ _ _ _ _ _ => (mFr_S mq83 h83_36).trans rfl,
  fun _ _ b _ _ => F_callV (as := []) (rest := []) mq83 (Or.inl h83_37) (rfl : _ = some (217, 6, 84, 0)) (Or.inl ⟨h83_37, by decide⟩) (by rfl) (by rfl) (by rfl) (Nat.le_of_ble_eq_true rfl),
  fun _ _ _ _ _ => F_ret mq83 h83_40 rfl rfl⟩
theorem E83_41 : (∀ (d : Nat) (l1 : Option Value) (l2 : Option Value) (x : Nat) (st : List Value) (h : MH) (P : MP), mFr d 83 41 [some (.ref x), l1, l2] st h P = mFr d 83 42 [some (.ref x), l1, l2] (.ref x :: st) h P) ∧
  (∀ (d : Nat) (loc : List (Option Value)) (a : Nat) (st : List Value) (h : MH) (P : MP), mFr d 83 42 loc (.ref a :: st) h P = pget h a 8 5 (fun v => mFr d 83 45 loc (v :: st) h P)) ∧
  (∀ (d : Nat) (l1 : Option Value) (l2 : Option Value) (x : Nat) (st : List Value) (h : MH) (P : MP), mFr d 83 45 [some (.ref x), l1, l2] st h P = mFr d 83 46 [some (.ref x), l1, l2] (.ref x :: st) h P) ∧
  (∀ (d : Nat) (loc : List (Option Value)) (b : Nat) (s0 : Nat) (h : MH) (P : MP), mFr d 83 46 loc (.ref b :: [.ref s0]) h P = if mrcv h b 8 = true then mRun d 84 [.ref b] h (fun v h' => mFr d 83 49 loc (v.toList ++ [.ref s0]) h' P) else False) ∧
  (∀ (d : Nat) (loc : List (Option Value)) (b : Nat) (a0 : Int32) (h : MH) (P : MP), mFr d 83 49 loc ((.int a0) :: .ref b :: []) h P = if mrcv h b 0 = true then mRun d 1 [.ref b, .int a0] h (fun v h' => mFr d 83 52 loc (v.toList ++ []) h' P) else False) ∧
  (∀ (d : Nat) (l0 : Option Value) (l1 : Option Value) (l2 : Option Value) (x : Nat) (st : List Value) (h : MH) (P : MP), mnl l1 = true → mFr d 83 52 [l0, l1, l2] (.ref x :: st) h P = mFr d 83 53 [l0, l1, some (.ref x)] (st) h P) ∧
  (∀ (d : Nat) (l0 : Option Value) (l1 : Option Value) (l2 : Option Value) (st : List Value) (h : MH) (P : MP), mnl l1 = true → mFr d 83 52 [l0, l1, l2] (.null :: st) h P = mFr d 83 53 [l0, l1, some .null] (st) h P) ∧
  (∀ (d : Nat) (l0 : Option Value) (l1 : Option Value) (x : Nat) (st : List Value) (h : MH) (P : MP), mFr d 83 53 [l0, l1, some (.ref x)] st h P = mFr d 83 54 [l0, l1, some (.ref x)] (.ref x :: st) h P) ∧
  (∀ (d : Nat) (l0 : Option Value) (l1 : Option Value) (st : List Value) (h : MH) (P : MP), mFr d 83 53 [l0, l1, some .null] st h P = mFr d 83 54 [l0, l1, some .null] (.null :: st) h P) ∧
  (∀ (d : Nat) (loc : List (Option Value)) (x : Nat) (st : List Value) (h : MH) (P : MP), mFr d 83 54 loc (.ref x :: st) h P = if x < 900 then mFr d 83 61 loc (st) h P else False) ∧
  (∀ (d : Nat) (loc : List (Option Value)) (st : List Value) (h : MH) (P : MP), mFr d 83 54 loc (.null :: st) h P = mFr d 83 57 loc (st) h P) := ⟨fun _ _ _ _ _ _ _ => (mFr_S mq83 h83_41).trans rfl,
  fun _ _ _ _ _ _ => F_get mq83 h83_42 (Or.inl (rfl : _ = some (25, 0, 8, 5))),
  fun _ _ _ _ _ _ _ => (mFr_S mq83 h83_45).trans rfl,
  fun _ _ b s0 _ _ => F_callV (as := []) (rest := [.ref s0]) mq83 (Or.inl h83_46) (rfl : _ = some (217, 6, 84, 0)) (Or.inl ⟨h83_46, by decide⟩) (by rfl) (by rfl) (by rfl) (Nat.le_of_ble_eq_true rfl),
  fun _ _ b a0 _ _ => F_callV (as := [.int a0]) (rest := []) mq83 (Or.inl h83_49) (rfl : _ = some (135, 6, 1, 1)) (Or.inl ⟨h83_49, by decide⟩) (by rfl) (by rfl) (by rfl) (Nat.le_of_ble_eq_true rfl),
  fun _ _ _ _ _ _ _ _ hm => (mFr_S mq83 h83_52).trans (by simp only [mgo.eq_1, mstep, mi1, ml1, mast, mst, mst2, mprev, List.length_cons, List.length_nil, List.getElem?_cons_succ, List.getElem?_cons_zero, hm]; rfl),
  fun _ _ _ _ _ _ _ hm => (mFr_S mq83 h83_52).trans (by simp only [mgo.eq_1, mstep, mi1, ml1, mast, mst, mst2, mprev, List.length_cons, List.length_nil, List.getElem?_cons_succ, List.getElem?_cons_zero, hm]; rfl),
  fun _ _ _ _ _ _ _ => (mFr_S mq83 h83_53).trans rfl,
  fun _ _ _ _ _ _ => (mFr_S mq83 h83_53).trans rfl,
  fun _ _ _ _ _ _ => F_ifnonnullR 61 mq83 h83_54 (by decide),
  fun _ _ _ _ _ => (mFr_S mq83 h83_54).trans rfl⟩
theorem E83_57 : (∀ (d : Nat) (loc : List (Option Value)) (st : List Value) (h : MH) (P : MP), mFr d 83 57 loc st h P = mFr d 83 58 loc (.int (-1) :: st) h P) ∧
  (∀ (d : Nat) (loc : List (Option Value)) (st : List Value) (h : MH) (P : MP), mFr d 83 58 loc st h P = mFr d 83 70 loc (st) h P) := ⟨fun _ _ _ _ _ => (mFr_S mq83 h83_57).trans rfl,
  fun _ _ _ _ _ => F_goto 70 mq83 h83_58 (by decide)⟩
theorem E83_61 : (∀ (d : Nat) (l1 : Option Value) (l2 : Option Value) (x : Nat) (st : List Value) (h : MH) (P : MP), mFr d 83 61 [some (.ref x), l1, l2] st h P = mFr d 83 62 [some (.ref x), l1, l2] (.ref x :: st) h P) ∧
  (∀ (d : Nat) (l0 : Option Value) (l1 : Option Value) (x : Nat) (st : List Value) (h : MH) (P : MP), mFr d 83 62 [l0, l1, some (.ref x)] st h P = mFr d 83 63 [l0, l1, some (.ref x)] (.ref x :: st) h P) ∧
  (∀ (d : Nat) (l0 : Option Value) (l1 : Option Value) (st : List Value) (h : MH) (P : MP), mFr d 83 62 [l0, l1, some .null] st h P = mFr d 83 63 [l0, l1, some .null] (.null :: st) h P) ∧
  (∀ (d : Nat) (l1 : Option Value) (l2 : Option Value) (x : Nat) (st : List Value) (h : MH) (P : MP), mFr d 83 63 [some (.ref x), l1, l2] st h P = mFr d 83 64 [some (.ref x), l1, l2] (.ref x :: st) h P) ∧
  (∀ (d : Nat) (loc : List (Option Value)) (a : Nat) (st : List Value) (h : MH) (P : MP), mFr d 83 64 loc (.ref a :: st) h P = pget h a 8 4 (fun v => mFr d 83 67 loc (v :: st) h P)) ∧
  (∀ (d : Nat) (loc : List (Option Value)) (b : Nat) (a0 : Nat) (a1 : Nat) (h : MH) (P : MP), mFr d 83 67 loc ((.ref a1) :: (.ref a0) :: .ref b :: []) h P = if mrcv h b 8 = true then mRun d 75 [.ref b, .ref a0, .ref a1] h (fun v h' => mFr d 83 70 loc (v.toList ++ []) h' P) else False) := ⟨fun _ _ _ _ _ _ _ => (mFr_S mq83 h83_61).trans rfl,
  fun _ _ _ _ _ _ _ => (mFr_S mq83 h83_62).trans rfl,
  fun _ _ _ _ _ _ => (mFr_S mq83 h83_62).trans rfl,
  fun _ _ _ _ _ _ _ => (mFr_S mq83 h83_63).trans rfl,
  fun _ _ _ _ _ _ => F_get mq83 h83_64 (Or.inl (rfl : _ = some (100, 0, 8, 4))),
  fun _ _ b a0 a1 _ _ => F_callV (as := [.ref a0, .ref a1]) (rest := []) mq83 (Or.inl h83_67) (rfl : _ = some (198, 6, 75, 0)) (Or.inl ⟨h83_67, by decide⟩) (by rfl) (by rfl) (by rfl) (Nat.le_of_ble_eq_true rfl)⟩
theorem E83_70 : (∀ (d : Nat) (loc : List (Option Value)) (x : Int32) (h : MH) (P : MP), mFr d 83 70 loc [.int x] h P = P (some (.int x)) h) := fun _ _ _ _ _ => F_ret mq83 h83_70 rfl rfl
theorem E83_71 : (∀ (d : Nat) (l1 : Option Value) (l2 : Option Value) (x : Nat) (st : List Value) (h : MH) (P : MP), mFr d 83 71 [some (.ref x), l1, l2] st h P = mFr d 83 72 [some (.ref x), l1, l2] (.ref x :: st) h P) ∧
  (∀ (d : Nat) (loc : List (Option Value)) (b : Nat) (h : MH) (P : MP), mFr d 83 72 loc (.ref b :: []) h P = if mrcv h b 8 = true then mRun d 86 [.ref b] h (fun v h' => mFr d 83 75 loc (v.toList ++ []) h' P) else False) ∧
  (∀ (d : Nat) (loc : List (Option Value)) (x : Int32) (h : MH) (P : MP), mFr d 83 75 loc [.int x] h P = P (some (.int x)) h) := ⟨fun _ _ _ _ _ _ _ => (mFr_S mq83 h83_71).trans rfl,
  fun _ _ b _ _ => F_callV (as := []) (rest := []) mq83 (Or.inl h83_72) (rfl : _ = some (220, 6, 86, 0)) (Or.inl ⟨h83_72, by decide⟩) (by rfl) (by rfl) (by rfl) (Nat.le_of_ble_eq_true rfl),
  fun _ _ _ _ _ => F_ret mq83 h83_75 rfl rfl⟩
theorem E83_76 : (∀ (d : Nat) (l1 : Option Value) (l2 : Option Value) (x : Nat) (st : List Value) (h : MH) (P : MP), mFr d 83 76 [some (.ref x), l1, l2] st h P = mFr d 83 77 [some (.ref x), l1, l2] (.ref x :: st) h P) ∧
  (∀ (d : Nat) (loc : List (Option Value)) (b : Nat) (h : MH) (P : MP), mFr d 83 77 loc (.ref b :: []) h P = if mrcv h b 8 = true then mRun d 86 [.ref b] h (fun v h' => mFr d 83 80 loc (v.toList ++ []) h' P) else False) ∧
  (∀ (d : Nat) (l0 : Option Value) (l1 : Option Value) (l2 : Option Value) (x : Int32) (st : List Value) (h : MH) (P : MP), mnl l1 = true → mFr d 83 80 [l0, l1, l2] (.int x :: st) h P = mFr d 83 81 [l0, l1, some (.int x)] (st) h P) ∧
  (∀ (d : Nat) (l0 : Option Value) (l1 : Option Value) (x : Int32) (st : List Value) (h : MH) (P : MP), mFr d 83 81 [l0, l1, some (.int x)] st h P = mFr d 83 82 [l0, l1, some (.int x)] (.int x :: st) h P) ∧
  (∀ (d : Nat) (loc : List (Option Value)) (x : Int32) (st : List Value) (h : MH) (P : MP), mFr d 83 82 loc (.int x :: st) h P = if x < 0 then mFr d 83 94 loc (st) h P else mFr d 83 85 loc (st) h P) := ⟨fun _ _ _ _ _ _ _ => (mFr_S mq83 h83_76).trans rfl,
  fun _ _ b _ _ => F_callV (as := []) (rest := []) mq83 (Or.inl h83_77) (rfl : _ = some (220, 6, 86, 0)) (Or.inl ⟨h83_77, by decide⟩) (by rfl) (by rfl) (by rfl) (Nat.le_of_ble_eq_true rfl),
  fun _ _ _ _ _ _ _ _ hm => (mFr_S mq83 h83_80).trans (by simp only [mgo.eq_1, mstep, mi1, ml1, mast, mst, mst2, mprev, List.length_cons, List.length_nil, List.getElem?_cons_succ, List.getElem?_cons_zero, hm]; rfl),
  fun _ _ _ _ _ _ _ => (mFr_S mq83 h83_81).trans rfl,
  fun _ _ _ _ _ _ => (F_ifz 94 mq83 h83_82 (by decide)).trans mif_lt⟩
theorem E83_85 : (∀ (d : Nat) (l0 : Option Value) (l1 : Option Value) (x : Int32) (st : List Value) (h : MH) (P : MP), mFr d 83 85 [l0, l1, some (.int x)] st h P = mFr d 83 86 [l0, l1, some (.int x)] (.int x :: st) h P) ∧
  (∀ (d : Nat) (l1 : Option Value) (l2 : Option Value) (x : Nat) (st : List Value) (h : MH) (P : MP), mFr d 83 86 [some (.ref x), l1, l2] st h P = mFr d 83 87 [some (.ref x), l1, l2] (.ref x :: st) h P) ∧
  (∀ (d : Nat) (loc : List (Option Value)) (a : Nat) (st : List Value) (h : MH) (P : MP), mFr d 83 87 loc (.ref a :: st) h P = pget h a 8 13 (fun v => mFr d 83 90 loc (v :: st) h P)) ∧
  (∀ (d : Nat) (loc : List (Option Value)) (a : Nat) (st : List Value) (h : MH) (P : MP), mFr d 83 90 loc (.ref a :: st) h P = palen h a (fun n => mFr d 83 91 loc (.int (Int32.ofNat n) :: st) h P)) ∧
  (∀ (d : Nat) (loc : List (Option Value)) (x y : Int32) (st : List Value) (h : MH) (P : MP), mFr d 83 91 loc (.int y :: .int x :: st) h P = if x < y then mFr d 83 98 loc (st) h P else mFr d 83 94 loc (st) h P) := ⟨fun _ _ _ _ _ _ _ => (mFr_S mq83 h83_85).trans rfl,
  fun _ _ _ _ _ _ _ => (mFr_S mq83 h83_86).trans rfl,
  fun _ _ _ _ _ _ => F_get mq83 h83_87 (Or.inl (rfl : _ = some (48, 0, 8, 13))),
  fun _ _ _ _ _ _ => F_alen mq83 h83_90,
  fun _ _ _ _ _ _ _ => (F_icmp 98 mq83 h83_91 (by decide)).trans mif_lt⟩
theorem E83_94 : (∀ (d : Nat) (loc : List (Option Value)) (st : List Value) (h : MH) (P : MP), mFr d 83 94 loc st h P = mFr d 83 95 loc (.int 0 :: st) h P) ∧
  (∀ (d : Nat) (loc : List (Option Value)) (st : List Value) (h : MH) (P : MP), mFr d 83 95 loc st h P = mFr d 83 104 loc (st) h P) := ⟨fun _ _ _ _ _ => (mFr_S mq83 h83_94).trans rfl,
  fun _ _ _ _ _ => F_goto 104 mq83 h83_95 (by decide)⟩
theorem E83_98 : (∀ (d : Nat) (l1 : Option Value) (l2 : Option Value) (x : Nat) (st : List Value) (h : MH) (P : MP), mFr d 83 98 [some (.ref x), l1, l2] st h P = mFr d 83 99 [some (.ref x), l1, l2] (.ref x :: st) h P) ∧
  (∀ (d : Nat) (loc : List (Option Value)) (a : Nat) (st : List Value) (h : MH) (P : MP), mFr d 83 99 loc (.ref a :: st) h P = pget h a 8 13 (fun v => mFr d 83 102 loc (v :: st) h P)) ∧
  (∀ (d : Nat) (l0 : Option Value) (l1 : Option Value) (x : Int32) (st : List Value) (h : MH) (P : MP), mFr d 83 102 [l0, l1, some (.int x)] st h P = mFr d 83 103 [l0, l1, some (.int x)] (.int x :: st) h P) ∧
  (∀ (d : Nat) (loc : List (Option Value)) (a : Nat) (i : Int32) (st : List Value) (h : MH) (P : MP), mFr d 83 103 loc (.int i :: .ref a :: st) h P = pial h a i (fun x => mFr d 83 104 loc (.int x :: st) h P)) := ⟨fun _ _ _ _ _ _ _ => (mFr_S mq83 h83_98).trans rfl,
  fun _ _ _ _ _ _ => F_get mq83 h83_99 (Or.inl (rfl : _ = some (48, 0, 8, 13))),
  fun _ _ _ _ _ _ _ => (mFr_S mq83 h83_102).trans rfl,
  fun _ _ _ _ _ _ _ => F_iald mq83 h83_103⟩
theorem E83_104 : (∀ (d : Nat) (loc : List (Option Value)) (x : Int32) (h : MH) (P : MP), mFr d 83 104 loc [.int x] h P = P (some (.int x)) h) := fun _ _ _ _ _ => F_ret mq83 h83_104 rfl rfl
theorem E83_105 : (∀ (d : Nat) (l1 : Option Value) (l2 : Option Value) (x : Nat) (st : List Value) (h : MH) (P : MP), mFr d 83 105 [some (.ref x), l1, l2] st h P = mFr d 83 106 [some (.ref x), l1, l2] (.ref x :: st) h P) ∧
  (∀ (d : Nat) (loc : List (Option Value)) (b : Nat) (h : MH) (P : MP), mFr d 83 106 loc (.ref b :: []) h P = if mrcv h b 8 = true then mRun d 85 [.ref b] h (fun v h' => mFr d 83 109 loc (v.toList ++ []) h' P) else False) ∧
  (∀ (d : Nat) (loc : List (Option Value)) (x : Int32) (h : MH) (P : MP), mFr d 83 109 loc [.int x] h P = P (some (.int x)) h) := ⟨fun _ _ _ _ _ _ _ => (mFr_S mq83 h83_105).trans rfl,
  fun _ _ b _ _ => F_callV (as := []) (rest := []) mq83 (Or.inl h83_106) (rfl : _ = some (223, 6, 85, 0)) (Or.inl ⟨h83_106, by decide⟩) (by rfl) (by rfl) (by rfl) (Nat.le_of_ble_eq_true rfl),
  fun _ _ _ _ _ => F_ret mq83 h83_109 rfl rfl⟩
theorem E83_110 : (∀ (d : Nat) (loc : List (Option Value)) (st : List Value) (h : MH) (P : MP), mFr d 83 110 loc st h P = mFr d 83 112 loc (.int (-2) :: st) h P) ∧
  (∀ (d : Nat) (loc : List (Option Value)) (x : Int32) (h : MH) (P : MP), mFr d 83 112 loc [.int x] h P = P (some (.int x)) h) := ⟨fun _ _ _ _ _ => (mFr_S mq83 h83_110).trans rfl,
  fun _ _ _ _ _ => F_ret mq83 h83_112 rfl rfl⟩
theorem B83 : ∀ (d : Nat) (b : Nat) (a0 : Int32) (h : MH) (P : MP), mRun (d + 1) 83 [.ref b, .int a0] h P = mFr d 83 0 [some (.ref b), some (.int a0), none] [] h P := fun _ _ _ _ _ => mRun_S mq83 (Nat.le_of_ble_eq_true rfl)
-- 84: PuncturesAreViews.firstHome()I loops at [8]
def q84 : MI := (yX8_firstHome, cX8_firstHome, 5, (some .int), 8, 0)
theorem mq84 : mtab[84]? = some q84 := rfl
theorem h84_0 : mfetch q84.2.1 0 = some (.iconst (-1)) := by decide +kernel
theorem h84_1 : mfetch q84.2.1 1 = some (.istore_n 1) := by decide +kernel
theorem h84_2 : mfetch q84.2.1 2 = some (.sipush 241) := by decide +kernel
theorem h84_5 : mfetch q84.2.1 5 = some (.istore_n 2) := by decide +kernel
theorem h84_6 : mfetch q84.2.1 6 = some (.iconst 0) := by decide +kernel
theorem h84_7 : mfetch q84.2.1 7 = some (.istore_n 3) := by decide +kernel
theorem h84_8 : mfetch q84.2.1 8 = some (.iload_n 3) := by decide +kernel
theorem h84_9 : mfetch q84.2.1 9 = some (.aload_n 0) := by decide +kernel
theorem h84_10 : mfetch q84.2.1 10 = some (.getfield 25) := by decide +kernel
theorem h84_13 : mfetch q84.2.1 13 = some (.getfield 226) := by decide +kernel
theorem h84_16 : mfetch q84.2.1 16 = some (.if_icmp .ge 44) := by decide +kernel
theorem h84_19 : mfetch q84.2.1 19 = some (.iload_n 3) := by decide +kernel
theorem h84_20 : mfetch q84.2.1 20 = some (.iconst 5) := by decide +kernel
theorem h84_21 : mfetch q84.2.1 21 = some (.if_icmp .ge 39) := by decide +kernel
theorem h84_24 : mfetch q84.2.1 24 = some (.aload_n 0) := by decide +kernel
theorem h84_25 : mfetch q84.2.1 25 = some (.aload_n 0) := by decide +kernel
theorem h84_26 : mfetch q84.2.1 26 = some (.getfield 25) := by decide +kernel
theorem h84_29 : mfetch q84.2.1 29 = some (.getfield 229) := by decide +kernel
theorem h84_32 : mfetch q84.2.1 32 = some (.iload_n 3) := by decide +kernel
theorem h84_33 : mfetch q84.2.1 33 = some (.aaload) := by decide +kernel
theorem h84_34 : mfetch q84.2.1 34 = some (.aload_n 0) := by decide +kernel
theorem h84_35 : mfetch q84.2.1 35 = some (.getfield 100) := by decide +kernel
theorem h84_38 : mfetch q84.2.1 38 = some (.invokevirtual 198) := by decide +kernel
theorem h84_41 : mfetch q84.2.1 41 = some (.istore 4) := by decide +kernel
theorem h84_43 : mfetch q84.2.1 43 = some (.iload 4) := by decide +kernel
theorem h84_45 : mfetch q84.2.1 45 = some (.iload_n 2) := by decide +kernel
theorem h84_46 : mfetch q84.2.1 46 = some (.if_icmp .ge 8) := by decide +kernel
theorem h84_49 : mfetch q84.2.1 49 = some (.iload 4) := by decide +kernel
theorem h84_51 : mfetch q84.2.1 51 = some (.istore_n 2) := by decide +kernel
theorem h84_52 : mfetch q84.2.1 52 = some (.iload_n 3) := by decide +kernel
theorem h84_53 : mfetch q84.2.1 53 = some (.istore_n 1) := by decide +kernel
theorem h84_54 : mfetch q84.2.1 54 = some (.iinc 3 1) := by decide +kernel
theorem h84_57 : mfetch q84.2.1 57 = some (.goto (-49)) := by decide +kernel
theorem h84_60 : mfetch q84.2.1 60 = some (.iload_n 1) := by decide +kernel
theorem h84_61 : mfetch q84.2.1 61 = some (.ireturn) := by decide +kernel
theorem E84_0 : (∀ (d : Nat) (loc : List (Option Value)) (st : List Value) (h : MH) (P : MP), mFr d 84 0 loc st h P = mFr d 84 1 loc (.int (-1) :: st) h P) ∧
  (∀ (d : Nat) (l0 : Option Value) (l1 : Option Value) (l2 : Option Value) (l3 : Option Value) (l4 : Option Value) (x : Int32) (st : List Value) (h : MH) (P : MP), mnl l0 = true → mFr d 84 1 [l0, l1, l2, l3, l4] (.int x :: st) h P = mFr d 84 2 [l0, some (.int x), l2, l3, l4] (st) h P) ∧
  (∀ (d : Nat) (loc : List (Option Value)) (st : List Value) (h : MH) (P : MP), mFr d 84 2 loc st h P = mFr d 84 5 loc (.int 241 :: st) h P) ∧
  (∀ (d : Nat) (l0 : Option Value) (l1 : Option Value) (l2 : Option Value) (l3 : Option Value) (l4 : Option Value) (x : Int32) (st : List Value) (h : MH) (P : MP), mnl l1 = true → mFr d 84 5 [l0, l1, l2, l3, l4] (.int x :: st) h P = mFr d 84 6 [l0, l1, some (.int x), l3, l4] (st) h P) ∧
  (∀ (d : Nat) (loc : List (Option Value)) (st : List Value) (h : MH) (P : MP), mFr d 84 6 loc st h P = mFr d 84 7 loc (.int 0 :: st) h P) ∧
  (∀ (d : Nat) (l0 : Option Value) (l1 : Option Value) (l2 : Option Value) (l3 : Option Value) (l4 : Option Value) (x : Int32) (st : List Value) (h : MH) (P : MP), mnl l2 = true → mFr d 84 7 [l0, l1, l2, l3, l4] (.int x :: st) h P = mFr d 84 8 [l0, l1, l2, some (.int x), l4] (st) h P) := ⟨fun _ _ _ _ _ => (mFr_S mq84 h84_0).trans rfl,
  fun _ _ _ _ _ _ _ _ _ _ hm => (mFr_S mq84 h84_1).trans (by simp only [mgo.eq_1, mstep, mi1, ml1, mast, mst, mst2, mprev, List.length_cons, List.length_nil, List.getElem?_cons_succ, List.getElem?_cons_zero, hm]; rfl),
  fun _ _ _ _ _ => (mFr_S mq84 h84_2).trans rfl,
  fun _ _ _ _ _ _ _ _ _ _ hm => (mFr_S mq84 h84_5).trans (by simp only [mgo.eq_1, mstep, mi1, ml1, mast, mst, mst2, mprev, List.length_cons, List.length_nil, List.getElem?_cons_succ, List.getElem?_cons_zero, hm]; rfl),
  fun _ _ _ _ _ => (mFr_S mq84 h84_6).trans rfl,
  fun _ _ _ _ _ _ _ _ _ _ hm => (mFr_S mq84 h84_7).trans (by simp only [mgo.eq_1, mstep, mi1, ml1, mast, mst, mst2, mprev, List.length_cons, List.length_nil, List.getElem?_cons_succ, List.getElem?_cons_zero, hm]; rfl)⟩
theorem E84_8 : (∀ (d : Nat) (l0 : Option Value) (l1 : Option Value) (l2 : Option Value) (l4 : Option Value) (x : Int32) (st : List Value) (h : MH) (P : MP), mFr d 84 8 [l0, l1, l2, some (.int x), l4] st h P = mFr d 84 9 [l0, l1, l2, some (.int x), l4] (.int x :: st) h P) ∧
  (∀ (d : Nat) (l1 : Option Value) (l2 : Option Value) (l3 : Option Value) (l4 : Option Value) (x : Nat) (st : List Value) (h : MH) (P : MP), mFr d 84 9 [some (.ref x), l1, l2, l3, l4] st h P = mFr d 84 10 [some (.ref x), l1, l2, l3, l4] (.ref x :: st) h P) ∧
  (∀ (d : Nat) (loc : List (Option Value)) (a : Nat) (st : List Value) (h : MH) (P : MP), mFr d 84 10 loc (.ref a :: st) h P = pget h a 8 5 (fun v => mFr d 84 13 loc (v :: st) h P)) ∧
  (∀ (d : Nat) (loc : List (Option Value)) (a : Nat) (st : List Value) (h : MH) (P : MP), mFr d 84 13 loc (.ref a :: st) h P = pget h a 0 1 (fun v => mFr d 84 16 loc (v :: st) h P)) ∧
  (∀ (d : Nat) (loc : List (Option Value)) (x y : Int32) (st : List Value) (h : MH) (P : MP), mFr d 84 16 loc (.int y :: .int x :: st) h P = if x < y then mFr d 84 19 loc (st) h P else mFr d 84 60 loc (st) h P) := ⟨fun _ _ _ _ _ _ _ _ _ => (mFr_S mq84 h84_8).trans rfl,
  fun _ _ _ _ _ _ _ _ _ => (mFr_S mq84 h84_9).trans rfl,
  fun _ _ _ _ _ _ => F_get mq84 h84_10 (Or.inl (rfl : _ = some (25, 0, 8, 5))),
  fun _ _ _ _ _ _ => F_get mq84 h84_13 (Or.inr (rfl : _ = some (226, 1, 0, 1))),
  fun _ _ _ _ _ _ _ => (F_icmp 60 mq84 h84_16 (by decide)).trans mif_ge⟩
theorem E84_19 : (∀ (d : Nat) (l0 : Option Value) (l1 : Option Value) (l2 : Option Value) (l4 : Option Value) (x : Int32) (st : List Value) (h : MH) (P : MP), mFr d 84 19 [l0, l1, l2, some (.int x), l4] st h P = mFr d 84 20 [l0, l1, l2, some (.int x), l4] (.int x :: st) h P) ∧
  (∀ (d : Nat) (loc : List (Option Value)) (st : List Value) (h : MH) (P : MP), mFr d 84 20 loc st h P = mFr d 84 21 loc (.int 5 :: st) h P) ∧
  (∀ (d : Nat) (loc : List (Option Value)) (x y : Int32) (st : List Value) (h : MH) (P : MP), mFr d 84 21 loc (.int y :: .int x :: st) h P = if x < y then mFr d 84 24 loc (st) h P else mFr d 84 60 loc (st) h P) := ⟨fun _ _ _ _ _ _ _ _ _ => (mFr_S mq84 h84_19).trans rfl,
  fun _ _ _ _ _ => (mFr_S mq84 h84_20).trans rfl,
  fun _ _ _ _ _ _ _ => (F_icmp 60 mq84 h84_21 (by decide)).trans mif_ge⟩
theorem E84_24 : (∀ (d : Nat) (l1 : Option Value) (l2 : Option Value) (l3 : Option Value) (l4 : Option Value) (x : Nat) (st : List Value) (h : MH) (P : MP), mFr d 84 24 [some (.ref x), l1, l2, l3, l4] st h P = mFr d 84 25 [some (.ref x), l1, l2, l3, l4] (.ref x :: st) h P) ∧
  (∀ (d : Nat) (l1 : Option Value) (l2 : Option Value) (l3 : Option Value) (l4 : Option Value) (x : Nat) (st : List Value) (h : MH) (P : MP), mFr d 84 25 [some (.ref x), l1, l2, l3, l4] st h P = mFr d 84 26 [some (.ref x), l1, l2, l3, l4] (.ref x :: st) h P) ∧
  (∀ (d : Nat) (loc : List (Option Value)) (a : Nat) (st : List Value) (h : MH) (P : MP), mFr d 84 26 loc (.ref a :: st) h P = pget h a 8 5 (fun v => mFr d 84 29 loc (v :: st) h P)) ∧
  (∀ (d : Nat) (loc : List (Option Value)) (a : Nat) (st : List Value) (h : MH) (P : MP), mFr d 84 29 loc (.ref a :: st) h P = pget h a 0 0 (fun v => mFr d 84 32 loc (v :: st) h P)) ∧
  (∀ (d : Nat) (l0 : Option Value) (l1 : Option Value) (l2 : Option Value) (l4 : Option Value) (x : Int32) (st : List Value) (h : MH) (P : MP), mFr d 84 32 [l0, l1, l2, some (.int x), l4] st h P = mFr d 84 33 [l0, l1, l2, some (.int x), l4] (.int x :: st) h P) ∧
  (∀ (d : Nat) (loc : List (Option Value)) (a : Nat) (i : Int32) (st : List Value) (h : MH) (P : MP), mFr d 84 33 loc (.int i :: .ref a :: st) h P = paal h a i (fun v => mFr d 84 34 loc (v :: st) h P)) ∧
  (∀ (d : Nat) (l1 : Option Value) (l2 : Option Value) (l3 : Option Value) (l4 : Option Value) (x : Nat) (st : List Value) (h : MH) (P : MP), mFr d 84 34 [some (.ref x), l1, l2, l3, l4] st h P = mFr d 84 35 [some (.ref x), l1, l2, l3, l4] (.ref x :: st) h P) ∧
  (∀ (d : Nat) (loc : List (Option Value)) (a : Nat) (st : List Value) (h : MH) (P : MP), mFr d 84 35 loc (.ref a :: st) h P = pget h a 8 4 (fun v => mFr d 84 38 loc (v :: st) h P)) ∧
  (∀ (d : Nat) (loc : List (Option Value)) (b : Nat) (a0 : Nat) (a1 : Nat) (h : MH) (P : MP), mFr d 84 38 loc ((.ref a1) :: (.ref a0) :: .ref b :: []) h P = if mrcv h b 8 = true then mRun d 75 [.ref b, .ref a0, .ref a1] h (fun v h' => mFr d 84 41 loc (v.toList ++ []) h' P) else False) ∧
  (∀ (d : Nat) (l0 : Option Value) (l1 : Option Value) (l2 : Option Value) (l3 : Option Value) (l4 : Option Value) (x : Int32) (st : List Value) (h : MH) (P : MP), mnl l3 = true → mFr d 84 41 [l0, l1, l2, l3, l4] (.int x :: st) h P = mFr d 84 43 [l0, l1, l2, l3, some (.int x)] (st) h P) ∧
  (∀ (d : Nat) (l0 : Option Value) (l1 : Option Value) (l2 : Option Value) (l3 : Option Value) (x : Int32) (st : List Value) (h : MH) (P : MP), mFr d 84 43 [l0, l1, l2, l3, some (.int x)] st h P = mFr d 84 45 [l0, l1, l2, l3, some (.int x)] (.int x :: st) h P) ∧
  (∀ (d : Nat) (l0 : Option Value) (l1 : Option Value) (l3 : Option Value) (l4 : Option Value) (x : Int32) (st : List Value) (h : MH) (P : MP), mFr d 84 45 [l0, l1, some (.int x), l3, l4] st h P = mFr d 84 46 [l0, l1, some (.int x), l3, l4] (.int x :: st) h P) ∧
  (∀ (d : Nat) (loc : List (Option Value)) (x y : Int32) (st : List Value) (h : MH) (P : MP), mFr d 84 46 loc (.int y :: .int x :: st) h P = if x < y then mFr d 84 49 loc (st) h P else mFr d 84 54 loc (st) h P) := ⟨fun _ _ _ _ _ _ _ _ _ => (mFr_S mq84 h84_24).trans rfl,
  fun _ _ _ _ _ _ _ _ _ => (mFr_S mq84 h84_25).trans rfl,
  fun _ _ _ _ _ _ => F_get mq84 h84_26 (Or.inl (rfl : _ = some (25, 0, 8, 5))),
  fun _ _ _ _ _ _ => F_get mq84 h84_29 (Or.inr (rfl : _ = some (229, 1, 0, 0))),
  fun _ _ _ _ _ _ _ _ _ => (mFr_S mq84 h84_32).trans rfl,
  fun _ _ _ _ _ _ _ => F_aald mq84 h84_33,
  fun _ _ _ _ _ _ _ _ _ => (mFr_S mq84 h84_34).trans rfl,
  fun _ _ _ _ _ _ => F_get mq84 h84_35 (Or.inl (rfl : _ = some (100, 0, 8, 4))),
  fun _ _ b a0 a1 _ _ => F_callV (as := [.ref a0, .ref a1]) (rest := []) mq84 (Or.inl h84_38) (rfl : _ = some (198, 6, 75, 0)) (Or.inl ⟨h84_38, by decide⟩) (by rfl) (by rfl) (by rfl) (Nat.le_of_ble_eq_true rfl),
  fun _ _ _ _ _ _ _ _ _ _ hm => (mFr_S mq84 h84_41).trans (by simp only [mgo.eq_1, mstep, mi1, ml1, mast, mst, mst2, mprev, List.length_cons, List.length_nil, List.getElem?_cons_succ, List.getElem?_cons_zero, hm]; rfl),
  fun _ _ _ _ _ _ _ _ _ => (mFr_S mq84 h84_43).trans rfl,
  fun _ _ _ _ _ _ _ _ _ => (mFr_S mq84 h84_45).trans rfl,
  fun _ _ _ _ _ _ _ => (F_icmp 54 mq84 h84_46 (by decide)).trans mif_ge⟩
theorem E84_49 : (∀ (d : Nat) (l0 : Option Value) (l1 : Option Value) (l2 : Option Value) (l3 : Option Value) (x : Int32) (st : List Value) (h : MH) (P : MP), mFr d 84 49 [l0, l1, l2, l3, some (.int x)] st h P = mFr d 84 51 [l0, l1, l2, l3, some (.int x)] (.int x :: st) h P) ∧
  (∀ (d : Nat) (l0 : Option Value) (l1 : Option Value) (l2 : Option Value) (l3 : Option Value) (l4 : Option Value) (x : Int32) (st : List Value) (h : MH) (P : MP), mnl l1 = true → mFr d 84 51 [l0, l1, l2, l3, l4] (.int x :: st) h P = mFr d 84 52 [l0, l1, some (.int x), l3, l4] (st) h P) ∧
  (∀ (d : Nat) (l0 : Option Value) (l1 : Option Value) (l2 : Option Value) (l4 : Option Value) (x : Int32) (st : List Value) (h : MH) (P : MP), mFr d 84 52 [l0, l1, l2, some (.int x), l4] st h P = mFr d 84 53 [l0, l1, l2, some (.int x), l4] (.int x :: st) h P) ∧
  (∀ (d : Nat) (l0 : Option Value) (l1 : Option Value) (l2 : Option Value) (l3 : Option Value) (l4 : Option Value) (x : Int32) (st : List Value) (h : MH) (P : MP), mnl l0 = true → mFr d 84 53 [l0, l1, l2, l3, l4] (.int x :: st) h P = mFr d 84 54 [l0, some (.int x), l2, l3, l4] (st) h P) := ⟨fun _ _ _ _ _ _ _ _ _ => (mFr_S mq84 h84_49).trans rfl,
  fun _ _ _ _ _ _ _ _ _ _ hm => (mFr_S mq84 h84_51).trans (by simp only [mgo.eq_1, mstep, mi1, ml1, mast, mst, mst2, mprev, List.length_cons, List.length_nil, List.getElem?_cons_succ, List.getElem?_cons_zero, hm]; rfl),
  fun _ _ _ _ _ _ _ _ _ => (mFr_S mq84 h84_52).trans rfl,
  fun _ _ _ _ _ _ _ _ _ _ hm => (mFr_S mq84 h84_53).trans (by simp only [mgo.eq_1, mstep, mi1, ml1, mast, mst, mst2, mprev, List.length_cons, List.length_nil, List.getElem?_cons_succ, List.getElem?_cons_zero, hm]; rfl)⟩
theorem E84_54 : (∀ (d : Nat) (l0 : Option Value) (l1 : Option Value) (l2 : Option Value) (l4 : Option Value) (x : Int32) (st : List Value) (h : MH) (P : MP), mnl l2 = true → mFr d 84 54 [l0, l1, l2, some (.int x), l4] st h P = mFr d 84 57 [l0, l1, l2, some (.int (x + 1)), l4] (st) h P) ∧
  (∀ (d : Nat) (loc : List (Option Value)) (st : List Value) (h : MH) (P : MP), mFr d 84 57 loc st h P = mFr d 84 8 loc (st) h P) := ⟨fun _ _ _ _ _ _ _ _ _ hm => (mFr_S mq84 h84_54).trans (by simp only [mgo.eq_1, mstep, mld, mst, mprev, List.length_cons, List.length_nil, List.getElem?_cons_succ, List.getElem?_cons_zero, hm]; rfl),
  fun _ _ _ _ _ => F_goto 8 mq84 h84_57 (by decide)⟩
theorem E84_60 : (∀ (d : Nat) (l0 : Option Value) (l2 : Option Value) (l3 : Option Value) (l4 : Option Value) (x : Int32) (st : List Value) (h : MH) (P : MP), mFr d 84 60 [l0, some (.int x), l2, l3, l4] st h P = mFr d 84 61 [l0, some (.int x), l2, l3, l4] (.int x :: st) h P) ∧
  (∀ (d : Nat) (loc : List (Option Value)) (x : Int32) (h : MH) (P : MP), mFr d 84 61 loc [.int x] h P = P (some (.int x)) h) := ⟨fun _ _ _ _ _ _ _ _ _ => (mFr_S mq84 h84_60).trans rfl,
  fun _ _ _ _ _ => F_ret mq84 h84_61 rfl rfl⟩
theorem B84 : ∀ (d : Nat) (b : Nat) (h : MH) (P : MP), mRun (d + 1) 84 [.ref b] h P = mFr d 84 0 [some (.ref b), none, none, none, none] [] h P := fun _ _ _ _ => mRun_S mq84 (Nat.le_of_ble_eq_true rfl)
-- 85: PuncturesAreViews.stepsOfAll()I loops at [4]
def q85 : MI := (yX8_stepsOfAll, cX8_stepsOfAll, 3, (some .int), 8, 0)
theorem mq85 : mtab[85]? = some q85 := rfl
theorem h85_0 : mfetch q85.2.1 0 = some (.iconst 0) := by decide +kernel
theorem h85_1 : mfetch q85.2.1 1 = some (.istore_n 1) := by decide +kernel
theorem h85_2 : mfetch q85.2.1 2 = some (.iconst 0) := by decide +kernel
theorem h85_3 : mfetch q85.2.1 3 = some (.istore_n 2) := by decide +kernel
theorem h85_4 : mfetch q85.2.1 4 = some (.iload_n 2) := by decide +kernel
theorem h85_5 : mfetch q85.2.1 5 = some (.aload_n 0) := by decide +kernel
theorem h85_6 : mfetch q85.2.1 6 = some (.getfield 25) := by decide +kernel
theorem h85_9 : mfetch q85.2.1 9 = some (.getfield 226) := by decide +kernel
theorem h85_12 : mfetch q85.2.1 12 = some (.if_icmp .ge 34) := by decide +kernel
theorem h85_15 : mfetch q85.2.1 15 = some (.iload_n 2) := by decide +kernel
theorem h85_16 : mfetch q85.2.1 16 = some (.iconst 5) := by decide +kernel
theorem h85_17 : mfetch q85.2.1 17 = some (.if_icmp .ge 29) := by decide +kernel
theorem h85_20 : mfetch q85.2.1 20 = some (.iload_n 1) := by decide +kernel
theorem h85_21 : mfetch q85.2.1 21 = some (.aload_n 0) := by decide +kernel
theorem h85_22 : mfetch q85.2.1 22 = some (.aload_n 0) := by decide +kernel
theorem h85_23 : mfetch q85.2.1 23 = some (.getfield 25) := by decide +kernel
theorem h85_26 : mfetch q85.2.1 26 = some (.getfield 229) := by decide +kernel
theorem h85_29 : mfetch q85.2.1 29 = some (.iload_n 2) := by decide +kernel
theorem h85_30 : mfetch q85.2.1 30 = some (.aaload) := by decide +kernel
theorem h85_31 : mfetch q85.2.1 31 = some (.aload_n 0) := by decide +kernel
theorem h85_32 : mfetch q85.2.1 32 = some (.getfield 100) := by decide +kernel
theorem h85_35 : mfetch q85.2.1 35 = some (.invokevirtual 198) := by decide +kernel
theorem h85_38 : mfetch q85.2.1 38 = some (.iadd) := by decide +kernel
theorem h85_39 : mfetch q85.2.1 39 = some (.istore_n 1) := by decide +kernel
theorem h85_40 : mfetch q85.2.1 40 = some (.iinc 2 1) := by decide +kernel
theorem h85_43 : mfetch q85.2.1 43 = some (.goto (-39)) := by decide +kernel
theorem h85_46 : mfetch q85.2.1 46 = some (.iload_n 1) := by decide +kernel
theorem h85_47 : mfetch q85.2.1 47 = some (.ireturn) := by decide +kernel
theorem E85_0 : (∀ (d : Nat) (loc : List (Option Value)) (st : List Value) (h : MH) (P : MP), mFr d 85 0 loc st h P = mFr d 85 1 loc (.int 0 :: st) h P) ∧
  (∀ (d : Nat) (l0 : Option Value) (l1 : Option Value) (l2 : Option Value) (x : Int32) (st : List Value) (h : MH) (P : MP), mnl l0 = true → mFr d 85 1 [l0, l1, l2] (.int x :: st) h P = mFr d 85 2 [l0, some (.int x), l2] (st) h P) ∧
  (∀ (d : Nat) (loc : List (Option Value)) (st : List Value) (h : MH) (P : MP), mFr d 85 2 loc st h P = mFr d 85 3 loc (.int 0 :: st) h P) ∧
  (∀ (d : Nat) (l0 : Option Value) (l1 : Option Value) (l2 : Option Value) (x : Int32) (st : List Value) (h : MH) (P : MP), mnl l1 = true → mFr d 85 3 [l0, l1, l2] (.int x :: st) h P = mFr d 85 4 [l0, l1, some (.int x)] (st) h P) := ⟨fun _ _ _ _ _ => (mFr_S mq85 h85_0).trans rfl,
  fun _ _ _ _ _ _ _ _ hm => (mFr_S mq85 h85_1).trans (by simp only [mgo.eq_1, mstep, mi1, ml1, mast, mst, mst2, mprev, List.length_cons, List.length_nil, List.getElem?_cons_succ, List.getElem?_cons_zero, hm]; rfl),
  fun _ _ _ _ _ => (mFr_S mq85 h85_2).trans rfl,
  fun _ _ _ _ _ _ _ _ hm => (mFr_S mq85 h85_3).trans (by simp only [mgo.eq_1, mstep, mi1, ml1, mast, mst, mst2, mprev, List.length_cons, List.length_nil, List.getElem?_cons_succ, List.getElem?_cons_zero, hm]; rfl)⟩
theorem E85_4 : (∀ (d : Nat) (l0 : Option Value) (l1 : Option Value) (x : Int32) (st : List Value) (h : MH) (P : MP), mFr d 85 4 [l0, l1, some (.int x)] st h P = mFr d 85 5 [l0, l1, some (.int x)] (.int x :: st) h P) ∧
  (∀ (d : Nat) (l1 : Option Value) (l2 : Option Value) (x : Nat) (st : List Value) (h : MH) (P : MP), mFr d 85 5 [some (.ref x), l1, l2] st h P = mFr d 85 6 [some (.ref x), l1, l2] (.ref x :: st) h P) ∧
  (∀ (d : Nat) (loc : List (Option Value)) (a : Nat) (st : List Value) (h : MH) (P : MP), mFr d 85 6 loc (.ref a :: st) h P = pget h a 8 5 (fun v => mFr d 85 9 loc (v :: st) h P)) ∧
  (∀ (d : Nat) (loc : List (Option Value)) (a : Nat) (st : List Value) (h : MH) (P : MP), mFr d 85 9 loc (.ref a :: st) h P = pget h a 0 1 (fun v => mFr d 85 12 loc (v :: st) h P)) ∧
  (∀ (d : Nat) (loc : List (Option Value)) (x y : Int32) (st : List Value) (h : MH) (P : MP), mFr d 85 12 loc (.int y :: .int x :: st) h P = if x < y then mFr d 85 15 loc (st) h P else mFr d 85 46 loc (st) h P) := ⟨fun _ _ _ _ _ _ _ => (mFr_S mq85 h85_4).trans rfl,
  fun _ _ _ _ _ _ _ => (mFr_S mq85 h85_5).trans rfl,
  fun _ _ _ _ _ _ => F_get mq85 h85_6 (Or.inl (rfl : _ = some (25, 0, 8, 5))),
  fun _ _ _ _ _ _ => F_get mq85 h85_9 (Or.inr (rfl : _ = some (226, 1, 0, 1))),
  fun _ _ _ _ _ _ _ => (F_icmp 46 mq85 h85_12 (by decide)).trans mif_ge⟩
theorem E85_15 : (∀ (d : Nat) (l0 : Option Value) (l1 : Option Value) (x : Int32) (st : List Value) (h : MH) (P : MP), mFr d 85 15 [l0, l1, some (.int x)] st h P = mFr d 85 16 [l0, l1, some (.int x)] (.int x :: st) h P) ∧
  (∀ (d : Nat) (loc : List (Option Value)) (st : List Value) (h : MH) (P : MP), mFr d 85 16 loc st h P = mFr d 85 17 loc (.int 5 :: st) h P) ∧
  (∀ (d : Nat) (loc : List (Option Value)) (x y : Int32) (st : List Value) (h : MH) (P : MP), mFr d 85 17 loc (.int y :: .int x :: st) h P = if x < y then mFr d 85 20 loc (st) h P else mFr d 85 46 loc (st) h P) := ⟨fun _ _ _ _ _ _ _ => (mFr_S mq85 h85_15).trans rfl,
  fun _ _ _ _ _ => (mFr_S mq85 h85_16).trans rfl,
  fun _ _ _ _ _ _ _ => (F_icmp 46 mq85 h85_17 (by decide)).trans mif_ge⟩
theorem E85_20 : (∀ (d : Nat) (l0 : Option Value) (l2 : Option Value) (x : Int32) (st : List Value) (h : MH) (P : MP), mFr d 85 20 [l0, some (.int x), l2] st h P = mFr d 85 21 [l0, some (.int x), l2] (.int x :: st) h P) ∧
  (∀ (d : Nat) (l1 : Option Value) (l2 : Option Value) (x : Nat) (st : List Value) (h : MH) (P : MP), mFr d 85 21 [some (.ref x), l1, l2] st h P = mFr d 85 22 [some (.ref x), l1, l2] (.ref x :: st) h P) ∧
  (∀ (d : Nat) (l1 : Option Value) (l2 : Option Value) (x : Nat) (st : List Value) (h : MH) (P : MP), mFr d 85 22 [some (.ref x), l1, l2] st h P = mFr d 85 23 [some (.ref x), l1, l2] (.ref x :: st) h P) ∧
  (∀ (d : Nat) (loc : List (Option Value)) (a : Nat) (st : List Value) (h : MH) (P : MP), mFr d 85 23 loc (.ref a :: st) h P = pget h a 8 5 (fun v => mFr d 85 26 loc (v :: st) h P)) ∧
  (∀ (d : Nat) (loc : List (Option Value)) (a : Nat) (st : List Value) (h : MH) (P : MP), mFr d 85 26 loc (.ref a :: st) h P = pget h a 0 0 (fun v => mFr d 85 29 loc (v :: st) h P)) ∧
  (∀ (d : Nat) (l0 : Option Value) (l1 : Option Value) (x : Int32) (st : List Value) (h : MH) (P : MP), mFr d 85 29 [l0, l1, some (.int x)] st h P = mFr d 85 30 [l0, l1, some (.int x)] (.int x :: st) h P) ∧
  (∀ (d : Nat) (loc : List (Option Value)) (a : Nat) (i : Int32) (st : List Value) (h : MH) (P : MP), mFr d 85 30 loc (.int i :: .ref a :: st) h P = paal h a i (fun v => mFr d 85 31 loc (v :: st) h P)) ∧
  (∀ (d : Nat) (l1 : Option Value) (l2 : Option Value) (x : Nat) (st : List Value) (h : MH) (P : MP), mFr d 85 31 [some (.ref x), l1, l2] st h P = mFr d 85 32 [some (.ref x), l1, l2] (.ref x :: st) h P) ∧
  (∀ (d : Nat) (loc : List (Option Value)) (a : Nat) (st : List Value) (h : MH) (P : MP), mFr d 85 32 loc (.ref a :: st) h P = pget h a 8 4 (fun v => mFr d 85 35 loc (v :: st) h P)) ∧
  (∀ (d : Nat) (loc : List (Option Value)) (b : Nat) (a0 : Nat) (a1 : Nat) (s0 : Int32) (h : MH) (P : MP), mFr d 85 35 loc ((.ref a1) :: (.ref a0) :: .ref b :: [.int s0]) h P = if mrcv h b 8 = true then mRun d 75 [.ref b, .ref a0, .ref a1] h (fun v h' => mFr d 85 38 loc (v.toList ++ [.int s0]) h' P) else False) ∧
  (∀ (d : Nat) (loc : List (Option Value)) (x y : Int32) (st : List Value) (h : MH) (P : MP), mFr d 85 38 loc (.int y :: .int x :: st) h P = mFr d 85 39 loc (.int (x + y) :: st) h P) ∧
  (∀ (d : Nat) (l0 : Option Value) (l1 : Option Value) (l2 : Option Value) (x : Int32) (st : List Value) (h : MH) (P : MP), mnl l0 = true → mFr d 85 39 [l0, l1, l2] (.int x :: st) h P = mFr d 85 40 [l0, some (.int x), l2] (st) h P) ∧
  (∀ (d : Nat) (l0 : Option Value) (l1 : Option Value) (x : Int32) (st : List Value) (h : MH) (P : MP), mnl l1 = true → mFr d 85 40 [l0, l1, some (.int x)] st h P = mFr d 85 43 [l0, l1, some (.int (x + 1))] (st) h P) ∧
  (∀ (d : Nat) (loc : List (Option Value)) (st : List Value) (h : MH) (P : MP), mFr d 85 43 loc st h P = mFr d 85 4 loc (st) h P) := ⟨fun _ _ _ _ _ _ _ => (mFr_S mq85 h85_20).trans rfl,
  fun _ _ _ _ _ _ _ => (mFr_S mq85 h85_21).trans rfl,
  fun _ _ _ _ _ _ _ => (mFr_S mq85 h85_22).trans rfl,
  fun _ _ _ _ _ _ => F_get mq85 h85_23 (Or.inl (rfl : _ = some (25, 0, 8, 5))),
  fun _ _ _ _ _ _ => F_get mq85 h85_26 (Or.inr (rfl : _ = some (229, 1, 0, 0))),
  fun _ _ _ _ _ _ _ => (mFr_S mq85 h85_29).trans rfl,
  fun _ _ _ _ _ _ _ => F_aald mq85 h85_30,
  fun _ _ _ _ _ _ _ => (mFr_S mq85 h85_31).trans rfl,
  fun _ _ _ _ _ _ => F_get mq85 h85_32 (Or.inl (rfl : _ = some (100, 0, 8, 4))),
  fun _ _ b a0 a1 s0 _ _ => F_callV (as := [.ref a0, .ref a1]) (rest := [.int s0]) mq85 (Or.inl h85_35) (rfl : _ = some (198, 6, 75, 0)) (Or.inl ⟨h85_35, by decide⟩) (by rfl) (by rfl) (by rfl) (Nat.le_of_ble_eq_true rfl),
  fun _ _ _ _ _ _ _ => (mFr_S mq85 h85_38).trans rfl,
  fun _ _ _ _ _ _ _ _ hm => (mFr_S mq85 h85_39).trans (by simp only [mgo.eq_1, mstep, mi1, ml1, mast, mst, mst2, mprev, List.length_cons, List.length_nil, List.getElem?_cons_succ, List.getElem?_cons_zero, hm]; rfl),
  fun _ _ _ _ _ _ _ hm => (mFr_S mq85 h85_40).trans (by simp only [mgo.eq_1, mstep, mld, mst, mprev, List.length_cons, List.length_nil, List.getElem?_cons_succ, List.getElem?_cons_zero, hm]; rfl),
  fun _ _ _ _ _ => F_goto 4 mq85 h85_43 (by decide)⟩
theorem E85_46 : (∀ (d : Nat) (l0 : Option Value) (l2 : Option Value) (x : Int32) (st : List Value) (h : MH) (P : MP), mFr d 85 46 [l0, some (.int x), l2] st h P = mFr d 85 47 [l0, some (.int x), l2] (.int x :: st) h P) ∧
  (∀ (d : Nat) (loc : List (Option Value)) (x : Int32) (h : MH) (P : MP), mFr d 85 47 loc [.int x] h P = P (some (.int x)) h) := ⟨fun _ _ _ _ _ _ _ => (mFr_S mq85 h85_46).trans rfl,
  fun _ _ _ _ _ => F_ret mq85 h85_47 rfl rfl⟩
theorem B85 : ∀ (d : Nat) (b : Nat) (h : MH) (P : MP), mRun (d + 1) 85 [.ref b] h P = mFr d 85 0 [some (.ref b), none, none] [] h P := fun _ _ _ _ => mRun_S mq85 (Nat.le_of_ble_eq_true rfl)
-- 86: PuncturesAreViews.worstPlace()I loops at [2, 26, 67]
def q86 : MI := (yX8_worstPlace, cX8_worstPlace, 4, (some .int), 8, 0)
theorem mq86 : mtab[86]? = some q86 := rfl
theorem h86_0 : mfetch q86.2.1 0 = some (.iconst 0) := by decide +kernel
theorem h86_1 : mfetch q86.2.1 1 = some (.istore_n 1) := by decide +kernel
theorem h86_2 : mfetch q86.2.1 2 = some (.iload_n 1) := by decide +kernel
theorem h86_3 : mfetch q86.2.1 3 = some (.aload_n 0) := by decide +kernel
theorem h86_4 : mfetch q86.2.1 4 = some (.getfield 48) := by decide +kernel
theorem h86_7 : mfetch q86.2.1 7 = some (.arraylength) := by decide +kernel
theorem h86_8 : mfetch q86.2.1 8 = some (.if_icmp .ge 16) := by decide +kernel
theorem h86_11 : mfetch q86.2.1 11 = some (.aload_n 0) := by decide +kernel
theorem h86_12 : mfetch q86.2.1 12 = some (.getfield 48) := by decide +kernel
theorem h86_15 : mfetch q86.2.1 15 = some (.iload_n 1) := by decide +kernel
theorem h86_16 : mfetch q86.2.1 16 = some (.iconst 0) := by decide +kernel
theorem h86_17 : mfetch q86.2.1 17 = some (.iastore) := by decide +kernel
theorem h86_18 : mfetch q86.2.1 18 = some (.iinc 1 1) := by decide +kernel
theorem h86_21 : mfetch q86.2.1 21 = some (.goto (-19)) := by decide +kernel
theorem h86_24 : mfetch q86.2.1 24 = some (.iconst 0) := by decide +kernel
theorem h86_25 : mfetch q86.2.1 25 = some (.istore_n 1) := by decide +kernel
theorem h86_26 : mfetch q86.2.1 26 = some (.iload_n 1) := by decide +kernel
theorem h86_27 : mfetch q86.2.1 27 = some (.aload_n 0) := by decide +kernel
theorem h86_28 : mfetch q86.2.1 28 = some (.getfield 25) := by decide +kernel
theorem h86_31 : mfetch q86.2.1 31 = some (.getfield 226) := by decide +kernel
theorem h86_34 : mfetch q86.2.1 34 = some (.if_icmp .ge 27) := by decide +kernel
theorem h86_37 : mfetch q86.2.1 37 = some (.iload_n 1) := by decide +kernel
theorem h86_38 : mfetch q86.2.1 38 = some (.iconst 5) := by decide +kernel
theorem h86_39 : mfetch q86.2.1 39 = some (.if_icmp .ge 22) := by decide +kernel
theorem h86_42 : mfetch q86.2.1 42 = some (.aload_n 0) := by decide +kernel
theorem h86_43 : mfetch q86.2.1 43 = some (.aload_n 0) := by decide +kernel
theorem h86_44 : mfetch q86.2.1 44 = some (.getfield 25) := by decide +kernel
theorem h86_47 : mfetch q86.2.1 47 = some (.getfield 229) := by decide +kernel
theorem h86_50 : mfetch q86.2.1 50 = some (.iload_n 1) := by decide +kernel
theorem h86_51 : mfetch q86.2.1 51 = some (.aaload) := by decide +kernel
theorem h86_52 : mfetch q86.2.1 52 = some (.invokevirtual 233) := by decide +kernel
theorem h86_55 : mfetch q86.2.1 55 = some (.iinc 1 1) := by decide +kernel
theorem h86_58 : mfetch q86.2.1 58 = some (.goto (-32)) := by decide +kernel
theorem h86_61 : mfetch q86.2.1 61 = some (.iconst (-1)) := by decide +kernel
theorem h86_62 : mfetch q86.2.1 62 = some (.istore_n 1) := by decide +kernel
theorem h86_63 : mfetch q86.2.1 63 = some (.iconst 0) := by decide +kernel
theorem h86_64 : mfetch q86.2.1 64 = some (.istore_n 2) := by decide +kernel
theorem h86_65 : mfetch q86.2.1 65 = some (.iconst 0) := by decide +kernel
theorem h86_66 : mfetch q86.2.1 66 = some (.istore_n 3) := by decide +kernel
theorem h86_67 : mfetch q86.2.1 67 = some (.iload_n 3) := by decide +kernel
theorem h86_68 : mfetch q86.2.1 68 = some (.aload_n 0) := by decide +kernel
theorem h86_69 : mfetch q86.2.1 69 = some (.getfield 48) := by decide +kernel
theorem h86_72 : mfetch q86.2.1 72 = some (.arraylength) := by decide +kernel
theorem h86_73 : mfetch q86.2.1 73 = some (.if_icmp .ge 28) := by decide +kernel
theorem h86_76 : mfetch q86.2.1 76 = some (.aload_n 0) := by decide +kernel
theorem h86_77 : mfetch q86.2.1 77 = some (.getfield 48) := by decide +kernel
theorem h86_80 : mfetch q86.2.1 80 = some (.iload_n 3) := by decide +kernel
theorem h86_81 : mfetch q86.2.1 81 = some (.iaload) := by decide +kernel
theorem h86_82 : mfetch q86.2.1 82 = some (.iload_n 2) := by decide +kernel
theorem h86_83 : mfetch q86.2.1 83 = some (.if_icmp .le 12) := by decide +kernel
theorem h86_86 : mfetch q86.2.1 86 = some (.aload_n 0) := by decide +kernel
theorem h86_87 : mfetch q86.2.1 87 = some (.getfield 48) := by decide +kernel
theorem h86_90 : mfetch q86.2.1 90 = some (.iload_n 3) := by decide +kernel
theorem h86_91 : mfetch q86.2.1 91 = some (.iaload) := by decide +kernel
theorem h86_92 : mfetch q86.2.1 92 = some (.istore_n 2) := by decide +kernel
theorem h86_93 : mfetch q86.2.1 93 = some (.iload_n 3) := by decide +kernel
theorem h86_94 : mfetch q86.2.1 94 = some (.istore_n 1) := by decide +kernel
theorem h86_95 : mfetch q86.2.1 95 = some (.iinc 3 1) := by decide +kernel
theorem h86_98 : mfetch q86.2.1 98 = some (.goto (-31)) := by decide +kernel
theorem h86_101 : mfetch q86.2.1 101 = some (.iload_n 1) := by decide +kernel
theorem h86_102 : mfetch q86.2.1 102 = some (.ireturn) := by decide +kernel
theorem E86_0 : (∀ (d : Nat) (loc : List (Option Value)) (st : List Value) (h : MH) (P : MP), mFr d 86 0 loc st h P = mFr d 86 1 loc (.int 0 :: st) h P) ∧
  (∀ (d : Nat) (l0 : Option Value) (l1 : Option Value) (l2 : Option Value) (l3 : Option Value) (x : Int32) (st : List Value) (h : MH) (P : MP), mnl l0 = true → mFr d 86 1 [l0, l1, l2, l3] (.int x :: st) h P = mFr d 86 2 [l0, some (.int x), l2, l3] (st) h P) := ⟨fun _ _ _ _ _ => (mFr_S mq86 h86_0).trans rfl,
  fun _ _ _ _ _ _ _ _ _ hm => (mFr_S mq86 h86_1).trans (by simp only [mgo.eq_1, mstep, mi1, ml1, mast, mst, mst2, mprev, List.length_cons, List.length_nil, List.getElem?_cons_succ, List.getElem?_cons_zero, hm]; rfl)⟩
theorem E86_2 : (∀ (d : Nat) (l0 : Option Value) (l2 : Option Value) (l3 : Option Value) (x : Int32) (st : List Value) (h : MH) (P : MP), mFr d 86 2 [l0, some (.int x), l2, l3] st h P = mFr d 86 3 [l0, some (.int x), l2, l3] (.int x :: st) h P) ∧
  (∀ (d : Nat) (l1 : Option Value) (l2 : Option Value) (l3 : Option Value) (x : Nat) (st : List Value) (h : MH) (P : MP), mFr d 86 3 [some (.ref x), l1, l2, l3] st h P = mFr d 86 4 [some (.ref x), l1, l2, l3] (.ref x :: st) h P) ∧
  (∀ (d : Nat) (loc : List (Option Value)) (a : Nat) (st : List Value) (h : MH) (P : MP), mFr d 86 4 loc (.ref a :: st) h P = pget h a 8 13 (fun v => mFr d 86 7 loc (v :: st) h P)) ∧
  (∀ (d : Nat) (loc : List (Option Value)) (a : Nat) (st : List Value) (h : MH) (P : MP), mFr d 86 7 loc (.ref a :: st) h P = palen h a (fun n => mFr d 86 8 loc (.int (Int32.ofNat n) :: st) h P)) ∧
  (∀ (d : Nat) (loc : List (Option Value)) (x y : Int32) (st : List Value) (h : MH) (P : MP), mFr d 86 8 loc (.int y :: .int x :: st) h P = if x < y then mFr d 86 11 loc (st) h P else mFr d 86 24 loc (st) h P) := ⟨fun _ _ _ _ _ _ _ _ => (mFr_S mq86 h86_2).trans rfl,
  fun _ _ _ _ _ _ _ _ => (mFr_S mq86 h86_3).trans rfl,
  fun _ _ _ _ _ _ => F_get mq86 h86_4 (Or.inl (rfl : _ = some (48, 0, 8, 13))),
  fun _ _ _ _ _ _ => F_alen mq86 h86_7,
  fun _ _ _ _ _ _ _ => (F_icmp 24 mq86 h86_8 (by decide)).trans mif_ge⟩
theorem E86_11 : (∀ (d : Nat) (l1 : Option Value) (l2 : Option Value) (l3 : Option Value) (x : Nat) (st : List Value) (h : MH) (P : MP), mFr d 86 11 [some (.ref x), l1, l2, l3] st h P = mFr d 86 12 [some (.ref x), l1, l2, l3] (.ref x :: st) h P) ∧
  (∀ (d : Nat) (loc : List (Option Value)) (a : Nat) (st : List Value) (h : MH) (P : MP), mFr d 86 12 loc (.ref a :: st) h P = pget h a 8 13 (fun v => mFr d 86 15 loc (v :: st) h P)) ∧
  (∀ (d : Nat) (l0 : Option Value) (l2 : Option Value) (l3 : Option Value) (x : Int32) (st : List Value) (h : MH) (P : MP), mFr d 86 15 [l0, some (.int x), l2, l3] st h P = mFr d 86 16 [l0, some (.int x), l2, l3] (.int x :: st) h P) ∧
  (∀ (d : Nat) (loc : List (Option Value)) (st : List Value) (h : MH) (P : MP), mFr d 86 16 loc st h P = mFr d 86 17 loc (.int 0 :: st) h P) ∧
  (∀ (d : Nat) (loc : List (Option Value)) (a : Nat) (i x : Int32) (st : List Value) (h : MH) (P : MP), mFr d 86 17 loc (.int x :: .int i :: .ref a :: st) h P = pias h a i x (fun h' => mFr d 86 18 loc (st) h' P)) ∧
  (∀ (d : Nat) (l0 : Option Value) (l2 : Option Value) (l3 : Option Value) (x : Int32) (st : List Value) (h : MH) (P : MP), mnl l0 = true → mFr d 86 18 [l0, some (.int x), l2, l3] st h P = mFr d 86 21 [l0, some (.int (x + 1)), l2, l3] (st) h P) ∧
  (∀ (d : Nat) (loc : List (Option Value)) (st : List Value) (h : MH) (P : MP), mFr d 86 21 loc st h P = mFr d 86 2 loc (st) h P) := ⟨fun _ _ _ _ _ _ _ _ => (mFr_S mq86 h86_11).trans rfl,
  fun _ _ _ _ _ _ => F_get mq86 h86_12 (Or.inl (rfl : _ = some (48, 0, 8, 13))),
  fun _ _ _ _ _ _ _ _ => (mFr_S mq86 h86_15).trans rfl,
  fun _ _ _ _ _ => (mFr_S mq86 h86_16).trans rfl,
  fun _ _ _ _ _ _ _ _ => F_iast mq86 h86_17,
  fun _ _ _ _ _ _ _ _ hm => (mFr_S mq86 h86_18).trans (by simp only [mgo.eq_1, mstep, mld, mst, mprev, List.length_cons, List.length_nil, List.getElem?_cons_succ, List.getElem?_cons_zero, hm]; rfl),
  fun _ _ _ _ _ => F_goto 2 mq86 h86_21 (by decide)⟩
theorem E86_24 : (∀ (d : Nat) (loc : List (Option Value)) (st : List Value) (h : MH) (P : MP), mFr d 86 24 loc st h P = mFr d 86 25 loc (.int 0 :: st) h P) ∧
  (∀ (d : Nat) (l0 : Option Value) (l1 : Option Value) (l2 : Option Value) (l3 : Option Value) (x : Int32) (st : List Value) (h : MH) (P : MP), mnl l0 = true → mFr d 86 25 [l0, l1, l2, l3] (.int x :: st) h P = mFr d 86 26 [l0, some (.int x), l2, l3] (st) h P) := ⟨fun _ _ _ _ _ => (mFr_S mq86 h86_24).trans rfl,
  fun _ _ _ _ _ _ _ _ _ hm => (mFr_S mq86 h86_25).trans (by simp only [mgo.eq_1, mstep, mi1, ml1, mast, mst, mst2, mprev, List.length_cons, List.length_nil, List.getElem?_cons_succ, List.getElem?_cons_zero, hm]; rfl)⟩
theorem E86_26 : (∀ (d : Nat) (l0 : Option Value) (l2 : Option Value) (l3 : Option Value) (x : Int32) (st : List Value) (h : MH) (P : MP), mFr d 86 26 [l0, some (.int x), l2, l3] st h P = mFr d 86 27 [l0, some (.int x), l2, l3] (.int x :: st) h P) ∧
  (∀ (d : Nat) (l1 : Option Value) (l2 : Option Value) (l3 : Option Value) (x : Nat) (st : List Value) (h : MH) (P : MP), mFr d 86 27 [some (.ref x), l1, l2, l3] st h P = mFr d 86 28 [some (.ref x), l1, l2, l3] (.ref x :: st) h P) ∧
  (∀ (d : Nat) (loc : List (Option Value)) (a : Nat) (st : List Value) (h : MH) (P : MP), mFr d 86 28 loc (.ref a :: st) h P = pget h a 8 5 (fun v => mFr d 86 31 loc (v :: st) h P)) ∧
  (∀ (d : Nat) (loc : List (Option Value)) (a : Nat) (st : List Value) (h : MH) (P : MP), mFr d 86 31 loc (.ref a :: st) h P = pget h a 0 1 (fun v => mFr d 86 34 loc (v :: st) h P)) ∧
  (∀ (d : Nat) (loc : List (Option Value)) (x y : Int32) (st : List Value) (h : MH) (P : MP), mFr d 86 34 loc (.int y :: .int x :: st) h P = if x < y then mFr d 86 37 loc (st) h P else mFr d 86 61 loc (st) h P) := ⟨fun _ _ _ _ _ _ _ _ => (mFr_S mq86 h86_26).trans rfl,
  fun _ _ _ _ _ _ _ _ => (mFr_S mq86 h86_27).trans rfl,
  fun _ _ _ _ _ _ => F_get mq86 h86_28 (Or.inl (rfl : _ = some (25, 0, 8, 5))),
  fun _ _ _ _ _ _ => F_get mq86 h86_31 (Or.inr (rfl : _ = some (226, 1, 0, 1))),
  fun _ _ _ _ _ _ _ => (F_icmp 61 mq86 h86_34 (by decide)).trans mif_ge⟩
theorem E86_37 : (∀ (d : Nat) (l0 : Option Value) (l2 : Option Value) (l3 : Option Value) (x : Int32) (st : List Value) (h : MH) (P : MP), mFr d 86 37 [l0, some (.int x), l2, l3] st h P = mFr d 86 38 [l0, some (.int x), l2, l3] (.int x :: st) h P) ∧
  (∀ (d : Nat) (loc : List (Option Value)) (st : List Value) (h : MH) (P : MP), mFr d 86 38 loc st h P = mFr d 86 39 loc (.int 5 :: st) h P) ∧
  (∀ (d : Nat) (loc : List (Option Value)) (x y : Int32) (st : List Value) (h : MH) (P : MP), mFr d 86 39 loc (.int y :: .int x :: st) h P = if x < y then mFr d 86 42 loc (st) h P else mFr d 86 61 loc (st) h P) := ⟨fun _ _ _ _ _ _ _ _ => (mFr_S mq86 h86_37).trans rfl,
  fun _ _ _ _ _ => (mFr_S mq86 h86_38).trans rfl,
  fun _ _ _ _ _ _ _ => (F_icmp 61 mq86 h86_39 (by decide)).trans mif_ge⟩
theorem E86_42 : (∀ (d : Nat) (l1 : Option Value) (l2 : Option Value) (l3 : Option Value) (x : Nat) (st : List Value) (h : MH) (P : MP), mFr d 86 42 [some (.ref x), l1, l2, l3] st h P = mFr d 86 43 [some (.ref x), l1, l2, l3] (.ref x :: st) h P) ∧
  (∀ (d : Nat) (l1 : Option Value) (l2 : Option Value) (l3 : Option Value) (x : Nat) (st : List Value) (h : MH) (P : MP), mFr d 86 43 [some (.ref x), l1, l2, l3] st h P = mFr d 86 44 [some (.ref x), l1, l2, l3] (.ref x :: st) h P) ∧
  (∀ (d : Nat) (loc : List (Option Value)) (a : Nat) (st : List Value) (h : MH) (P : MP), mFr d 86 44 loc (.ref a :: st) h P = pget h a 8 5 (fun v => mFr d 86 47 loc (v :: st) h P)) ∧
  (∀ (d : Nat) (loc : List (Option Value)) (a : Nat) (st : List Value) (h : MH) (P : MP), mFr d 86 47 loc (.ref a :: st) h P = pget h a 0 0 (fun v => mFr d 86 50 loc (v :: st) h P)) ∧
  (∀ (d : Nat) (l0 : Option Value) (l2 : Option Value) (l3 : Option Value) (x : Int32) (st : List Value) (h : MH) (P : MP), mFr d 86 50 [l0, some (.int x), l2, l3] st h P = mFr d 86 51 [l0, some (.int x), l2, l3] (.int x :: st) h P) ∧
  (∀ (d : Nat) (loc : List (Option Value)) (a : Nat) (i : Int32) (st : List Value) (h : MH) (P : MP), mFr d 86 51 loc (.int i :: .ref a :: st) h P = paal h a i (fun v => mFr d 86 52 loc (v :: st) h P)) ∧
  (∀ (d : Nat) (loc : List (Option Value)) (b : Nat) (a0 : Nat) (h : MH) (P : MP), mFr d 86 52 loc ((.ref a0) :: .ref b :: []) h P = if mrcv h b 8 = true then mRun d 87 [.ref b, .ref a0] h (fun v h' => mFr d 86 55 loc (v.toList ++ []) h' P) else False) ∧
  (∀ (d : Nat) (l0 : Option Value) (l2 : Option Value) (l3 : Option Value) (x : Int32) (st : List Value) (h : MH) (P : MP), mnl l0 = true → mFr d 86 55 [l0, some (.int x), l2, l3] st h P = mFr d 86 58 [l0, some (.int (x + 1)), l2, l3] (st) h P) ∧
  (∀ (d : Nat) (loc : List (Option Value)) (st : List Value) (h : MH) (P : MP), mFr d 86 58 loc st h P = mFr d 86 26 loc (st) h P) := ⟨fun _ _ _ _ _ _ _ _ => (mFr_S mq86 h86_42).trans rfl,
  fun _ _ _ _ _ _ _ _ => (mFr_S mq86 h86_43).trans rfl,
  fun _ _ _ _ _ _ => F_get mq86 h86_44 (Or.inl (rfl : _ = some (25, 0, 8, 5))),
  fun _ _ _ _ _ _ => F_get mq86 h86_47 (Or.inr (rfl : _ = some (229, 1, 0, 0))),
  fun _ _ _ _ _ _ _ _ => (mFr_S mq86 h86_50).trans rfl,
  fun _ _ _ _ _ _ _ => F_aald mq86 h86_51,
  fun _ _ b a0 _ _ => F_callV (as := [.ref a0]) (rest := []) mq86 (Or.inl h86_52) (rfl : _ = some (233, 6, 87, 0)) (Or.inl ⟨h86_52, by decide⟩) (by rfl) (by rfl) (by rfl) (Nat.le_of_ble_eq_true rfl),
  fun _ _ _ _ _ _ _ _ hm => (mFr_S mq86 h86_55).trans (by simp only [mgo.eq_1, mstep, mld, mst, mprev, List.length_cons, List.length_nil, List.getElem?_cons_succ, List.getElem?_cons_zero, hm]; rfl),
  fun _ _ _ _ _ => F_goto 26 mq86 h86_58 (by decide)⟩
theorem E86_61 : (∀ (d : Nat) (loc : List (Option Value)) (st : List Value) (h : MH) (P : MP), mFr d 86 61 loc st h P = mFr d 86 62 loc (.int (-1) :: st) h P) ∧
  (∀ (d : Nat) (l0 : Option Value) (l1 : Option Value) (l2 : Option Value) (l3 : Option Value) (x : Int32) (st : List Value) (h : MH) (P : MP), mnl l0 = true → mFr d 86 62 [l0, l1, l2, l3] (.int x :: st) h P = mFr d 86 63 [l0, some (.int x), l2, l3] (st) h P) ∧
  (∀ (d : Nat) (loc : List (Option Value)) (st : List Value) (h : MH) (P : MP), mFr d 86 63 loc st h P = mFr d 86 64 loc (.int 0 :: st) h P) ∧
  (∀ (d : Nat) (l0 : Option Value) (l1 : Option Value) (l2 : Option Value) (l3 : Option Value) (x : Int32) (st : List Value) (h : MH) (P : MP), mnl l1 = true → mFr d 86 64 [l0, l1, l2, l3] (.int x :: st) h P = mFr d 86 65 [l0, l1, some (.int x), l3] (st) h P) ∧
  (∀ (d : Nat) (loc : List (Option Value)) (st : List Value) (h : MH) (P : MP), mFr d 86 65 loc st h P = mFr d 86 66 loc (.int 0 :: st) h P) ∧
  (∀ (d : Nat) (l0 : Option Value) (l1 : Option Value) (l2 : Option Value) (l3 : Option Value) (x : Int32) (st : List Value) (h : MH) (P : MP), mnl l2 = true → mFr d 86 66 [l0, l1, l2, l3] (.int x :: st) h P = mFr d 86 67 [l0, l1, l2, some (.int x)] (st) h P) := ⟨fun _ _ _ _ _ => (mFr_S mq86 h86_61).trans rfl,
  fun _ _ _ _ _ _ _ _ _ hm => (mFr_S mq86 h86_62).trans (by simp only [mgo.eq_1, mstep, mi1, ml1, mast, mst, mst2, mprev, List.length_cons, List.length_nil, List.getElem?_cons_succ, List.getElem?_cons_zero, hm]; rfl),
  fun _ _ _ _ _ => (mFr_S mq86 h86_63).trans rfl,
  fun _ _ _ _ _ _ _ _ _ hm => (mFr_S mq86 h86_64).trans (by simp only [mgo.eq_1, mstep, mi1, ml1, mast, mst, mst2, mprev, List.length_cons, List.length_nil, List.getElem?_cons_succ, List.getElem?_cons_zero, hm]; rfl),
  fun _ _ _ _ _ => (mFr_S mq86 h86_65).trans rfl,
  fun _ _ _ _ _ _ _ _ _ hm => (mFr_S mq86 h86_66).trans (by simp only [mgo.eq_1, mstep, mi1, ml1, mast, mst, mst2, mprev, List.length_cons, List.length_nil, List.getElem?_cons_succ, List.getElem?_cons_zero, hm]; rfl)⟩
theorem E86_67 : (∀ (d : Nat) (l0 : Option Value) (l1 : Option Value) (l2 : Option Value) (x : Int32) (st : List Value) (h : MH) (P : MP), mFr d 86 67 [l0, l1, l2, some (.int x)] st h P = mFr d 86 68 [l0, l1, l2, some (.int x)] (.int x :: st) h P) ∧
  (∀ (d : Nat) (l1 : Option Value) (l2 : Option Value) (l3 : Option Value) (x : Nat) (st : List Value) (h : MH) (P : MP), mFr d 86 68 [some (.ref x), l1, l2, l3] st h P = mFr d 86 69 [some (.ref x), l1, l2, l3] (.ref x :: st) h P) ∧
  (∀ (d : Nat) (loc : List (Option Value)) (a : Nat) (st : List Value) (h : MH) (P : MP), mFr d 86 69 loc (.ref a :: st) h P = pget h a 8 13 (fun v => mFr d 86 72 loc (v :: st) h P)) ∧
  (∀ (d : Nat) (loc : List (Option Value)) (a : Nat) (st : List Value) (h : MH) (P : MP), mFr d 86 72 loc (.ref a :: st) h P = palen h a (fun n => mFr d 86 73 loc (.int (Int32.ofNat n) :: st) h P)) ∧
  (∀ (d : Nat) (loc : List (Option Value)) (x y : Int32) (st : List Value) (h : MH) (P : MP), mFr d 86 73 loc (.int y :: .int x :: st) h P = if x < y then mFr d 86 76 loc (st) h P else mFr d 86 101 loc (st) h P) := ⟨fun _ _ _ _ _ _ _ _ => (mFr_S mq86 h86_67).trans rfl,
  fun _ _ _ _ _ _ _ _ => (mFr_S mq86 h86_68).trans rfl,
  fun _ _ _ _ _ _ => F_get mq86 h86_69 (Or.inl (rfl : _ = some (48, 0, 8, 13))),
  fun _ _ _ _ _ _ => F_alen mq86 h86_72,
  fun _ _ _ _ _ _ _ => (F_icmp 101 mq86 h86_73 (by decide)).trans mif_ge⟩
theorem E86_76 : (∀ (d : Nat) (l1 : Option Value) (l2 : Option Value) (l3 : Option Value) (x : Nat) (st : List Value) (h : MH) (P : MP), mFr d 86 76 [some (.ref x), l1, l2, l3] st h P = mFr d 86 77 [some (.ref x), l1, l2, l3] (.ref x :: st) h P) ∧
  (∀ (d : Nat) (loc : List (Option Value)) (a : Nat) (st : List Value) (h : MH) (P : MP), mFr d 86 77 loc (.ref a :: st) h P = pget h a 8 13 (fun v => mFr d 86 80 loc (v :: st) h P)) ∧
  (∀ (d : Nat) (l0 : Option Value) (l1 : Option Value) (l2 : Option Value) (x : Int32) (st : List Value) (h : MH) (P : MP), mFr d 86 80 [l0, l1, l2, some (.int x)] st h P = mFr d 86 81 [l0, l1, l2, some (.int x)] (.int x :: st) h P) ∧
  (∀ (d : Nat) (loc : List (Option Value)) (a : Nat) (i : Int32) (st : List Value) (h : MH) (P : MP), mFr d 86 81 loc (.int i :: .ref a :: st) h P = pial h a i (fun x => mFr d 86 82 loc (.int x :: st) h P)) ∧
  (∀ (d : Nat) (l0 : Option Value) (l1 : Option Value) (l3 : Option Value) (x : Int32) (st : List Value) (h : MH) (P : MP), mFr d 86 82 [l0, l1, some (.int x), l3] st h P = mFr d 86 83 [l0, l1, some (.int x), l3] (.int x :: st) h P) ∧
  (∀ (d : Nat) (loc : List (Option Value)) (x y : Int32) (st : List Value) (h : MH) (P : MP), mFr d 86 83 loc (.int y :: .int x :: st) h P = if y < x then mFr d 86 86 loc (st) h P else mFr d 86 95 loc (st) h P) := ⟨fun _ _ _ _ _ _ _ _ => (mFr_S mq86 h86_76).trans rfl,
  fun _ _ _ _ _ _ => F_get mq86 h86_77 (Or.inl (rfl : _ = some (48, 0, 8, 13))),
  fun _ _ _ _ _ _ _ _ => (mFr_S mq86 h86_80).trans rfl,
  fun _ _ _ _ _ _ _ => F_iald mq86 h86_81,
  fun _ _ _ _ _ _ _ _ => (mFr_S mq86 h86_82).trans rfl,
  fun _ _ _ _ _ _ _ => (F_icmp 95 mq86 h86_83 (by decide)).trans mif_le⟩
theorem E86_86 : (∀ (d : Nat) (l1 : Option Value) (l2 : Option Value) (l3 : Option Value) (x : Nat) (st : List Value) (h : MH) (P : MP), mFr d 86 86 [some (.ref x), l1, l2, l3] st h P = mFr d 86 87 [some (.ref x), l1, l2, l3] (.ref x :: st) h P) ∧
  (∀ (d : Nat) (loc : List (Option Value)) (a : Nat) (st : List Value) (h : MH) (P : MP), mFr d 86 87 loc (.ref a :: st) h P = pget h a 8 13 (fun v => mFr d 86 90 loc (v :: st) h P)) ∧
  (∀ (d : Nat) (l0 : Option Value) (l1 : Option Value) (l2 : Option Value) (x : Int32) (st : List Value) (h : MH) (P : MP), mFr d 86 90 [l0, l1, l2, some (.int x)] st h P = mFr d 86 91 [l0, l1, l2, some (.int x)] (.int x :: st) h P) ∧
  (∀ (d : Nat) (loc : List (Option Value)) (a : Nat) (i : Int32) (st : List Value) (h : MH) (P : MP), mFr d 86 91 loc (.int i :: .ref a :: st) h P = pial h a i (fun x => mFr d 86 92 loc (.int x :: st) h P)) ∧
  (∀ (d : Nat) (l0 : Option Value) (l1 : Option Value) (l2 : Option Value) (l3 : Option Value) (x : Int32) (st : List Value) (h : MH) (P : MP), mnl l1 = true → mFr d 86 92 [l0, l1, l2, l3] (.int x :: st) h P = mFr d 86 93 [l0, l1, some (.int x), l3] (st) h P) ∧
  (∀ (d : Nat) (l0 : Option Value) (l1 : Option Value) (l2 : Option Value) (x : Int32) (st : List Value) (h : MH) (P : MP), mFr d 86 93 [l0, l1, l2, some (.int x)] st h P = mFr d 86 94 [l0, l1, l2, some (.int x)] (.int x :: st) h P) ∧
  (∀ (d : Nat) (l0 : Option Value) (l1 : Option Value) (l2 : Option Value) (l3 : Option Value) (x : Int32) (st : List Value) (h : MH) (P : MP), mnl l0 = true → mFr d 86 94 [l0, l1, l2, l3] (.int x :: st) h P = mFr d 86 95 [l0, some (.int x), l2, l3] (st) h P) := ⟨fun _ _ _ _ _ _ _ _ => (mFr_S mq86 h86_86).trans rfl,
  fun _ _ _ _ _ _ => F_get mq86 h86_87 (Or.inl (rfl : _ = some (48, 0, 8, 13))),
  fun _ _ _ _ _ _ _ _ => (mFr_S mq86 h86_90).trans rfl,
  fun _ _ _ _ _ _ _ => F_iald mq86 h86_91,
  fun _ _ _ _ _ _ _ _ _ hm => (mFr_S mq86 h86_92).trans (by simp only [mgo.eq_1, mstep, mi1, ml1, mast, mst, mst2, mprev, List.length_cons, List.length_nil, List.getElem?_cons_succ, List.getElem?_cons_zero, hm]; rfl),
  fun _ _ _ _ _ _ _ _ => (mFr_S mq86 h86_93).trans rfl,
  fun _ _ _ _ _ _ _ _ _ hm => (mFr_S mq86 h86_94).trans (by simp only [mgo.eq_1, mstep, mi1, ml1, mast, mst, mst2, mprev, List.length_cons, List.length_nil, List.getElem?_cons_succ, List.getElem?_cons_zero, hm]; rfl)⟩
theorem E86_95 : (∀ (d : Nat) (l0 : Option Value) (l1 : Option Value) (l2 : Option Value) (x : Int32) (st : List Value) (h : MH) (P : MP), mnl l2 = true → mFr d 86 95 [l0, l1, l2, some (.int x)] st h P = mFr d 86 98 [l0, l1, l2, some (.int (x + 1))] (st) h P) ∧
  (∀ (d : Nat) (loc : List (Option Value)) (st : List Value) (h : MH) (P : MP), mFr d 86 98 loc st h P = mFr d 86 67 loc (st) h P) := ⟨fun _ _ _ _ _ _ _ _ hm => (mFr_S mq86 h86_95).trans (by simp only [mgo.eq_1, mstep, mld, mst, mprev, List.length_cons, List.length_nil, List.getElem?_cons_succ, List.getElem?_cons_zero, hm]; rfl),
  fun _ _ _ _ _ => F_goto 67 mq86 h86_98 (by decide)⟩
theorem E86_101 : (∀ (d : Nat) (l0 : Option Value) (l2 : Option Value) (l3 : Option Value) (x : Int32) (st : List Value) (h : MH) (P : MP), mFr d 86 101 [l0, some (.int x), l2, l3] st h P = mFr d 86 102 [l0, some (.int x), l2, l3] (.int x :: st) h P) ∧
  (∀ (d : Nat) (loc : List (Option Value)) (x : Int32) (h : MH) (P : MP), mFr d 86 102 loc [.int x] h P = P (some (.int x)) h) := ⟨fun _ _ _ _ _ _ _ _ => (mFr_S mq86 h86_101).trans rfl,
  fun _ _ _ _ _ => F_ret mq86 h86_102 rfl rfl⟩
theorem B86 : ∀ (d : Nat) (b : Nat) (h : MH) (P : MP), mRun (d + 1) 86 [.ref b] h P = mFr d 86 0 [some (.ref b), none, none, none] [] h P := fun _ _ _ _ => mRun_S mq86 (Nat.le_of_ble_eq_true rfl)
-- 87: PuncturesAreViews.addFlats(LPuncturesAreViews$Rider;)V loops at [10]
def q87 : MI := (yX8_addFlats, cX8_addFlats, 3, none, 8, 1)
theorem mq87 : mtab[87]? = some q87 := rfl
theorem h87_0 : mfetch q87.2.1 0 = some (.aload_n 0) := by decide +kernel
theorem h87_1 : mfetch q87.2.1 1 = some (.getfield 45) := by decide +kernel
theorem h87_4 : mfetch q87.2.1 4 = some (.aload_n 1) := by decide +kernel
theorem h87_5 : mfetch q87.2.1 5 = some (.invokevirtual 194) := by decide +kernel
theorem h87_8 : mfetch q87.2.1 8 = some (.iconst 0) := by decide +kernel
theorem h87_9 : mfetch q87.2.1 9 = some (.istore_n 2) := by decide +kernel
theorem h87_10 : mfetch q87.2.1 10 = some (.iload_n 2) := by decide +kernel
theorem h87_11 : mfetch q87.2.1 11 = some (.sipush 240) := by decide +kernel
theorem h87_14 : mfetch q87.2.1 14 = some (.if_icmp .ge 75) := by decide +kernel
theorem h87_17 : mfetch q87.2.1 17 = some (.aload_n 0) := by decide +kernel
theorem h87_18 : mfetch q87.2.1 18 = some (.getfield 45) := by decide +kernel
theorem h87_21 : mfetch q87.2.1 21 = some (.invokevirtual 180) := by decide +kernel
theorem h87_24 : mfetch q87.2.1 24 = some (.ifCond .ne 65) := by decide +kernel
theorem h87_27 : mfetch q87.2.1 27 = some (.aload_n 0) := by decide +kernel
theorem h87_28 : mfetch q87.2.1 28 = some (.getfield 45) := by decide +kernel
theorem h87_31 : mfetch q87.2.1 31 = some (.aload_n 0) := by decide +kernel
theorem h87_32 : mfetch q87.2.1 32 = some (.getfield 100) := by decide +kernel
theorem h87_35 : mfetch q87.2.1 35 = some (.invokevirtual 184) := by decide +kernel
theorem h87_38 : mfetch q87.2.1 38 = some (.iconst 4) := by decide +kernel
theorem h87_39 : mfetch q87.2.1 39 = some (.if_icmp .ne 44) := by decide +kernel
theorem h87_42 : mfetch q87.2.1 42 = some (.aload_n 0) := by decide +kernel
theorem h87_43 : mfetch q87.2.1 43 = some (.getfield 45) := by decide +kernel
theorem h87_46 : mfetch q87.2.1 46 = some (.getfield 145) := by decide +kernel
theorem h87_49 : mfetch q87.2.1 49 = some (.ifCond .lt 34) := by decide +kernel
theorem h87_52 : mfetch q87.2.1 52 = some (.aload_n 0) := by decide +kernel
theorem h87_53 : mfetch q87.2.1 53 = some (.getfield 45) := by decide +kernel
theorem h87_56 : mfetch q87.2.1 56 = some (.getfield 145) := by decide +kernel
theorem h87_59 : mfetch q87.2.1 59 = some (.aload_n 0) := by decide +kernel
theorem h87_60 : mfetch q87.2.1 60 = some (.getfield 48) := by decide +kernel
theorem h87_63 : mfetch q87.2.1 63 = some (.arraylength) := by decide +kernel
theorem h87_64 : mfetch q87.2.1 64 = some (.if_icmp .ge 19) := by decide +kernel
theorem h87_67 : mfetch q87.2.1 67 = some (.aload_n 0) := by decide +kernel
theorem h87_68 : mfetch q87.2.1 68 = some (.getfield 48) := by decide +kernel
theorem h87_71 : mfetch q87.2.1 71 = some (.aload_n 0) := by decide +kernel
theorem h87_72 : mfetch q87.2.1 72 = some (.getfield 45) := by decide +kernel
theorem h87_75 : mfetch q87.2.1 75 = some (.getfield 145) := by decide +kernel
theorem h87_78 : mfetch q87.2.1 78 = some (.dup2) := by decide +kernel
theorem h87_79 : mfetch q87.2.1 79 = some (.iaload) := by decide +kernel
theorem h87_80 : mfetch q87.2.1 80 = some (.iconst 1) := by decide +kernel
theorem h87_81 : mfetch q87.2.1 81 = some (.iadd) := by decide +kernel
theorem h87_82 : mfetch q87.2.1 82 = some (.iastore) := by decide +kernel
theorem h87_83 : mfetch q87.2.1 83 = some (.iinc 2 1) := by decide +kernel
theorem h87_86 : mfetch q87.2.1 86 = some (.goto (-76)) := by decide +kernel
theorem h87_89 : mfetch q87.2.1 89 = some (.return_) := by decide +kernel
theorem E87_0 : (∀ (d : Nat) (l1 : Option Value) (l2 : Option Value) (x : Nat) (st : List Value) (h : MH) (P : MP), mFr d 87 0 [some (.ref x), l1, l2] st h P = mFr d 87 1 [some (.ref x), l1, l2] (.ref x :: st) h P) ∧
  (∀ (d : Nat) (loc : List (Option Value)) (a : Nat) (st : List Value) (h : MH) (P : MP), mFr d 87 1 loc (.ref a :: st) h P = pget h a 8 12 (fun v => mFr d 87 4 loc (v :: st) h P)) ∧
  (∀ (d : Nat) (l0 : Option Value) (l2 : Option Value) (x : Nat) (st : List Value) (h : MH) (P : MP), mFr d 87 4 [l0, some (.ref x), l2] st h P = mFr d 87 5 [l0, some (.ref x), l2] (.ref x :: st) h P) ∧
  (∀ (d : Nat) (l0 : Option Value) (l2 : Option Value) (st : List Value) (h : MH) (P : MP), mFr d 87 4 [l0, some .null, l2] st h P = mFr d 87 5 [l0, some .null, l2] (.null :: st) h P) ∧
  (∀ (d : Nat) (loc : List (Option Value)) (b : Nat) (a0 : Nat) (h : MH) (P : MP), mFr d 87 5 loc ((.ref a0) :: .ref b :: []) h P = if mrcv h b 1 = true then mRun d 9 [.ref b, .ref a0] h (fun v h' => mFr d 87 8 loc (v.toList ++ []) h' P) else False) ∧
  (∀ (d : Nat) (loc : List (Option Value)) (st : List Value) (h : MH) (P : MP), mFr d 87 8 loc st h P = mFr d 87 9 loc (.int 0 :: st) h P) ∧
  (∀ (d : Nat) (l0 : Option Value) (l1 : Option Value) (l2 : Option Value) (x : Int32) (st : List Value) (h : MH) (P : MP), mnl l1 = true → mFr d 87 9 [l0, l1, l2] (.int x :: st) h P = mFr d 87 10 [l0, l1, some (.int x)] (st) h P) := ⟨fun _ _ _ _ _ _ _ => (mFr_S mq87 h87_0).trans rfl,
  fun _ _ _ _ _ _ => F_get mq87 h87_1 (Or.inl (rfl : _ = some (45, 0, 8, 12))),
  fun _ _ _ _ _ _ _ => (mFr_S mq87 h87_4).trans rfl,
  fun _ _ _ _ _ _ => (mFr_S mq87 h87_4).trans rfl,
  fun _ _ b a0 _ _ => F_callV (as := [.ref a0]) (rest := []) mq87 (Or.inl h87_5) (rfl : _ = some (194, 6, 9, 1)) (Or.inl ⟨h87_5, by decide⟩) (by rfl) (by rfl) (by rfl) (Nat.le_of_ble_eq_true rfl),
  fun _ _ _ _ _ => (mFr_S mq87 h87_8).trans rfl,
  fun _ _ _ _ _ _ _ _ hm => (mFr_S mq87 h87_9).trans (by simp only [mgo.eq_1, mstep, mi1, ml1, mast, mst, mst2, mprev, List.length_cons, List.length_nil, List.getElem?_cons_succ, List.getElem?_cons_zero, hm]; rfl)⟩
theorem E87_10 : (∀ (d : Nat) (l0 : Option Value) (l1 : Option Value) (x : Int32) (st : List Value) (h : MH) (P : MP), mFr d 87 10 [l0, l1, some (.int x)] st h P = mFr d 87 11 [l0, l1, some (.int x)] (.int x :: st) h P) ∧
  (∀ (d : Nat) (loc : List (Option Value)) (st : List Value) (h : MH) (P : MP), mFr d 87 11 loc st h P = mFr d 87 14 loc (.int 240 :: st) h P) ∧
  (∀ (d : Nat) (loc : List (Option Value)) (x y : Int32) (st : List Value) (h : MH) (P : MP), mFr d 87 14 loc (.int y :: .int x :: st) h P = if x < y then mFr d 87 17 loc (st) h P else mFr d 87 89 loc (st) h P) := ⟨fun _ _ _ _ _ _ _ => (mFr_S mq87 h87_10).trans rfl,
  fun _ _ _ _ _ => (mFr_S mq87 h87_11).trans rfl,
  fun _ _ _ _ _ _ _ => (F_icmp 89 mq87 h87_14 (by decide)).trans mif_ge⟩
theorem E87_17 : (∀ (d : Nat) (l1 : Option Value) (l2 : Option Value) (x : Nat) (st : List Value) (h : MH) (P : MP), mFr d 87 17 [some (.ref x), l1, l2] st h P = mFr d 87 18 [some (.ref x), l1, l2] (.ref x :: st) h P) ∧
  (∀ (d : Nat) (loc : List (Option Value)) (a : Nat) (st : List Value) (h : MH) (P : MP), mFr d 87 18 loc (.ref a :: st) h P = pget h a 8 12 (fun v => mFr d 87 21 loc (v :: st) h P)) ∧
  (∀ (d : Nat) (loc : List (Option Value)) (b : Nat) (h : MH) (P : MP), mFr d 87 21 loc (.ref b :: []) h P = if mrcv h b 1 = true then mRun d 10 [.ref b] h (fun v h' => mFr d 87 24 loc (v.toList ++ []) h' P) else False) ∧
  (∀ (d : Nat) (loc : List (Option Value)) (x : Int32) (st : List Value) (h : MH) (P : MP), mFr d 87 24 loc (.int x :: st) h P = if x = 0 then mFr d 87 27 loc (st) h P else mFr d 87 89 loc (st) h P) := ⟨fun _ _ _ _ _ _ _ => (mFr_S mq87 h87_17).trans rfl,
  fun _ _ _ _ _ _ => F_get mq87 h87_18 (Or.inl (rfl : _ = some (45, 0, 8, 12))),
  fun _ _ b _ _ => F_callV (as := []) (rest := []) mq87 (Or.inl h87_21) (rfl : _ = some (180, 6, 10, 1)) (Or.inl ⟨h87_21, by decide⟩) (by rfl) (by rfl) (by rfl) (Nat.le_of_ble_eq_true rfl),
  fun _ _ _ _ _ _ => (F_ifz 89 mq87 h87_24 (by decide)).trans mif_ne⟩
theorem E87_27 : (∀ (d : Nat) (l1 : Option Value) (l2 : Option Value) (x : Nat) (st : List Value) (h : MH) (P : MP), mFr d 87 27 [some (.ref x), l1, l2] st h P = mFr d 87 28 [some (.ref x), l1, l2] (.ref x :: st) h P) ∧
  (∀ (d : Nat) (loc : List (Option Value)) (a : Nat) (st : List Value) (h : MH) (P : MP), mFr d 87 28 loc (.ref a :: st) h P = pget h a 8 12 (fun v => mFr d 87 31 loc (v :: st) h P)) ∧
  (∀ (d : Nat) (l1 : Option Value) (l2 : Option Value) (x : Nat) (st : List Value) (h : MH) (P : MP), mFr d 87 31 [some (.ref x), l1, l2] st h P = mFr d 87 32 [some (.ref x), l1, l2] (.ref x :: st) h P) ∧
  (∀ (d : Nat) (loc : List (Option Value)) (a : Nat) (st : List Value) (h : MH) (P : MP), mFr d 87 32 loc (.ref a :: st) h P = pget h a 8 4 (fun v => mFr d 87 35 loc (v :: st) h P)) ∧
  (∀ (d : Nat) (loc : List (Option Value)) (b : Nat) (a0 : Nat) (h : MH) (P : MP), mFr d 87 35 loc ((.ref a0) :: .ref b :: []) h P = if mrcv h b 1 = true then mRun d 11 [.ref b, .ref a0] h (fun v h' => mFr d 87 38 loc (v.toList ++ []) h' P) else False) ∧
  (∀ (d : Nat) (loc : List (Option Value)) (st : List Value) (h : MH) (P : MP), mFr d 87 38 loc st h P = mFr d 87 39 loc (.int 4 :: st) h P) ∧
  (∀ (d : Nat) (loc : List (Option Value)) (x y : Int32) (st : List Value) (h : MH) (P : MP), mFr d 87 39 loc (.int y :: .int x :: st) h P = if x = y then mFr d 87 42 loc (st) h P else mFr d 87 83 loc (st) h P) := ⟨fun _ _ _ _ _ _ _ => (mFr_S mq87 h87_27).trans rfl,
  fun _ _ _ _ _ _ => F_get mq87 h87_28 (Or.inl (rfl : _ = some (45, 0, 8, 12))),
  fun _ _ _ _ _ _ _ => (mFr_S mq87 h87_31).trans rfl,
  fun _ _ _ _ _ _ => F_get mq87 h87_32 (Or.inl (rfl : _ = some (100, 0, 8, 4))),
  fun _ _ b a0 _ _ => F_callV (as := [.ref a0]) (rest := []) mq87 (Or.inl h87_35) (rfl : _ = some (184, 6, 11, 1)) (Or.inl ⟨h87_35, by decide⟩) (by rfl) (by rfl) (by rfl) (Nat.le_of_ble_eq_true rfl),
  fun _ _ _ _ _ => (mFr_S mq87 h87_38).trans rfl,
  fun _ _ _ _ _ _ _ => (F_icmp 83 mq87 h87_39 (by decide)).trans mif_ne⟩
theorem E87_42 : (∀ (d : Nat) (l1 : Option Value) (l2 : Option Value) (x : Nat) (st : List Value) (h : MH) (P : MP), mFr d 87 42 [some (.ref x), l1, l2] st h P = mFr d 87 43 [some (.ref x), l1, l2] (.ref x :: st) h P) ∧
  (∀ (d : Nat) (loc : List (Option Value)) (a : Nat) (st : List Value) (h : MH) (P : MP), mFr d 87 43 loc (.ref a :: st) h P = pget h a 8 12 (fun v => mFr d 87 46 loc (v :: st) h P)) ∧
  (∀ (d : Nat) (loc : List (Option Value)) (a : Nat) (st : List Value) (h : MH) (P : MP), mFr d 87 46 loc (.ref a :: st) h P = pget h a 1 3 (fun v => mFr d 87 49 loc (v :: st) h P)) ∧
  (∀ (d : Nat) (loc : List (Option Value)) (x : Int32) (st : List Value) (h : MH) (P : MP), mFr d 87 49 loc (.int x :: st) h P = if x < 0 then mFr d 87 83 loc (st) h P else mFr d 87 52 loc (st) h P) := ⟨fun _ _ _ _ _ _ _ => (mFr_S mq87 h87_42).trans rfl,
  fun _ _ _ _ _ _ => F_get mq87 h87_43 (Or.inl (rfl : _ = some (45, 0, 8, 12))),
  fun _ _ _ _ _ _ => F_get mq87 h87_46 (Or.inr (rfl : _ = some (145, 1, 1, 3))),
  fun _ _ _ _ _ _ => (F_ifz 83 mq87 h87_49 (by decide)).trans mif_lt⟩
theorem E87_52 : (∀ (d : Nat) (l1 : Option Value) (l2 : Option Value) (x : Nat) (st : List Value) (h : MH) (P : MP), mFr d 87 52 [some (.ref x), l1, l2] st h P = mFr d 87 53 [some (.ref x), l1, l2] (.ref x :: st) h P) ∧
  (∀ (d : Nat) (loc : List (Option Value)) (a : Nat) (st : List Value) (h : MH) (P : MP), mFr d 87 53 loc (.ref a :: st) h P = pget h a 8 12 (fun v => mFr d 87 56 loc (v :: st) h P)) ∧
  (∀ (d : Nat) (loc : List (Option Value)) (a : Nat) (st : List Value) (h : MH) (P : MP), mFr d 87 56 loc (.ref a :: st) h P = pget h a 1 3 (fun v => mFr d 87 59 loc (v :: st) h P)) ∧
  (∀ (d : Nat) (l1 : Option Value) (l2 : Option Value) (x : Nat) (st : List Value) (h : MH) (P : MP), mFr d 87 59 [some (.ref x), l1, l2] st h P = mFr d 87 60 [some (.ref x), l1, l2] (.ref x :: st) h P) ∧
  (∀ (d : Nat) (loc : List (Option Value)) (a : Nat) (st : List Value) (h : MH) (P : MP), mFr d 87 60 loc (.ref a :: st) h P = pget h a 8 13 (fun v => mFr d 87 63 loc (v :: st) h P)) ∧
  (∀ (d : Nat) (loc : List (Option Value)) (a : Nat) (st : List Value) (h : MH) (P : MP), mFr d 87 63 loc (.ref a :: st) h P = palen h a (fun n => mFr d 87 64 loc (.int (Int32.ofNat n) :: st) h P)) ∧
  (∀ (d : Nat) (loc : List (Option Value)) (x y : Int32) (st : List Value) (h : MH) (P : MP), mFr d 87 64 loc (.int y :: .int x :: st) h P = if x < y then mFr d 87 67 loc (st) h P else mFr d 87 83 loc (st) h P) := ⟨fun _ _ _ _ _ _ _ => (mFr_S mq87 h87_52).trans rfl,
  fun _ _ _ _ _ _ => F_get mq87 h87_53 (Or.inl (rfl : _ = some (45, 0, 8, 12))),
  fun _ _ _ _ _ _ => F_get mq87 h87_56 (Or.inr (rfl : _ = some (145, 1, 1, 3))),
  fun _ _ _ _ _ _ _ => (mFr_S mq87 h87_59).trans rfl,
  fun _ _ _ _ _ _ => F_get mq87 h87_60 (Or.inl (rfl : _ = some (48, 0, 8, 13))),
  fun _ _ _ _ _ _ => F_alen mq87 h87_63,
  fun _ _ _ _ _ _ _ => (F_icmp 83 mq87 h87_64 (by decide)).trans mif_ge⟩
theorem E87_67 : (∀ (d : Nat) (l1 : Option Value) (l2 : Option Value) (x : Nat) (st : List Value) (h : MH) (P : MP), mFr d 87 67 [some (.ref x), l1, l2] st h P = mFr d 87 68 [some (.ref x), l1, l2] (.ref x :: st) h P) ∧
  (∀ (d : Nat) (loc : List (Option Value)) (a : Nat) (st : List Value) (h : MH) (P : MP), mFr d 87 68 loc (.ref a :: st) h P = pget h a 8 13 (fun v => mFr d 87 71 loc (v :: st) h P)) ∧
  (∀ (d : Nat) (l1 : Option Value) (l2 : Option Value) (x : Nat) (st : List Value) (h : MH) (P : MP), mFr d 87 71 [some (.ref x), l1, l2] st h P = mFr d 87 72 [some (.ref x), l1, l2] (.ref x :: st) h P) ∧
  (∀ (d : Nat) (loc : List (Option Value)) (a : Nat) (st : List Value) (h : MH) (P : MP), mFr d 87 72 loc (.ref a :: st) h P = pget h a 8 12 (fun v => mFr d 87 75 loc (v :: st) h P)) ∧
  (∀ (d : Nat) (loc : List (Option Value)) (a : Nat) (st : List Value) (h : MH) (P : MP), mFr d 87 75 loc (.ref a :: st) h P = pget h a 1 3 (fun v => mFr d 87 78 loc (v :: st) h P)) ∧
  (∀ (d : Nat) (loc : List (Option Value)) (x : Int32) (y : Nat) (st : List Value) (h : MH) (P : MP), mFr d 87 78 loc (.int x :: .ref y :: st) h P = mFr d 87 79 loc (.int x :: .ref y :: .int x :: .ref y :: st) h P) ∧
  (∀ (d : Nat) (loc : List (Option Value)) (a : Nat) (i : Int32) (st : List Value) (h : MH) (P : MP), mFr d 87 79 loc (.int i :: .ref a :: st) h P = pial h a i (fun x => mFr d 87 80 loc (.int x :: st) h P)) ∧
  (∀ (d : Nat) (loc : List (Option Value)) (st : List Value) (h : MH) (P : MP), mFr d 87 80 loc st h P = mFr d 87 81 loc (.int 1 :: st) h P) ∧
  (∀ (d : Nat) (loc : List (Option Value)) (x y : Int32) (st : List Value) (h : MH) (P : MP), mFr d 87 81 loc (.int y :: .int x :: st) h P = mFr d 87 82 loc (.int (x + y) :: st) h P) ∧
  (∀ (d : Nat) (loc : List (Option Value)) (a : Nat) (i x : Int32) (st : List Value) (h : MH) (P : MP), mFr d 87 82 loc (.int x :: .int i :: .ref a :: st) h P = pias h a i x (fun h' => mFr d 87 83 loc (st) h' P)) := ⟨fun _ _ _ _ _ _ _ => (mFr_S mq87 h87_67).trans rfl,
  fun _ _ _ _ _ _ => F_get mq87 h87_68 (Or.inl (rfl : _ = some (48, 0, 8, 13))),
  fun _ _ _ _ _ _ _ => (mFr_S mq87 h87_71).trans rfl,
  fun _ _ _ _ _ _ => F_get mq87 h87_72 (Or.inl (rfl : _ = some (45, 0, 8, 12))),
  fun _ _ _ _ _ _ => F_get mq87 h87_75 (Or.inr (rfl : _ = some (145, 1, 1, 3))),
  fun _ _ _ _ _ _ _ => (mFr_S mq87 h87_78).trans rfl,
  fun _ _ _ _ _ _ _ => F_iald mq87 h87_79,
  fun _ _ _ _ _ => (mFr_S mq87 h87_80).trans rfl,
  fun _ _ _ _ _ _ _ => (mFr_S mq87 h87_81).trans rfl,
  fun _ _ _ _ _ _ _ _ => F_iast mq87 h87_82⟩
theorem E87_83 : (∀ (d : Nat) (l0 : Option Value) (l1 : Option Value) (x : Int32) (st : List Value) (h : MH) (P : MP), mnl l1 = true → mFr d 87 83 [l0, l1, some (.int x)] st h P = mFr d 87 86 [l0, l1, some (.int (x + 1))] (st) h P) ∧
  (∀ (d : Nat) (loc : List (Option Value)) (st : List Value) (h : MH) (P : MP), mFr d 87 86 loc st h P = mFr d 87 10 loc (st) h P) := ⟨fun _ _ _ _ _ _ _ hm => (mFr_S mq87 h87_83).trans (by simp only [mgo.eq_1, mstep, mld, mst, mprev, List.length_cons, List.length_nil, List.getElem?_cons_succ, List.getElem?_cons_zero, hm]; rfl),
  fun _ _ _ _ _ => F_goto 10 mq87 h87_86 (by decide)⟩
theorem E87_89 : (∀ (d : Nat) (loc : List (Option Value)) (h : MH) (P : MP), mFr d 87 89 loc [] h P = P none h) := fun _ _ _ _ => (mFr_S mq87 h87_89).trans rfl
theorem B87 : ∀ (d : Nat) (b : Nat) (a0 : Nat) (h : MH) (P : MP), mRun (d + 1) 87 [.ref b, .ref a0] h P = mFr d 87 0 [some (.ref b), some (.ref a0), none] [] h P := fun _ _ _ _ _ => mRun_S mq87 (Nat.le_of_ble_eq_true rfl)
-- 88: PuncturesAreViews.spread(I)I loops at [30, 81]
def q88 : MI := (yX8_spread, cX8_spread, 7, (some .int), 8, 1)
theorem mq88 : mtab[88]? = some q88 := rfl
theorem h88_0 : mfetch q88.2.1 0 = some (.iload_n 1) := by decide +kernel
theorem h88_1 : mfetch q88.2.1 1 = some (.ifCond .lt 8) := by decide +kernel
theorem h88_4 : mfetch q88.2.1 4 = some (.iload_n 1) := by decide +kernel
theorem h88_5 : mfetch q88.2.1 5 = some (.iconst 1) := by decide +kernel
theorem h88_6 : mfetch q88.2.1 6 = some (.if_icmp .le 6) := by decide +kernel
theorem h88_9 : mfetch q88.2.1 9 = some (.bipush (-2)) := by decide +kernel
theorem h88_11 : mfetch q88.2.1 11 = some (.ireturn) := by decide +kernel
theorem h88_12 : mfetch q88.2.1 12 = some (.aload_n 0) := by decide +kernel
theorem h88_13 : mfetch q88.2.1 13 = some (.getfield 25) := by decide +kernel
theorem h88_16 : mfetch q88.2.1 16 = some (.getfield 226) := by decide +kernel
theorem h88_19 : mfetch q88.2.1 19 = some (.iconst 3) := by decide +kernel
theorem h88_20 : mfetch q88.2.1 20 = some (.if_icmp .le 6) := by decide +kernel
theorem h88_23 : mfetch q88.2.1 23 = some (.bipush (-3)) := by decide +kernel
theorem h88_25 : mfetch q88.2.1 25 = some (.ireturn) := by decide +kernel
theorem h88_26 : mfetch q88.2.1 26 = some (.iconst 1) := by decide +kernel
theorem h88_27 : mfetch q88.2.1 27 = some (.istore_n 2) := by decide +kernel
theorem h88_28 : mfetch q88.2.1 28 = some (.iconst 0) := by decide +kernel
theorem h88_29 : mfetch q88.2.1 29 = some (.istore_n 3) := by decide +kernel
theorem h88_30 : mfetch q88.2.1 30 = some (.iload_n 3) := by decide +kernel
theorem h88_31 : mfetch q88.2.1 31 = some (.aload_n 0) := by decide +kernel
theorem h88_32 : mfetch q88.2.1 32 = some (.getfield 25) := by decide +kernel
theorem h88_35 : mfetch q88.2.1 35 = some (.getfield 226) := by decide +kernel
theorem h88_38 : mfetch q88.2.1 38 = some (.if_icmp .ge 24) := by decide +kernel
theorem h88_41 : mfetch q88.2.1 41 = some (.iload_n 3) := by decide +kernel
theorem h88_42 : mfetch q88.2.1 42 = some (.iconst 3) := by decide +kernel
theorem h88_43 : mfetch q88.2.1 43 = some (.if_icmp .ge 19) := by decide +kernel
theorem h88_46 : mfetch q88.2.1 46 = some (.aload_n 0) := by decide +kernel
theorem h88_47 : mfetch q88.2.1 47 = some (.iload_n 3) := by decide +kernel
theorem h88_48 : mfetch q88.2.1 48 = some (.invokevirtual 236) := by decide +kernel
theorem h88_51 : mfetch q88.2.1 51 = some (.iload_n 2) := by decide +kernel
theorem h88_52 : mfetch q88.2.1 52 = some (.bipush 10) := by decide +kernel
theorem h88_54 : mfetch q88.2.1 54 = some (.imul) := by decide +kernel
theorem h88_55 : mfetch q88.2.1 55 = some (.istore_n 2) := by decide +kernel
theorem h88_56 : mfetch q88.2.1 56 = some (.iinc 3 1) := by decide +kernel
theorem h88_59 : mfetch q88.2.1 59 = some (.goto (-29)) := by decide +kernel
theorem h88_62 : mfetch q88.2.1 62 = some (.aload_n 0) := by decide +kernel
theorem h88_63 : mfetch q88.2.1 63 = some (.getfield 25) := by decide +kernel
theorem h88_66 : mfetch q88.2.1 66 = some (.invokevirtual 239) := by decide +kernel
theorem h88_69 : mfetch q88.2.1 69 = some (.istore_n 3) := by decide +kernel
theorem h88_70 : mfetch q88.2.1 70 = some (.iconst 0) := by decide +kernel
theorem h88_71 : mfetch q88.2.1 71 = some (.istore 4) := by decide +kernel
theorem h88_73 : mfetch q88.2.1 73 = some (.sipush 721) := by decide +kernel
theorem h88_76 : mfetch q88.2.1 76 = some (.istore 5) := by decide +kernel
theorem h88_78 : mfetch q88.2.1 78 = some (.iconst 0) := by decide +kernel
theorem h88_79 : mfetch q88.2.1 79 = some (.istore 6) := by decide +kernel
theorem h88_81 : mfetch q88.2.1 81 = some (.iload 6) := by decide +kernel
theorem h88_83 : mfetch q88.2.1 83 = some (.iload_n 2) := by decide +kernel
theorem h88_84 : mfetch q88.2.1 84 = some (.if_icmp .ge 41) := by decide +kernel
theorem h88_87 : mfetch q88.2.1 87 = some (.iload 6) := by decide +kernel
theorem h88_89 : mfetch q88.2.1 89 = some (.invokestatic 241) := by decide +kernel
theorem h88_92 : mfetch q88.2.1 92 = some (.iload_n 3) := by decide +kernel
theorem h88_93 : mfetch q88.2.1 93 = some (.if_icmp .ne 26) := by decide +kernel
theorem h88_96 : mfetch q88.2.1 96 = some (.aload_n 0) := by decide +kernel
theorem h88_97 : mfetch q88.2.1 97 = some (.iload 6) := by decide +kernel
theorem h88_99 : mfetch q88.2.1 99 = some (.invokevirtual 244) := by decide +kernel
theorem h88_102 : mfetch q88.2.1 102 = some (.iload 5) := by decide +kernel
theorem h88_104 : mfetch q88.2.1 104 = some (.if_icmp .ge 15) := by decide +kernel
theorem h88_107 : mfetch q88.2.1 107 = some (.aload_n 0) := by decide +kernel
theorem h88_108 : mfetch q88.2.1 108 = some (.iload 6) := by decide +kernel
theorem h88_110 : mfetch q88.2.1 110 = some (.invokevirtual 244) := by decide +kernel
theorem h88_113 : mfetch q88.2.1 113 = some (.istore 5) := by decide +kernel
theorem h88_115 : mfetch q88.2.1 115 = some (.iload 6) := by decide +kernel
theorem h88_117 : mfetch q88.2.1 117 = some (.istore 4) := by decide +kernel
theorem h88_119 : mfetch q88.2.1 119 = some (.iinc 6 1) := by decide +kernel
theorem h88_122 : mfetch q88.2.1 122 = some (.goto (-41)) := by decide +kernel
theorem h88_125 : mfetch q88.2.1 125 = some (.iload_n 1) := by decide +kernel
theorem h88_126 : mfetch q88.2.1 126 = some (.ifCond .ne 8) := by decide +kernel
theorem h88_129 : mfetch q88.2.1 129 = some (.iload 4) := by decide +kernel
theorem h88_131 : mfetch q88.2.1 131 = some (.goto 5) := by decide +kernel
theorem h88_134 : mfetch q88.2.1 134 = some (.iload 5) := by decide +kernel
theorem h88_136 : mfetch q88.2.1 136 = some (.ireturn) := by decide +kernel
theorem E88_0 : (∀ (d : Nat) (l0 : Option Value) (l2 : Option Value) (l3 : Option Value) (l4 : Option Value) (l5 : Option Value) (l6 : Option Value) (x : Int32) (st : List Value) (h : MH) (P : MP), mFr d 88 0 [l0, some (.int x), l2, l3, l4, l5, l6] st h P = mFr d 88 1 [l0, some (.int x), l2, l3, l4, l5, l6] (.int x :: st) h P) ∧
  (∀ (d : Nat) (loc : List (Option Value)) (x : Int32) (st : List Value) (h : MH) (P : MP), mFr d 88 1 loc (.int x :: st) h P = if x < 0 then mFr d 88 9 loc (st) h P else mFr d 88 4 loc (st) h P) := ⟨fun _ _ _ _ _ _ _ _ _ _ _ => (mFr_S mq88 h88_0).trans rfl,
  fun _ _ _ _ _ _ => (F_ifz 9 mq88 h88_1 (by decide)).trans mif_lt⟩
theorem E88_4 : (∀ (d : Nat) (l0 : Option Value) (l2 : Option Value) (l3 : Option Value) (l4 : Option Value) (l5 : Option Value) (l6 : Option Value) (x : Int32) (st : List Value) (h : MH) (P : MP), mFr d 88 4 [l0, some (.int x), l2, l3, l4, l5, l6] st h P = mFr d 88 5 [l0, some (.int x), l2, l3, l4, l5, l6] (.int x :: st) h P) ∧
  (∀ (d : Nat) (loc : List (Option Value)) (st : List Value) (h : MH) (P : MP), mFr d 88 5 loc st h P = mFr d 88 6 loc (.int 1 :: st) h P) ∧
  (∀ (d : Nat) (loc : List (Option Value)) (x y : Int32) (st : List Value) (h : MH) (P : MP), mFr d 88 6 loc (.int y :: .int x :: st) h P = if y < x then mFr d 88 9 loc (st) h P else mFr d 88 12 loc (st) h P) := ⟨fun _ _ _ _ _ _ _ _ _ _ _ => (mFr_S mq88 h88_4).trans rfl,
  fun _ _ _ _ _ => (mFr_S mq88 h88_5).trans rfl,
  fun _ _ _ _ _ _ _ => (F_icmp 12 mq88 h88_6 (by decide)).trans mif_le⟩
theorem E88_9 : (∀ (d : Nat) (loc : List (Option Value)) (st : List Value) (h : MH) (P : MP), mFr d 88 9 loc st h P = mFr d 88 11 loc (.int (-2) :: st) h P) ∧
  (∀ (d : Nat) (loc : List (Option Value)) (x : Int32) (h : MH) (P : MP), mFr d 88 11 loc [.int x] h P = P (some (.int x)) h) := ⟨fun _ _ _ _ _ => (mFr_S mq88 h88_9).trans rfl,
  fun _ _ _ _ _ => F_ret mq88 h88_11 rfl rfl⟩
theorem E88_12 : (∀ (d : Nat) (l1 : Option Value) (l2 : Option Value) (l3 : Option Value) (l4 : Option Value) (l5 : Option Value) (l6 : Option Value) (x : Nat) (st : List Value) (h : MH) (P : MP), mFr d 88 12 [some (.ref x), l1, l2, l3, l4, l5, l6] st h P = mFr d 88 13 [some (.ref x), l1, l2, l3, l4, l5, l6] (.ref x :: st) h P) ∧
  (∀ (d : Nat) (loc : List (Option Value)) (a : Nat) (st : List Value) (h : MH) (P : MP), mFr d 88 13 loc (.ref a :: st) h P = pget h a 8 5 (fun v => mFr d 88 16 loc (v :: st) h P)) ∧
  (∀ (d : Nat) (loc : List (Option Value)) (a : Nat) (st : List Value) (h : MH) (P : MP), mFr d 88 16 loc (.ref a :: st) h P = pget h a 0 1 (fun v => mFr d 88 19 loc (v :: st) h P)) ∧
  (∀ (d : Nat) (loc : List (Option Value)) (st : List Value) (h : MH) (P : MP), mFr d 88 19 loc st h P = mFr d 88 20 loc (.int 3 :: st) h P) ∧
  (∀ (d : Nat) (loc : List (Option Value)) (x y : Int32) (st : List Value) (h : MH) (P : MP), mFr d 88 20 loc (.int y :: .int x :: st) h P = if y < x then mFr d 88 23 loc (st) h P else mFr d 88 26 loc (st) h P) := ⟨fun _ _ _ _ _ _ _ _ _ _ _ => (mFr_S mq88 h88_12).trans rfl,
  fun _ _ _ _ _ _ => F_get mq88 h88_13 (Or.inl (rfl : _ = some (25, 0, 8, 5))),
  fun _ _ _ _ _ _ => F_get mq88 h88_16 (Or.inr (rfl : _ = some (226, 1, 0, 1))),
  fun _ _ _ _ _ => (mFr_S mq88 h88_19).trans rfl,
  fun _ _ _ _ _ _ _ => (F_icmp 26 mq88 h88_20 (by decide)).trans mif_le⟩
theorem E88_23 : (∀ (d : Nat) (loc : List (Option Value)) (st : List Value) (h : MH) (P : MP), mFr d 88 23 loc st h P = mFr d 88 25 loc (.int (-3) :: st) h P) ∧
  (∀ (d : Nat) (loc : List (Option Value)) (x : Int32) (h : MH) (P : MP), mFr d 88 25 loc [.int x] h P = P (some (.int x)) h) := ⟨fun _ _ _ _ _ => (mFr_S mq88 h88_23).trans rfl,
  fun _ _ _ _ _ => F_ret mq88 h88_25 rfl rfl⟩
theorem E88_26 : (∀ (d : Nat) (loc : List (Option Value)) (st : List Value) (h : MH) (P : MP), mFr d 88 26 loc st h P = mFr d 88 27 loc (.int 1 :: st) h P) ∧
  (∀ (d : Nat) (l0 : Option Value) (l1 : Option Value) (l2 : Option Value) (l3 : Option Value) (l4 : Option Value) (l5 : Option Value) (l6 : Option Value) (x : Int32) (st : List Value) (h : MH) (P : MP), mnl l1 = true → mFr d 88 27 [l0, l1, l2, l3, l4, l5, l6] (.int x :: st) h P = mFr d 88 28 [l0, l1, some (.int x), l3, l4, l5, l6] (st) h P) ∧
  (∀ (d : Nat) (loc : List (Option Value)) (st : List Value) (h : MH) (P : MP), mFr d 88 28 loc st h P = mFr d 88 29 loc (.int 0 :: st) h P) ∧
  (∀ (d : Nat) (l0 : Option Value) (l1 : Option Value) (l2 : Option Value) (l3 : Option Value) (l4 : Option Value) (l5 : Option Value) (l6 : Option Value) (x : Int32) (st : List Value) (h : MH) (P : MP), mnl l2 = true → mFr d 88 29 [l0, l1, l2, l3, l4, l5, l6] (.int x :: st) h P = mFr d 88 30 [l0, l1, l2, some (.int x), l4, l5, l6] (st) h P) := ⟨fun _ _ _ _ _ => (mFr_S mq88 h88_26).trans rfl,
  fun _ _ _ _ _ _ _ _ _ _ _ _ hm => (mFr_S mq88 h88_27).trans (by simp only [mgo.eq_1, mstep, mi1, ml1, mast, mst, mst2, mprev, List.length_cons, List.length_nil, List.getElem?_cons_succ, List.getElem?_cons_zero, hm]; rfl),
  fun _ _ _ _ _ => (mFr_S mq88 h88_28).trans rfl,
  fun _ _ _ _ _ _ _ _ _ _ _ _ hm => (mFr_S mq88 h88_29).trans (by simp only [mgo.eq_1, mstep, mi1, ml1, mast, mst, mst2, mprev, List.length_cons, List.length_nil, List.getElem?_cons_succ, List.getElem?_cons_zero, hm]; rfl)⟩
theorem E88_30 : (∀ (d : Nat) (l0 : Option Value) (l1 : Option Value) (l2 : Option Value) (l4 : Option Value) (l5 : Option Value) (l6 : Option Value) (x : Int32) (st : List Value) (h : MH) (P : MP), mFr d 88 30 [l0, l1, l2, some (.int x), l4, l5, l6] st h P = mFr d 88 31 [l0, l1, l2, some (.int x), l4, l5, l6] (.int x :: st) h P) ∧
  (∀ (d : Nat) (l1 : Option Value) (l2 : Option Value) (l3 : Option Value) (l4 : Option Value) (l5 : Option Value) (l6 : Option Value) (x : Nat) (st : List Value) (h : MH) (P : MP), mFr d 88 31 [some (.ref x), l1, l2, l3, l4, l5, l6] st h P = mFr d 88 32 [some (.ref x), l1, l2, l3, l4, l5, l6] (.ref x :: st) h P) ∧
  (∀ (d : Nat) (loc : List (Option Value)) (a : Nat) (st : List Value) (h : MH) (P : MP), mFr d 88 32 loc (.ref a :: st) h P = pget h a 8 5 (fun v => mFr d 88 35 loc (v :: st) h P)) ∧
  (∀ (d : Nat) (loc : List (Option Value)) (a : Nat) (st : List Value) (h : MH) (P : MP), mFr d 88 35 loc (.ref a :: st) h P = pget h a 0 1 (fun v => mFr d 88 38 loc (v :: st) h P)) ∧
  (∀ (d : Nat) (loc : List (Option Value)) (x y : Int32) (st : List Value) (h : MH) (P : MP), mFr d 88 38 loc (.int y :: .int x :: st) h P = if x < y then mFr d 88 41 loc (st) h P else mFr d 88 62 loc (st) h P) := ⟨fun _ _ _ _ _ _ _ _ _ _ _ => (mFr_S mq88 h88_30).trans rfl,
  fun _ _ _ _ _ _ _ _ _ _ _ => (mFr_S mq88 h88_31).trans rfl,
  fun _ _ _ _ _ _ => F_get mq88 h88_32 (Or.inl (rfl : _ = some (25, 0, 8, 5))),
  fun _ _ _ _ _ _ => F_get mq88 h88_35 (Or.inr (rfl : _ = some (226, 1, 0, 1))),
  fun _ _ _ _ _ _ _ => (F_icmp 62 mq88 h88_38 (by decide)).trans mif_ge⟩
theorem E88_41 : (∀ (d : Nat) (l0 : Option Value) (l1 : Option Value) (l2 : Option Value) (l4 : Option Value) (l5 : Option Value) (l6 : Option Value) (x : Int32) (st : List Value) (h : MH) (P : MP), mFr d 88 41 [l0, l1, l2, some (.int x), l4, l5, l6] st h P = mFr d 88 42 [l0, l1, l2, some (.int x), l4, l5, l6] (.int x :: st) h P) ∧
  (∀ (d : Nat) (loc : List (Option Value)) (st : List Value) (h : MH) (P : MP), mFr d 88 42 loc st h P = mFr d 88 43 loc (.int 3 :: st) h P) ∧
  (∀ (d : Nat) (loc : List (Option Value)) (x y : Int32) (st : List Value) (h : MH) (P : MP), mFr d 88 43 loc (.int y :: .int x :: st) h P = if x < y then mFr d 88 46 loc (st) h P else mFr d 88 62 loc (st) h P) := ⟨fun _ _ _ _ _ _ _ _ _ _ _ => (mFr_S mq88 h88_41).trans rfl,
  fun _ _ _ _ _ => (mFr_S mq88 h88_42).trans rfl,
  fun _ _ _ _ _ _ _ => (F_icmp 62 mq88 h88_43 (by decide)).trans mif_ge⟩
theorem E88_46 : (∀ (d : Nat) (l1 : Option Value) (l2 : Option Value) (l3 : Option Value) (l4 : Option Value) (l5 : Option Value) (l6 : Option Value) (x : Nat) (st : List Value) (h : MH) (P : MP), mFr d 88 46 [some (.ref x), l1, l2, l3, l4, l5, l6] st h P = mFr d 88 47 [some (.ref x), l1, l2, l3, l4, l5, l6] (.ref x :: st) h P) ∧
  (∀ (d : Nat) (l0 : Option Value) (l1 : Option Value) (l2 : Option Value) (l4 : Option Value) (l5 : Option Value) (l6 : Option Value) (x : Int32) (st : List Value) (h : MH) (P : MP), mFr d 88 47 [l0, l1, l2, some (.int x), l4, l5, l6] st h P = mFr d 88 48 [l0, l1, l2, some (.int x), l4, l5, l6] (.int x :: st) h P) ∧
  (∀ (d : Nat) (loc : List (Option Value)) (b : Nat) (a0 : Int32) (h : MH) (P : MP), mFr d 88 48 loc ((.int a0) :: .ref b :: []) h P = if mrcv h b 8 = true then mRun d 89 [.ref b, .int a0] h (fun v h' => mFr d 88 51 loc (v.toList ++ []) h' P) else False) ∧
  (∀ (d : Nat) (l0 : Option Value) (l1 : Option Value) (l3 : Option Value) (l4 : Option Value) (l5 : Option Value) (l6 : Option Value) (x : Int32) (st : List Value) (h : MH) (P : MP), mFr d 88 51 [l0, l1, some (.int x), l3, l4, l5, l6] st h P = mFr d 88 52 [l0, l1, some (.int x), l3, l4, l5, l6] (.int x :: st) h P) ∧
  (∀ (d : Nat) (loc : List (Option Value)) (st : List Value) (h : MH) (P : MP), mFr d 88 52 loc st h P = mFr d 88 54 loc (.int 10 :: st) h P) ∧
  (∀ (d : Nat) (loc : List (Option Value)) (x y : Int32) (st : List Value) (h : MH) (P : MP), mFr d 88 54 loc (.int y :: .int x :: st) h P = mFr d 88 55 loc (.int (x * y) :: st) h P) ∧
  (∀ (d : Nat) (l0 : Option Value) (l1 : Option Value) (l2 : Option Value) (l3 : Option Value) (l4 : Option Value) (l5 : Option Value) (l6 : Option Value) (x : Int32) (st : List Value) (h : MH) (P : MP), mnl l1 = true → mFr d 88 55 [l0, l1, l2, l3, l4, l5, l6] (.int x :: st) h P = mFr d 88 56 [l0, l1, some (.int x), l3, l4, l5, l6] (st) h P) ∧
  (∀ (d : Nat) (l0 : Option Value) (l1 : Option Value) (l2 : Option Value) (l4 : Option Value) (l5 : Option Value) (l6 : Option Value) (x : Int32) (st : List Value) (h : MH) (P : MP), mnl l2 = true → mFr d 88 56 [l0, l1, l2, some (.int x), l4, l5, l6] st h P = mFr d 88 59 [l0, l1, l2, some (.int (x + 1)), l4, l5, l6] (st) h P) ∧
  (∀ (d : Nat) (loc : List (Option Value)) (st : List Value) (h : MH) (P : MP), mFr d 88 59 loc st h P = mFr d 88 30 loc (st) h P) := ⟨fun _ _ _ _ _ _ _ _ _ _ _ => (mFr_S mq88 h88_46).trans rfl,
  fun _ _ _ _ _ _ _ _ _ _ _ => (mFr_S mq88 h88_47).trans rfl,
  fun _ _ b a0 _ _ => F_callV (as := [.int a0]) (rest := []) mq88 (Or.inl h88_48) (rfl : _ = some (236, 6, 89, 0)) (Or.inl ⟨h88_48, by decide⟩) (by rfl) (by rfl) (by rfl) (Nat.le_of_ble_eq_true rfl),
  fun _ _ _ _ _ _ _ _ _ _ _ => (mFr_S mq88 h88_51).trans rfl,
  fun _ _ _ _ _ => (mFr_S mq88 h88_52).trans rfl,
  fun _ _ _ _ _ _ _ => (mFr_S mq88 h88_54).trans rfl,
  fun _ _ _ _ _ _ _ _ _ _ _ _ hm => (mFr_S mq88 h88_55).trans (by simp only [mgo.eq_1, mstep, mi1, ml1, mast, mst, mst2, mprev, List.length_cons, List.length_nil, List.getElem?_cons_succ, List.getElem?_cons_zero, hm]; rfl),
  fun _ _ _ _ _ _ _ _ _ _ _ hm => (mFr_S mq88 h88_56).trans (by simp only [mgo.eq_1, mstep, mld, mst, mprev, List.length_cons, List.length_nil, List.getElem?_cons_succ, List.getElem?_cons_zero, hm]; rfl),
  fun _ _ _ _ _ => F_goto 30 mq88 h88_59 (by decide)⟩
theorem E88_62 : (∀ (d : Nat) (l1 : Option Value) (l2 : Option Value) (l3 : Option Value) (l4 : Option Value) (l5 : Option Value) (l6 : Option Value) (x : Nat) (st : List Value) (h : MH) (P : MP), mFr d 88 62 [some (.ref x), l1, l2, l3, l4, l5, l6] st h P = mFr d 88 63 [some (.ref x), l1, l2, l3, l4, l5, l6] (.ref x :: st) h P) ∧
  (∀ (d : Nat) (loc : List (Option Value)) (a : Nat) (st : List Value) (h : MH) (P : MP), mFr d 88 63 loc (.ref a :: st) h P = pget h a 8 5 (fun v => mFr d 88 66 loc (v :: st) h P)) ∧
  (∀ (d : Nat) (loc : List (Option Value)) (b : Nat) (h : MH) (P : MP), mFr d 88 66 loc (.ref b :: []) h P = if mrcv h b 0 = true then mRun d 6 [.ref b] h (fun v h' => mFr d 88 69 loc (v.toList ++ []) h' P) else False) ∧
  (∀ (d : Nat) (l0 : Option Value) (l1 : Option Value) (l2 : Option Value) (l3 : Option Value) (l4 : Option Value) (l5 : Option Value) (l6 : Option Value) (x : Int32) (st : List Value) (h : MH) (P : MP), mnl l2 = true → mFr d 88 69 [l0, l1, l2, l3, l4, l5, l6] (.int x :: st) h P = mFr d 88 70 [l0, l1, l2, some (.int x), l4, l5, l6] (st) h P) ∧
  (∀ (d : Nat) (loc : List (Option Value)) (st : List Value) (h : MH) (P : MP), mFr d 88 70 loc st h P = mFr d 88 71 loc (.int 0 :: st) h P) ∧
  (∀ (d : Nat) (l0 : Option Value) (l1 : Option Value) (l2 : Option Value) (l3 : Option Value) (l4 : Option Value) (l5 : Option Value) (l6 : Option Value) (x : Int32) (st : List Value) (h : MH) (P : MP), mnl l3 = true → mFr d 88 71 [l0, l1, l2, l3, l4, l5, l6] (.int x :: st) h P = mFr d 88 73 [l0, l1, l2, l3, some (.int x), l5, l6] (st) h P) ∧
  (∀ (d : Nat) (loc : List (Option Value)) (st : List Value) (h : MH) (P : MP), mFr d 88 73 loc st h P = mFr d 88 76 loc (.int 721 :: st) h P) ∧
  (∀ (d : Nat) (l0 : Option Value) (l1 : Option Value) (l2 : Option Value) (l3 : Option Value) (l4 : Option Value) (l5 : Option Value) (l6 : Option Value) (x : Int32) (st : List Value) (h : MH) (P : MP), mnl l4 = true → mFr d 88 76 [l0, l1, l2, l3, l4, l5, l6] (.int x :: st) h P = mFr d 88 78 [l0, l1, l2, l3, l4, some (.int x), l6] (st) h P) ∧
  (∀ (d : Nat) (loc : List (Option Value)) (st : List Value) (h : MH) (P : MP), mFr d 88 78 loc st h P = mFr d 88 79 loc (.int 0 :: st) h P) ∧
  (∀ (d : Nat) (l0 : Option Value) (l1 : Option Value) (l2 : Option Value) (l3 : Option Value) (l4 : Option Value) (l5 : Option Value) (l6 : Option Value) (x : Int32) (st : List Value) (h : MH) (P : MP), mnl l5 = true → mFr d 88 79 [l0, l1, l2, l3, l4, l5, l6] (.int x :: st) h P = mFr d 88 81 [l0, l1, l2, l3, l4, l5, some (.int x)] (st) h P) := ⟨fun _ _ _ _ _ _ _ _ _ _ _ => (mFr_S mq88 h88_62).trans rfl,
  fun _ _ _ _ _ _ => F_get mq88 h88_63 (Or.inl (rfl : _ = some (25, 0, 8, 5))),
  fun _ _ b _ _ => F_callV (as := []) (rest := []) mq88 (Or.inl h88_66) (rfl : _ = some (239, 6, 6, 1)) (Or.inl ⟨h88_66, by decide⟩) (by rfl) (by rfl) (by rfl) (Nat.le_of_ble_eq_true rfl),
  fun _ _ _ _ _ _ _ _ _ _ _ _ hm => (mFr_S mq88 h88_69).trans (by simp only [mgo.eq_1, mstep, mi1, ml1, mast, mst, mst2, mprev, List.length_cons, List.length_nil, List.getElem?_cons_succ, List.getElem?_cons_zero, hm]; rfl),
  fun _ _ _ _ _ => (mFr_S mq88 h88_70).trans rfl,
  fun _ _ _ _ _ _ _ _ _ _ _ _ hm => (mFr_S mq88 h88_71).trans (by simp only [mgo.eq_1, mstep, mi1, ml1, mast, mst, mst2, mprev, List.length_cons, List.length_nil, List.getElem?_cons_succ, List.getElem?_cons_zero, hm]; rfl),
  fun _ _ _ _ _ => (mFr_S mq88 h88_73).trans rfl,
  fun _ _ _ _ _ _ _ _ _ _ _ _ hm => (mFr_S mq88 h88_76).trans (by simp only [mgo.eq_1, mstep, mi1, ml1, mast, mst, mst2, mprev, List.length_cons, List.length_nil, List.getElem?_cons_succ, List.getElem?_cons_zero, hm]; rfl),
  fun _ _ _ _ _ => (mFr_S mq88 h88_78).trans rfl,
  fun _ _ _ _ _ _ _ _ _ _ _ _ hm => (mFr_S mq88 h88_79).trans (by simp only [mgo.eq_1, mstep, mi1, ml1, mast, mst, mst2, mprev, List.length_cons, List.length_nil, List.getElem?_cons_succ, List.getElem?_cons_zero, hm]; rfl)⟩
theorem E88_81 : (∀ (d : Nat) (l0 : Option Value) (l1 : Option Value) (l2 : Option Value) (l3 : Option Value) (l4 : Option Value) (l5 : Option Value) (x : Int32) (st : List Value) (h : MH) (P : MP), mFr d 88 81 [l0, l1, l2, l3, l4, l5, some (.int x)] st h P = mFr d 88 83 [l0, l1, l2, l3, l4, l5, some (.int x)] (.int x :: st) h P) ∧
  (∀ (d : Nat) (l0 : Option Value) (l1 : Option Value) (l3 : Option Value) (l4 : Option Value) (l5 : Option Value) (l6 : Option Value) (x : Int32) (st : List Value) (h : MH) (P : MP), mFr d 88 83 [l0, l1, some (.int x), l3, l4, l5, l6] st h P = mFr d 88 84 [l0, l1, some (.int x), l3, l4, l5, l6] (.int x :: st) h P) ∧
  (∀ (d : Nat) (loc : List (Option Value)) (x y : Int32) (st : List Value) (h : MH) (P : MP), mFr d 88 84 loc (.int y :: .int x :: st) h P = if x < y then mFr d 88 87 loc (st) h P else mFr d 88 125 loc (st) h P) := ⟨fun _ _ _ _ _ _ _ _ _ _ _ => (mFr_S mq88 h88_81).trans rfl,
  fun _ _ _ _ _ _ _ _ _ _ _ => (mFr_S mq88 h88_83).trans rfl,
  fun _ _ _ _ _ _ _ => (F_icmp 125 mq88 h88_84 (by decide)).trans mif_ge⟩
theorem E88_87 : (∀ (d : Nat) (l0 : Option Value) (l1 : Option Value) (l2 : Option Value) (l3 : Option Value) (l4 : Option Value) (l5 : Option Value) (x : Int32) (st : List Value) (h : MH) (P : MP), mFr d 88 87 [l0, l1, l2, l3, l4, l5, some (.int x)] st h P = mFr d 88 89 [l0, l1, l2, l3, l4, l5, some (.int x)] (.int x :: st) h P) ∧
  (∀ (d : Nat) (loc : List (Option Value)) (a0 : Int32) (h : MH) (P : MP), mFr d 88 89 loc ((.int a0) :: []) h P = mRun d 90 [.int a0] h (fun v h' => mFr d 88 92 loc (v.toList ++ []) h' P)) ∧
  (∀ (d : Nat) (l0 : Option Value) (l1 : Option Value) (l2 : Option Value) (l4 : Option Value) (l5 : Option Value) (l6 : Option Value) (x : Int32) (st : List Value) (h : MH) (P : MP), mFr d 88 92 [l0, l1, l2, some (.int x), l4, l5, l6] st h P = mFr d 88 93 [l0, l1, l2, some (.int x), l4, l5, l6] (.int x :: st) h P) ∧
  (∀ (d : Nat) (loc : List (Option Value)) (x y : Int32) (st : List Value) (h : MH) (P : MP), mFr d 88 93 loc (.int y :: .int x :: st) h P = if x = y then mFr d 88 96 loc (st) h P else mFr d 88 119 loc (st) h P) := ⟨fun _ _ _ _ _ _ _ _ _ _ _ => (mFr_S mq88 h88_87).trans rfl,
  fun _ _ a0 _ _ => F_callS (as := [.int a0]) (rest := []) mq88 h88_89 (rfl : _ = some (241, 6, 90, 2)) (by decide) (by rfl) (by rfl) (by rfl) (Nat.le_of_ble_eq_true rfl),
  fun _ _ _ _ _ _ _ _ _ _ _ => (mFr_S mq88 h88_92).trans rfl,
  fun _ _ _ _ _ _ _ => (F_icmp 119 mq88 h88_93 (by decide)).trans mif_ne⟩
theorem E88_96 : (∀ (d : Nat) (l1 : Option Value) (l2 : Option Value) (l3 : Option Value) (l4 : Option Value) (l5 : Option Value) (l6 : Option Value) (x : Nat) (st : List Value) (h : MH) (P : MP), mFr d 88 96 [some (.ref x), l1, l2, l3, l4, l5, l6] st h P = mFr d 88 97 [some (.ref x), l1, l2, l3, l4, l5, l6] (.ref x :: st) h P) ∧
  (∀ (d : Nat) (l0 : Option Value) (l1 : Option Value) (l2 : Option Value) (l3 : Option Value) (l4 : Option Value) (l5 : Option Value) (x : Int32) (st : List Value) (h : MH) (P : MP), mFr d 88 97 [l0, l1, l2, l3, l4, l5, some (.int x)] st h P = mFr d 88 99 [l0, l1, l2, l3, l4, l5, some (.int x)] (.int x :: st) h P) ∧
  (∀ (d : Nat) (loc : List (Option Value)) (b : Nat) (a0 : Int32) (h : MH) (P : MP), mFr d 88 99 loc ((.int a0) :: .ref b :: []) h P = if mrcv h b 8 = true then mRun d 91 [.ref b, .int a0] h (fun v h' => mFr d 88 102 loc (v.toList ++ []) h' P) else False) ∧
  (∀ (d : Nat) (l0 : Option Value) (l1 : Option Value) (l2 : Option Value) (l3 : Option Value) (l4 : Option Value) (l6 : Option Value) (x : Int32) (st : List Value) (h : MH) (P : MP), mFr d 88 102 [l0, l1, l2, l3, l4, some (.int x), l6] st h P = mFr d 88 104 [l0, l1, l2, l3, l4, some (.int x), l6] (.int x :: st) h P) ∧
  (∀ (d : Nat) (loc : List (Option Value)) (x y : Int32) (st : List Value) (h : MH) (P : MP), mFr d 88 104 loc (.int y :: .int x :: st) h P = if x < y then mFr d 88 107 loc (st) h P else mFr d 88 119 loc (st) h P) := ⟨fun _ _ _ _ _ _ _ _ _ _ _ => (mFr_S mq88 h88_96).trans rfl,
  fun _ _ _ _ _ _ _ _ _ _ _ => (mFr_S mq88 h88_97).trans rfl,
  fun _ _ b a0 _ _ => F_callV (as := [.int a0]) (rest := []) mq88 (Or.inl h88_99) (rfl : _ = some (244, 6, 91, 0)) (Or.inl ⟨h88_99, by decide⟩) (by rfl) (by rfl) (by rfl) (Nat.le_of_ble_eq_true rfl),
  fun _ _ _ _ _ _ _ _ _ _ _ => (mFr_S mq88 h88_102).trans rfl,
  fun _ _ _ _ _ _ _ => (F_icmp 119 mq88 h88_104 (by decide)).trans mif_ge⟩
theorem E88_107 : (∀ (d : Nat) (l1 : Option Value) (l2 : Option Value) (l3 : Option Value) (l4 : Option Value) (l5 : Option Value) (l6 : Option Value) (x : Nat) (st : List Value) (h : MH) (P : MP), mFr d 88 107 [some (.ref x), l1, l2, l3, l4, l5, l6] st h P = mFr d 88 108 [some (.ref x), l1, l2, l3, l4, l5, l6] (.ref x :: st) h P) ∧
  (∀ (d : Nat) (l0 : Option Value) (l1 : Option Value) (l2 : Option Value) (l3 : Option Value) (l4 : Option Value) (l5 : Option Value) (x : Int32) (st : List Value) (h : MH) (P : MP), mFr d 88 108 [l0, l1, l2, l3, l4, l5, some (.int x)] st h P = mFr d 88 110 [l0, l1, l2, l3, l4, l5, some (.int x)] (.int x :: st) h P) ∧
  (∀ (d : Nat) (loc : List (Option Value)) (b : Nat) (a0 : Int32) (h : MH) (P : MP), mFr d 88 110 loc ((.int a0) :: .ref b :: []) h P = if mrcv h b 8 = true then mRun d 91 [.ref b, .int a0] h (fun v h' => mFr d 88 113 loc (v.toList ++ []) h' P) else False) ∧
  (∀ (d : Nat) (l0 : Option Value) (l1 : Option Value) (l2 : Option Value) (l3 : Option Value) (l4 : Option Value) (l5 : Option Value) (l6 : Option Value) (x : Int32) (st : List Value) (h : MH) (P : MP), mnl l4 = true → mFr d 88 113 [l0, l1, l2, l3, l4, l5, l6] (.int x :: st) h P = mFr d 88 115 [l0, l1, l2, l3, l4, some (.int x), l6] (st) h P) ∧
  (∀ (d : Nat) (l0 : Option Value) (l1 : Option Value) (l2 : Option Value) (l3 : Option Value) (l4 : Option Value) (l5 : Option Value) (x : Int32) (st : List Value) (h : MH) (P : MP), mFr d 88 115 [l0, l1, l2, l3, l4, l5, some (.int x)] st h P = mFr d 88 117 [l0, l1, l2, l3, l4, l5, some (.int x)] (.int x :: st) h P) ∧
  (∀ (d : Nat) (l0 : Option Value) (l1 : Option Value) (l2 : Option Value) (l3 : Option Value) (l4 : Option Value) (l5 : Option Value) (l6 : Option Value) (x : Int32) (st : List Value) (h : MH) (P : MP), mnl l3 = true → mFr d 88 117 [l0, l1, l2, l3, l4, l5, l6] (.int x :: st) h P = mFr d 88 119 [l0, l1, l2, l3, some (.int x), l5, l6] (st) h P) := ⟨fun _ _ _ _ _ _ _ _ _ _ _ => (mFr_S mq88 h88_107).trans rfl,
  fun _ _ _ _ _ _ _ _ _ _ _ => (mFr_S mq88 h88_108).trans rfl,
  fun _ _ b a0 _ _ => F_callV (as := [.int a0]) (rest := []) mq88 (Or.inl h88_110) (rfl : _ = some (244, 6, 91, 0)) (Or.inl ⟨h88_110, by decide⟩) (by rfl) (by rfl) (by rfl) (Nat.le_of_ble_eq_true rfl),
  fun _ _ _ _ _ _ _ _ _ _ _ _ hm => (mFr_S mq88 h88_113).trans (by simp only [mgo.eq_1, mstep, mi1, ml1, mast, mst, mst2, mprev, List.length_cons, List.length_nil, List.getElem?_cons_succ, List.getElem?_cons_zero, hm]; rfl),
  fun _ _ _ _ _ _ _ _ _ _ _ => (mFr_S mq88 h88_115).trans rfl,
  fun _ _ _ _ _ _ _ _ _ _ _ _ hm => (mFr_S mq88 h88_117).trans (by simp only [mgo.eq_1, mstep, mi1, ml1, mast, mst, mst2, mprev, List.length_cons, List.length_nil, List.getElem?_cons_succ, List.getElem?_cons_zero, hm]; rfl)⟩
theorem E88_119 : (∀ (d : Nat) (l0 : Option Value) (l1 : Option Value) (l2 : Option Value) (l3 : Option Value) (l4 : Option Value) (l5 : Option Value) (x : Int32) (st : List Value) (h : MH) (P : MP), mnl l5 = true → mFr d 88 119 [l0, l1, l2, l3, l4, l5, some (.int x)] st h P = mFr d 88 122 [l0, l1, l2, l3, l4, l5, some (.int (x + 1))] (st) h P) ∧
  (∀ (d : Nat) (loc : List (Option Value)) (st : List Value) (h : MH) (P : MP), mFr d 88 122 loc st h P = mFr d 88 81 loc (st) h P) := ⟨fun _ _ _ _ _ _ _ _ _ _ _ hm => (mFr_S mq88 h88_119).trans (by simp only [mgo.eq_1, mstep, mld, mst, mprev, List.length_cons, List.length_nil, List.getElem?_cons_succ, List.getElem?_cons_zero, hm]; rfl),
  fun _ _ _ _ _ => F_goto 81 mq88 h88_122 (by decide)⟩
theorem E88_125 : (∀ (d : Nat) (l0 : Option Value) (l2 : Option Value) (l3 : Option Value) (l4 : Option Value) (l5 : Option Value) (l6 : Option Value) (x : Int32) (st : List Value) (h : MH) (P : MP), mFr d 88 125 [l0, some (.int x), l2, l3, l4, l5, l6] st h P = mFr d 88 126 [l0, some (.int x), l2, l3, l4, l5, l6] (.int x :: st) h P) ∧
  (∀ (d : Nat) (loc : List (Option Value)) (x : Int32) (st : List Value) (h : MH) (P : MP), mFr d 88 126 loc (.int x :: st) h P = if x = 0 then mFr d 88 129 loc (st) h P else mFr d 88 134 loc (st) h P) := ⟨fun _ _ _ _ _ _ _ _ _ _ _ => (mFr_S mq88 h88_125).trans rfl,
  fun _ _ _ _ _ _ => (F_ifz 134 mq88 h88_126 (by decide)).trans mif_ne⟩
theorem E88_129 : (∀ (d : Nat) (l0 : Option Value) (l1 : Option Value) (l2 : Option Value) (l3 : Option Value) (l5 : Option Value) (l6 : Option Value) (x : Int32) (st : List Value) (h : MH) (P : MP), mFr d 88 129 [l0, l1, l2, l3, some (.int x), l5, l6] st h P = mFr d 88 131 [l0, l1, l2, l3, some (.int x), l5, l6] (.int x :: st) h P) ∧
  (∀ (d : Nat) (loc : List (Option Value)) (st : List Value) (h : MH) (P : MP), mFr d 88 131 loc st h P = mFr d 88 136 loc (st) h P) := ⟨fun _ _ _ _ _ _ _ _ _ _ _ => (mFr_S mq88 h88_129).trans rfl,
  fun _ _ _ _ _ => F_goto 136 mq88 h88_131 (by decide)⟩
theorem E88_134 : (∀ (d : Nat) (l0 : Option Value) (l1 : Option Value) (l2 : Option Value) (l3 : Option Value) (l4 : Option Value) (l6 : Option Value) (x : Int32) (st : List Value) (h : MH) (P : MP), mFr d 88 134 [l0, l1, l2, l3, l4, some (.int x), l6] st h P = mFr d 88 136 [l0, l1, l2, l3, l4, some (.int x), l6] (.int x :: st) h P) := fun _ _ _ _ _ _ _ _ _ _ _ => (mFr_S mq88 h88_134).trans rfl
theorem E88_136 : (∀ (d : Nat) (loc : List (Option Value)) (x : Int32) (h : MH) (P : MP), mFr d 88 136 loc [.int x] h P = P (some (.int x)) h) := fun _ _ _ _ _ => F_ret mq88 h88_136 rfl rfl
theorem B88 : ∀ (d : Nat) (b : Nat) (a0 : Int32) (h : MH) (P : MP), mRun (d + 1) 88 [.ref b, .int a0] h P = mFr d 88 0 [some (.ref b), some (.int a0), none, none, none, none, none] [] h P := fun _ _ _ _ _ => mRun_S mq88 (Nat.le_of_ble_eq_true rfl)
-- 89: PuncturesAreViews.tryPatches(I)V loops at [24]
def q89 : MI := (yX8_tryPatches, cX8_tryPatches, 5, none, 8, 1)
theorem mq89 : mtab[89]? = some q89 := rfl
theorem h89_0 : mfetch q89.2.1 0 = some (.aload_n 0) := by decide +kernel
theorem h89_1 : mfetch q89.2.1 1 = some (.getfield 25) := by decide +kernel
theorem h89_4 : mfetch q89.2.1 4 = some (.iload_n 1) := by decide +kernel
theorem h89_5 : mfetch q89.2.1 5 = some (.invokevirtual 135) := by decide +kernel
theorem h89_8 : mfetch q89.2.1 8 = some (.astore_n 2) := by decide +kernel
theorem h89_9 : mfetch q89.2.1 9 = some (.aload_n 2) := by decide +kernel
theorem h89_10 : mfetch q89.2.1 10 = some (.ifnonnull 4) := by decide +kernel
theorem h89_13 : mfetch q89.2.1 13 = some (.return_) := by decide +kernel
theorem h89_14 : mfetch q89.2.1 14 = some (.aload_n 0) := by decide +kernel
theorem h89_15 : mfetch q89.2.1 15 = some (.getfield 41) := by decide +kernel
theorem h89_18 : mfetch q89.2.1 18 = some (.aload_n 2) := by decide +kernel
theorem h89_19 : mfetch q89.2.1 19 = some (.invokevirtual 194) := by decide +kernel
theorem h89_22 : mfetch q89.2.1 22 = some (.iconst 0) := by decide +kernel
theorem h89_23 : mfetch q89.2.1 23 = some (.istore_n 3) := by decide +kernel
theorem h89_24 : mfetch q89.2.1 24 = some (.iload_n 3) := by decide +kernel
theorem h89_25 : mfetch q89.2.1 25 = some (.bipush 10) := by decide +kernel
theorem h89_27 : mfetch q89.2.1 27 = some (.if_icmp .ge 59) := by decide +kernel
theorem h89_30 : mfetch q89.2.1 30 = some (.aload_n 0) := by decide +kernel
theorem h89_31 : mfetch q89.2.1 31 = some (.getfield 41) := by decide +kernel
theorem h89_34 : mfetch q89.2.1 34 = some (.iload_n 3) := by decide +kernel
theorem h89_35 : mfetch q89.2.1 35 = some (.putfield 142) := by decide +kernel
theorem h89_38 : mfetch q89.2.1 38 = some (.iload_n 1) := by decide +kernel
theorem h89_39 : mfetch q89.2.1 39 = some (.bipush 10) := by decide +kernel
theorem h89_41 : mfetch q89.2.1 41 = some (.imul) := by decide +kernel
theorem h89_42 : mfetch q89.2.1 42 = some (.iload_n 3) := by decide +kernel
theorem h89_43 : mfetch q89.2.1 43 = some (.iadd) := by decide +kernel
theorem h89_44 : mfetch q89.2.1 44 = some (.istore 4) := by decide +kernel
theorem h89_46 : mfetch q89.2.1 46 = some (.iload 4) := by decide +kernel
theorem h89_48 : mfetch q89.2.1 48 = some (.ifCond .lt 32) := by decide +kernel
theorem h89_51 : mfetch q89.2.1 51 = some (.iload 4) := by decide +kernel
theorem h89_53 : mfetch q89.2.1 53 = some (.aload_n 0) := by decide +kernel
theorem h89_54 : mfetch q89.2.1 54 = some (.getfield 52) := by decide +kernel
theorem h89_57 : mfetch q89.2.1 57 = some (.arraylength) := by decide +kernel
theorem h89_58 : mfetch q89.2.1 58 = some (.if_icmp .ge 22) := by decide +kernel
theorem h89_61 : mfetch q89.2.1 61 = some (.aload_n 0) := by decide +kernel
theorem h89_62 : mfetch q89.2.1 62 = some (.getfield 52) := by decide +kernel
theorem h89_65 : mfetch q89.2.1 65 = some (.iload 4) := by decide +kernel
theorem h89_67 : mfetch q89.2.1 67 = some (.aload_n 0) := by decide +kernel
theorem h89_68 : mfetch q89.2.1 68 = some (.aload_n 0) := by decide +kernel
theorem h89_69 : mfetch q89.2.1 69 = some (.getfield 41) := by decide +kernel
theorem h89_72 : mfetch q89.2.1 72 = some (.aload_n 0) := by decide +kernel
theorem h89_73 : mfetch q89.2.1 73 = some (.getfield 100) := by decide +kernel
theorem h89_76 : mfetch q89.2.1 76 = some (.invokevirtual 198) := by decide +kernel
theorem h89_79 : mfetch q89.2.1 79 = some (.iastore) := by decide +kernel
theorem h89_80 : mfetch q89.2.1 80 = some (.iinc 3 1) := by decide +kernel
theorem h89_83 : mfetch q89.2.1 83 = some (.goto (-59)) := by decide +kernel
theorem h89_86 : mfetch q89.2.1 86 = some (.return_) := by decide +kernel
theorem E89_0 : (∀ (d : Nat) (l1 : Option Value) (l2 : Option Value) (l3 : Option Value) (l4 : Option Value) (x : Nat) (st : List Value) (h : MH) (P : MP), mFr d 89 0 [some (.ref x), l1, l2, l3, l4] st h P = mFr d 89 1 [some (.ref x), l1, l2, l3, l4] (.ref x :: st) h P) ∧
  (∀ (d : Nat) (loc : List (Option Value)) (a : Nat) (st : List Value) (h : MH) (P : MP), mFr d 89 1 loc (.ref a :: st) h P = pget h a 8 5 (fun v => mFr d 89 4 loc (v :: st) h P)) ∧
  (∀ (d : Nat) (l0 : Option Value) (l2 : Option Value) (l3 : Option Value) (l4 : Option Value) (x : Int32) (st : List Value) (h : MH) (P : MP), mFr d 89 4 [l0, some (.int x), l2, l3, l4] st h P = mFr d 89 5 [l0, some (.int x), l2, l3, l4] (.int x :: st) h P) ∧
  (∀ (d : Nat) (loc : List (Option Value)) (b : Nat) (a0 : Int32) (h : MH) (P : MP), mFr d 89 5 loc ((.int a0) :: .ref b :: []) h P = if mrcv h b 0 = true then mRun d 1 [.ref b, .int a0] h (fun v h' => mFr d 89 8 loc (v.toList ++ []) h' P) else False) ∧
  (∀ (d : Nat) (l0 : Option Value) (l1 : Option Value) (l2 : Option Value) (l3 : Option Value) (l4 : Option Value) (x : Nat) (st : List Value) (h : MH) (P : MP), mnl l1 = true → mFr d 89 8 [l0, l1, l2, l3, l4] (.ref x :: st) h P = mFr d 89 9 [l0, l1, some (.ref x), l3, l4] (st) h P) ∧
  (∀ (d : Nat) (l0 : Option Value) (l1 : Option Value) (l2 : Option Value) (l3 : Option Value) (l4 : Option Value) (st : List Value) (h : MH) (P : MP), mnl l1 = true → mFr d 89 8 [l0, l1, l2, l3, l4] (.null :: st) h P = mFr d 89 9 [l0, l1, some .null, l3, l4] (st) h P) ∧
  (∀ (d : Nat) (l0 : Option Value) (l1 : Option Value) (l3 : Option Value) (l4 : Option Value) (x : Nat) (st : List Value) (h : MH) (P : MP), mFr d 89 9 [l0, l1, some (.ref x), l3, l4] st h P = mFr d 89 10 [l0, l1, some (.ref x), l3, l4] (.ref x :: st) h P) ∧
  (∀ (d : Nat) (l0 : Option Value) (l1 : Option Value) (l3 : Option Value) (l4 : Option Value) (st : List Value) (h : MH) (P : MP), mFr d 89 9 [l0, l1, some .null, l3, l4] st h P = mFr d 89 10 [l0, l1, some .null, l3, l4] (.null :: st) h P) ∧
  (∀ (d : Nat) (loc : List (Option Value)) (x : Nat) (st : List Value) (h : MH) (P : MP), mFr d 89 10 loc (.ref x :: st) h P = if x < 900 then mFr d 89 14 loc (st) h P else False) ∧
  (∀ (d : Nat) (loc : List (Option Value)) (st : List Value) (h : MH) (P : MP), mFr d 89 10 loc (.null :: st) h P = mFr d 89 13 loc (st) h P) := ⟨fun _ _ _ _ _ _ _ _ _ => (mFr_S mq89 h89_0).trans rfl,
  fun _ _ _ _ _ _ => F_get mq89 h89_1 (Or.inl (rfl : _ = some (25, 0, 8, 5))),
  fun _ _ _ _ _ _ _ _ _ => (mFr_S mq89 h89_4).trans rfl,
  fun _ _ b a0 _ _ => F_callV (as := [.int a0]) (rest := []) mq89 (Or.inl h89_5) (rfl : _ = some (135, 6, 1, 1)) (Or.inl ⟨h89_5, by decide⟩) (by rfl) (by rfl) (by rfl) (Nat.le_of_ble_eq_true rfl),
  fun _ _ _ _ _ _ _ _ _ _ hm => (mFr_S mq89 h89_8).trans (by simp only [mgo.eq_1, mstep, mi1, ml1, mast, mst, mst2, mprev, List.length_cons, List.length_nil, List.getElem?_cons_succ, List.getElem?_cons_zero, hm]; rfl),
  fun _ _ _ _ _ _ _ _ _ hm => (mFr_S mq89 h89_8).trans (by simp only [mgo.eq_1, mstep, mi1, ml1, mast, mst, mst2, mprev, List.length_cons, List.length_nil, List.getElem?_cons_succ, List.getElem?_cons_zero, hm]; rfl),
  fun _ _ _ _ _ _ _ _ _ => (mFr_S mq89 h89_9).trans rfl,
  fun _ _ _ _ _ _ _ _ => (mFr_S mq89 h89_9).trans rfl,
  fun _ _ _ _ _ _ => F_ifnonnullR 14 mq89 h89_10 (by decide),
  fun _ _ _ _ _ => (mFr_S mq89 h89_10).trans rfl⟩
theorem E89_13 : (∀ (d : Nat) (loc : List (Option Value)) (h : MH) (P : MP), mFr d 89 13 loc [] h P = P none h) := fun _ _ _ _ => (mFr_S mq89 h89_13).trans rfl
theorem E89_14 : (∀ (d : Nat) (l1 : Option Value) (l2 : Option Value) (l3 : Option Value) (l4 : Option Value) (x : Nat) (st : List Value) (h : MH) (P : MP), mFr d 89 14 [some (.ref x), l1, l2, l3, l4] st h P = mFr d 89 15 [some (.ref x), l1, l2, l3, l4] (.ref x :: st) h P) ∧
  (∀ (d : Nat) (loc : List (Option Value)) (a : Nat) (st : List Value) (h : MH) (P : MP), mFr d 89 15 loc (.ref a :: st) h P = pget h a 8 11 (fun v => mFr d 89 18 loc (v :: st) h P)) ∧
  (∀ (d : Nat) (l0 : Option Value) (l1 : Option Value) (l3 : Option Value) (l4 : Option Value) (x : Nat) (st : List Value) (h : MH) (P : MP), mFr d 89 18 [l0, l1, some (.ref x), l3, l4] st h P = mFr d 89 19 [l0, l1, some (.ref x), l3, l4] (.ref x :: st) h P) ∧
  (∀ (d : Nat) (l0 : Option Value) (l1 : Option Value) (l3 : Option Value) (l4 : Option Value) (st : List Value) (h : MH) (P : MP), mFr d 89 18 [l0, l1, some .null, l3, l4] st h P = mFr d 89 19 [l0, l1, some .null, l3, l4] (.null :: st) h P) ∧
  (∀ (d : Nat) (loc : List (Option Value)) (b : Nat) (a0 : Nat) (h : MH) (P : MP), mFr d 89 19 loc ((.ref a0) :: .ref b :: []) h P = if mrcv h b 1 = true then mRun d 9 [.ref b, .ref a0] h (fun v h' => mFr d 89 22 loc (v.toList ++ []) h' P) else False) ∧
  (∀ (d : Nat) (loc : List (Option Value)) (st : List Value) (h : MH) (P : MP), mFr d 89 22 loc st h P = mFr d 89 23 loc (.int 0 :: st) h P) ∧
  (∀ (d : Nat) (l0 : Option Value) (l1 : Option Value) (l2 : Option Value) (l3 : Option Value) (l4 : Option Value) (x : Int32) (st : List Value) (h : MH) (P : MP), mnl l2 = true → mFr d 89 23 [l0, l1, l2, l3, l4] (.int x :: st) h P = mFr d 89 24 [l0, l1, l2, some (.int x), l4] (st) h P) := ⟨fun _ _ _ _ _ _ _ _ _ => (mFr_S mq89 h89_14).trans rfl,
  fun _ _ _ _ _ _ => F_get mq89 h89_15 (Or.inl (rfl : _ = some (41, 0, 8, 11))),
  fun _ _ _ _ _ _ _ _ _ => (mFr_S mq89 h89_18).trans rfl,
  fun _ _ _ _ _ _ _ _ => (mFr_S mq89 h89_18).trans rfl,
  fun _ _ b a0 _ _ => F_callV (as := [.ref a0]) (rest := []) mq89 (Or.inl h89_19) (rfl : _ = some (194, 6, 9, 1)) (Or.inl ⟨h89_19, by decide⟩) (by rfl) (by rfl) (by rfl) (Nat.le_of_ble_eq_true rfl),
  fun _ _ _ _ _ => (mFr_S mq89 h89_22).trans rfl,
  fun _ _ _ _ _ _ _ _ _ _ hm => (mFr_S mq89 h89_23).trans (by simp only [mgo.eq_1, mstep, mi1, ml1, mast, mst, mst2, mprev, List.length_cons, List.length_nil, List.getElem?_cons_succ, List.getElem?_cons_zero, hm]; rfl)⟩
theorem E89_24 : (∀ (d : Nat) (l0 : Option Value) (l1 : Option Value) (l2 : Option Value) (l4 : Option Value) (x : Int32) (st : List Value) (h : MH) (P : MP), mFr d 89 24 [l0, l1, l2, some (.int x), l4] st h P = mFr d 89 25 [l0, l1, l2, some (.int x), l4] (.int x :: st) h P) ∧
  (∀ (d : Nat) (loc : List (Option Value)) (st : List Value) (h : MH) (P : MP), mFr d 89 25 loc st h P = mFr d 89 27 loc (.int 10 :: st) h P) ∧
  (∀ (d : Nat) (loc : List (Option Value)) (x y : Int32) (st : List Value) (h : MH) (P : MP), mFr d 89 27 loc (.int y :: .int x :: st) h P = if x < y then mFr d 89 30 loc (st) h P else mFr d 89 86 loc (st) h P) := ⟨fun _ _ _ _ _ _ _ _ _ => (mFr_S mq89 h89_24).trans rfl,
  fun _ _ _ _ _ => (mFr_S mq89 h89_25).trans rfl,
  fun _ _ _ _ _ _ _ => (F_icmp 86 mq89 h89_27 (by decide)).trans mif_ge⟩
theorem E89_30 : (∀ (d : Nat) (l1 : Option Value) (l2 : Option Value) (l3 : Option Value) (l4 : Option Value) (x : Nat) (st : List Value) (h : MH) (P : MP), mFr d 89 30 [some (.ref x), l1, l2, l3, l4] st h P = mFr d 89 31 [some (.ref x), l1, l2, l3, l4] (.ref x :: st) h P) ∧
  (∀ (d : Nat) (loc : List (Option Value)) (a : Nat) (st : List Value) (h : MH) (P : MP), mFr d 89 31 loc (.ref a :: st) h P = pget h a 8 11 (fun v => mFr d 89 34 loc (v :: st) h P)) ∧
  (∀ (d : Nat) (l0 : Option Value) (l1 : Option Value) (l2 : Option Value) (l4 : Option Value) (x : Int32) (st : List Value) (h : MH) (P : MP), mFr d 89 34 [l0, l1, l2, some (.int x), l4] st h P = mFr d 89 35 [l0, l1, l2, some (.int x), l4] (.int x :: st) h P) ∧
  (∀ (d : Nat) (loc : List (Option Value)) (a : Nat) (x : Int32) (st : List Value) (h : MH) (P : MP), mFr d 89 35 loc (.int x :: .ref a :: st) h P = pput h a 1 2 (.int x) (fun h' => mFr d 89 38 loc (st) h' P)) ∧
  (∀ (d : Nat) (l0 : Option Value) (l2 : Option Value) (l3 : Option Value) (l4 : Option Value) (x : Int32) (st : List Value) (h : MH) (P : MP), mFr d 89 38 [l0, some (.int x), l2, l3, l4] st h P = mFr d 89 39 [l0, some (.int x), l2, l3, l4] (.int x :: st) h P) ∧
  (∀ (d : Nat) (loc : List (Option Value)) (st : List Value) (h : MH) (P : MP), mFr d 89 39 loc st h P = mFr d 89 41 loc (.int 10 :: st) h P) ∧
  (∀ (d : Nat) (loc : List (Option Value)) (x y : Int32) (st : List Value) (h : MH) (P : MP), mFr d 89 41 loc (.int y :: .int x :: st) h P = mFr d 89 42 loc (.int (x * y) :: st) h P) ∧
  (∀ (d : Nat) (l0 : Option Value) (l1 : Option Value) (l2 : Option Value) (l4 : Option Value) (x : Int32) (st : List Value) (h : MH) (P : MP), mFr d 89 42 [l0, l1, l2, some (.int x), l4] st h P = mFr d 89 43 [l0, l1, l2, some (.int x), l4] (.int x :: st) h P) ∧
  (∀ (d : Nat) (loc : List (Option Value)) (x y : Int32) (st : List Value) (h : MH) (P : MP), mFr d 89 43 loc (.int y :: .int x :: st) h P = mFr d 89 44 loc (.int (x + y) :: st) h P) ∧
  (∀ (d : Nat) (l0 : Option Value) (l1 : Option Value) (l2 : Option Value) (l3 : Option Value) (l4 : Option Value) (x : Int32) (st : List Value) (h : MH) (P : MP), mnl l3 = true → mFr d 89 44 [l0, l1, l2, l3, l4] (.int x :: st) h P = mFr d 89 46 [l0, l1, l2, l3, some (.int x)] (st) h P) ∧
  (∀ (d : Nat) (l0 : Option Value) (l1 : Option Value) (l2 : Option Value) (l3 : Option Value) (x : Int32) (st : List Value) (h : MH) (P : MP), mFr d 89 46 [l0, l1, l2, l3, some (.int x)] st h P = mFr d 89 48 [l0, l1, l2, l3, some (.int x)] (.int x :: st) h P) ∧
  (∀ (d : Nat) (loc : List (Option Value)) (x : Int32) (st : List Value) (h : MH) (P : MP), mFr d 89 48 loc (.int x :: st) h P = if x < 0 then mFr d 89 80 loc (st) h P else mFr d 89 51 loc (st) h P) := ⟨fun _ _ _ _ _ _ _ _ _ => (mFr_S mq89 h89_30).trans rfl,
  fun _ _ _ _ _ _ => F_get mq89 h89_31 (Or.inl (rfl : _ = some (41, 0, 8, 11))),
  fun _ _ _ _ _ _ _ _ _ => (mFr_S mq89 h89_34).trans rfl,
  fun _ _ _ _ _ _ _ => F_put mq89 h89_35 (Or.inr ⟨(rfl : _ = some (142, 1, 1, 2)), rfl⟩),
  fun _ _ _ _ _ _ _ _ _ => (mFr_S mq89 h89_38).trans rfl,
  fun _ _ _ _ _ => (mFr_S mq89 h89_39).trans rfl,
  fun _ _ _ _ _ _ _ => (mFr_S mq89 h89_41).trans rfl,
  fun _ _ _ _ _ _ _ _ _ => (mFr_S mq89 h89_42).trans rfl,
  fun _ _ _ _ _ _ _ => (mFr_S mq89 h89_43).trans rfl,
  fun _ _ _ _ _ _ _ _ _ _ hm => (mFr_S mq89 h89_44).trans (by simp only [mgo.eq_1, mstep, mi1, ml1, mast, mst, mst2, mprev, List.length_cons, List.length_nil, List.getElem?_cons_succ, List.getElem?_cons_zero, hm]; rfl),
  fun _ _ _ _ _ _ _ _ _ => (mFr_S mq89 h89_46).trans rfl,
  fun _ _ _ _ _ _ => (F_ifz 80 mq89 h89_48 (by decide)).trans mif_lt⟩
theorem E89_51 : (∀ (d : Nat) (l0 : Option Value) (l1 : Option Value) (l2 : Option Value) (l3 : Option Value) (x : Int32) (st : List Value) (h : MH) (P : MP), mFr d 89 51 [l0, l1, l2, l3, some (.int x)] st h P = mFr d 89 53 [l0, l1, l2, l3, some (.int x)] (.int x :: st) h P) ∧
  (∀ (d : Nat) (l1 : Option Value) (l2 : Option Value) (l3 : Option Value) (l4 : Option Value) (x : Nat) (st : List Value) (h : MH) (P : MP), mFr d 89 53 [some (.ref x), l1, l2, l3, l4] st h P = mFr d 89 54 [some (.ref x), l1, l2, l3, l4] (.ref x :: st) h P) ∧
  (∀ (d : Nat) (loc : List (Option Value)) (a : Nat) (st : List Value) (h : MH) (P : MP), mFr d 89 54 loc (.ref a :: st) h P = pget h a 8 14 (fun v => mFr d 89 57 loc (v :: st) h P)) ∧
  (∀ (d : Nat) (loc : List (Option Value)) (a : Nat) (st : List Value) (h : MH) (P : MP), mFr d 89 57 loc (.ref a :: st) h P = palen h a (fun n => mFr d 89 58 loc (.int (Int32.ofNat n) :: st) h P)) ∧
  (∀ (d : Nat) (loc : List (Option Value)) (x y : Int32) (st : List Value) (h : MH) (P : MP), mFr d 89 58 loc (.int y :: .int x :: st) h P = if x < y then mFr d 89 61 loc (st) h P else mFr d 89 80 loc (st) h P) := ⟨fun _ _ _ _ _ _ _ _ _ => (mFr_S mq89 h89_51).trans rfl,
  fun _ _ _ _ _ _ _ _ _ => (mFr_S mq89 h89_53).trans rfl,
  fun _ _ _ _ _ _ => F_get mq89 h89_54 (Or.inl (rfl : _ = some (52, 0, 8, 14))),
  fun _ _ _ _ _ _ => F_alen mq89 h89_57,
  fun _ _ _ _ _ _ _ => (F_icmp 80 mq89 h89_58 (by decide)).trans mif_ge⟩
theorem E89_61 : (∀ (d : Nat) (l1 : Option Value) (l2 : Option Value) (l3 : Option Value) (l4 : Option Value) (x : Nat) (st : List Value) (h : MH) (P : MP), mFr d 89 61 [some (.ref x), l1, l2, l3, l4] st h P = mFr d 89 62 [some (.ref x), l1, l2, l3, l4] (.ref x :: st) h P) ∧
  (∀ (d : Nat) (loc : List (Option Value)) (a : Nat) (st : List Value) (h : MH) (P : MP), mFr d 89 62 loc (.ref a :: st) h P = pget h a 8 14 (fun v => mFr d 89 65 loc (v :: st) h P)) ∧
  (∀ (d : Nat) (l0 : Option Value) (l1 : Option Value) (l2 : Option Value) (l3 : Option Value) (x : Int32) (st : List Value) (h : MH) (P : MP), mFr d 89 65 [l0, l1, l2, l3, some (.int x)] st h P = mFr d 89 67 [l0, l1, l2, l3, some (.int x)] (.int x :: st) h P) ∧
  (∀ (d : Nat) (l1 : Option Value) (l2 : Option Value) (l3 : Option Value) (l4 : Option Value) (x : Nat) (st : List Value) (h : MH) (P : MP), mFr d 89 67 [some (.ref x), l1, l2, l3, l4] st h P = mFr d 89 68 [some (.ref x), l1, l2, l3, l4] (.ref x :: st) h P) ∧
  (∀ (d : Nat) (l1 : Option Value) (l2 : Option Value) (l3 : Option Value) (l4 : Option Value) (x : Nat) (st : List Value) (h : MH) (P : MP), mFr d 89 68 [some (.ref x), l1, l2, l3, l4] st h P = mFr d 89 69 [some (.ref x), l1, l2, l3, l4] (.ref x :: st) h P) ∧
  (∀ (d : Nat) (loc : List (Option Value)) (a : Nat) (st : List Value) (h : MH) (P : MP), mFr d 89 69 loc (.ref a :: st) h P = pget h a 8 11 (fun v => mFr d 89 72 loc (v :: st) h P)) ∧
  (∀ (d : Nat) (l1 : Option Value) (l2 : Option Value) (l3 : Option Value) (l4 : Option Value) (x : Nat) (st : List Value) (h : MH) (P : MP), mFr d 89 72 [some (.ref x), l1, l2, l3, l4] st h P = mFr d 89 73 [some (.ref x), l1, l2, l3, l4] (.ref x :: st) h P) ∧
  (∀ (d : Nat) (loc : List (Option Value)) (a : Nat) (st : List Value) (h : MH) (P : MP), mFr d 89 73 loc (.ref a :: st) h P = pget h a 8 4 (fun v => mFr d 89 76 loc (v :: st) h P)) ∧
  (∀ (d : Nat) (loc : List (Option Value)) (b : Nat) (a0 : Nat) (a1 : Nat) (s0 : Int32) (s1 : Nat) (h : MH) (P : MP), mFr d 89 76 loc ((.ref a1) :: (.ref a0) :: .ref b :: [.int s0, .ref s1]) h P = if mrcv h b 8 = true then mRun d 75 [.ref b, .ref a0, .ref a1] h (fun v h' => mFr d 89 79 loc (v.toList ++ [.int s0, .ref s1]) h' P) else False) ∧
  (∀ (d : Nat) (loc : List (Option Value)) (a : Nat) (i x : Int32) (st : List Value) (h : MH) (P : MP), mFr d 89 79 loc (.int x :: .int i :: .ref a :: st) h P = pias h a i x (fun h' => mFr d 89 80 loc (st) h' P)) := ⟨fun _ _ _ _ _ _ _ _ _ => (mFr_S mq89 h89_61).trans rfl,
  fun _ _ _ _ _ _ => F_get mq89 h89_62 (Or.inl (rfl : _ = some (52, 0, 8, 14))),
  fun _ _ _ _ _ _ _ _ _ => (mFr_S mq89 h89_65).trans rfl,
  fun _ _ _ _ _ _ _ _ _ => (mFr_S mq89 h89_67).trans rfl,
  fun _ _ _ _ _ _ _ _ _ => (mFr_S mq89 h89_68).trans rfl,
  fun _ _ _ _ _ _ => F_get mq89 h89_69 (Or.inl (rfl : _ = some (41, 0, 8, 11))),
  fun _ _ _ _ _ _ _ _ _ => (mFr_S mq89 h89_72).trans rfl,
  fun _ _ _ _ _ _ => F_get mq89 h89_73 (Or.inl (rfl : _ = some (100, 0, 8, 4))),
  fun _ _ b a0 a1 s0 s1 _ _ => F_callV (as := [.ref a0, .ref a1]) (rest := [.int s0, .ref s1]) mq89 (Or.inl h89_76) (rfl : _ = some (198, 6, 75, 0)) (Or.inl ⟨h89_76, by decide⟩) (by rfl) (by rfl) (by rfl) (Nat.le_of_ble_eq_true rfl),
  fun _ _ _ _ _ _ _ _ => F_iast mq89 h89_79⟩
theorem E89_80 : (∀ (d : Nat) (l0 : Option Value) (l1 : Option Value) (l2 : Option Value) (l4 : Option Value) (x : Int32) (st : List Value) (h : MH) (P : MP), mnl l2 = true → mFr d 89 80 [l0, l1, l2, some (.int x), l4] st h P = mFr d 89 83 [l0, l1, l2, some (.int (x + 1)), l4] (st) h P) ∧
  (∀ (d : Nat) (loc : List (Option Value)) (st : List Value) (h : MH) (P : MP), mFr d 89 83 loc st h P = mFr d 89 24 loc (st) h P) := ⟨fun _ _ _ _ _ _ _ _ _ hm => (mFr_S mq89 h89_80).trans (by simp only [mgo.eq_1, mstep, mld, mst, mprev, List.length_cons, List.length_nil, List.getElem?_cons_succ, List.getElem?_cons_zero, hm]; rfl),
  fun _ _ _ _ _ => F_goto 24 mq89 h89_83 (by decide)⟩
theorem E89_86 : (∀ (d : Nat) (loc : List (Option Value)) (h : MH) (P : MP), mFr d 89 86 loc [] h P = P none h) := fun _ _ _ _ => (mFr_S mq89 h89_86).trans rfl
theorem B89 : ∀ (d : Nat) (b : Nat) (a0 : Int32) (h : MH) (P : MP), mRun (d + 1) 89 [.ref b, .int a0] h P = mFr d 89 0 [some (.ref b), some (.int a0), none, none, none] [] h P := fun _ _ _ _ _ => mRun_S mq89 (Nat.le_of_ble_eq_true rfl)
-- 90: PuncturesAreViews.digitSum(I)I loops at [6]
def q90 : MI := (yX8_digitSum, cX8_digitSum, 4, (some .int), 8, 1)
theorem mq90 : mtab[90]? = some q90 := rfl
theorem h90_0 : mfetch q90.2.1 0 = some (.iconst 0) := by decide +kernel
theorem h90_1 : mfetch q90.2.1 1 = some (.istore_n 1) := by decide +kernel
theorem h90_2 : mfetch q90.2.1 2 = some (.iload_n 0) := by decide +kernel
theorem h90_3 : mfetch q90.2.1 3 = some (.istore_n 2) := by decide +kernel
theorem h90_4 : mfetch q90.2.1 4 = some (.iconst 0) := by decide +kernel
theorem h90_5 : mfetch q90.2.1 5 = some (.istore_n 3) := by decide +kernel
theorem h90_6 : mfetch q90.2.1 6 = some (.iload_n 3) := by decide +kernel
theorem h90_7 : mfetch q90.2.1 7 = some (.iconst 3) := by decide +kernel
theorem h90_8 : mfetch q90.2.1 8 = some (.if_icmp .ge 21) := by decide +kernel
theorem h90_11 : mfetch q90.2.1 11 = some (.iload_n 1) := by decide +kernel
theorem h90_12 : mfetch q90.2.1 12 = some (.iload_n 2) := by decide +kernel
theorem h90_13 : mfetch q90.2.1 13 = some (.bipush 10) := by decide +kernel
theorem h90_15 : mfetch q90.2.1 15 = some (.irem) := by decide +kernel
theorem h90_16 : mfetch q90.2.1 16 = some (.iadd) := by decide +kernel
theorem h90_17 : mfetch q90.2.1 17 = some (.istore_n 1) := by decide +kernel
theorem h90_18 : mfetch q90.2.1 18 = some (.iload_n 2) := by decide +kernel
theorem h90_19 : mfetch q90.2.1 19 = some (.bipush 10) := by decide +kernel
theorem h90_21 : mfetch q90.2.1 21 = some (.idiv) := by decide +kernel
theorem h90_22 : mfetch q90.2.1 22 = some (.istore_n 2) := by decide +kernel
theorem h90_23 : mfetch q90.2.1 23 = some (.iinc 3 1) := by decide +kernel
theorem h90_26 : mfetch q90.2.1 26 = some (.goto (-20)) := by decide +kernel
theorem h90_29 : mfetch q90.2.1 29 = some (.iload_n 1) := by decide +kernel
theorem h90_30 : mfetch q90.2.1 30 = some (.ireturn) := by decide +kernel
theorem E90_0 : (∀ (d : Nat) (loc : List (Option Value)) (st : List Value) (h : MH) (P : MP), mFr d 90 0 loc st h P = mFr d 90 1 loc (.int 0 :: st) h P) ∧
  (∀ (d : Nat) (l0 : Option Value) (l1 : Option Value) (l2 : Option Value) (l3 : Option Value) (x : Int32) (st : List Value) (h : MH) (P : MP), mnl l0 = true → mFr d 90 1 [l0, l1, l2, l3] (.int x :: st) h P = mFr d 90 2 [l0, some (.int x), l2, l3] (st) h P) ∧
  (∀ (d : Nat) (l1 : Option Value) (l2 : Option Value) (l3 : Option Value) (x : Int32) (st : List Value) (h : MH) (P : MP), mFr d 90 2 [some (.int x), l1, l2, l3] st h P = mFr d 90 3 [some (.int x), l1, l2, l3] (.int x :: st) h P) ∧
  (∀ (d : Nat) (l0 : Option Value) (l1 : Option Value) (l2 : Option Value) (l3 : Option Value) (x : Int32) (st : List Value) (h : MH) (P : MP), mnl l1 = true → mFr d 90 3 [l0, l1, l2, l3] (.int x :: st) h P = mFr d 90 4 [l0, l1, some (.int x), l3] (st) h P) ∧
  (∀ (d : Nat) (loc : List (Option Value)) (st : List Value) (h : MH) (P : MP), mFr d 90 4 loc st h P = mFr d 90 5 loc (.int 0 :: st) h P) ∧
  (∀ (d : Nat) (l0 : Option Value) (l1 : Option Value) (l2 : Option Value) (l3 : Option Value) (x : Int32) (st : List Value) (h : MH) (P : MP), mnl l2 = true → mFr d 90 5 [l0, l1, l2, l3] (.int x :: st) h P = mFr d 90 6 [l0, l1, l2, some (.int x)] (st) h P) := ⟨fun _ _ _ _ _ => (mFr_S mq90 h90_0).trans rfl,
  fun _ _ _ _ _ _ _ _ _ hm => (mFr_S mq90 h90_1).trans (by simp only [mgo.eq_1, mstep, mi1, ml1, mast, mst, mst2, mprev, List.length_cons, List.length_nil, List.getElem?_cons_succ, List.getElem?_cons_zero, hm]; rfl),
  fun _ _ _ _ _ _ _ _ => (mFr_S mq90 h90_2).trans rfl,
  fun _ _ _ _ _ _ _ _ _ hm => (mFr_S mq90 h90_3).trans (by simp only [mgo.eq_1, mstep, mi1, ml1, mast, mst, mst2, mprev, List.length_cons, List.length_nil, List.getElem?_cons_succ, List.getElem?_cons_zero, hm]; rfl),
  fun _ _ _ _ _ => (mFr_S mq90 h90_4).trans rfl,
  fun _ _ _ _ _ _ _ _ _ hm => (mFr_S mq90 h90_5).trans (by simp only [mgo.eq_1, mstep, mi1, ml1, mast, mst, mst2, mprev, List.length_cons, List.length_nil, List.getElem?_cons_succ, List.getElem?_cons_zero, hm]; rfl)⟩
theorem E90_6 : (∀ (d : Nat) (l0 : Option Value) (l1 : Option Value) (l2 : Option Value) (x : Int32) (st : List Value) (h : MH) (P : MP), mFr d 90 6 [l0, l1, l2, some (.int x)] st h P = mFr d 90 7 [l0, l1, l2, some (.int x)] (.int x :: st) h P) ∧
  (∀ (d : Nat) (loc : List (Option Value)) (st : List Value) (h : MH) (P : MP), mFr d 90 7 loc st h P = mFr d 90 8 loc (.int 3 :: st) h P) ∧
  (∀ (d : Nat) (loc : List (Option Value)) (x y : Int32) (st : List Value) (h : MH) (P : MP), mFr d 90 8 loc (.int y :: .int x :: st) h P = if x < y then mFr d 90 11 loc (st) h P else mFr d 90 29 loc (st) h P) := ⟨fun _ _ _ _ _ _ _ _ => (mFr_S mq90 h90_6).trans rfl,
  fun _ _ _ _ _ => (mFr_S mq90 h90_7).trans rfl,
  fun _ _ _ _ _ _ _ => (F_icmp 29 mq90 h90_8 (by decide)).trans mif_ge⟩
theorem E90_11 : (∀ (d : Nat) (l0 : Option Value) (l2 : Option Value) (l3 : Option Value) (x : Int32) (st : List Value) (h : MH) (P : MP), mFr d 90 11 [l0, some (.int x), l2, l3] st h P = mFr d 90 12 [l0, some (.int x), l2, l3] (.int x :: st) h P) ∧
  (∀ (d : Nat) (l0 : Option Value) (l1 : Option Value) (l3 : Option Value) (x : Int32) (st : List Value) (h : MH) (P : MP), mFr d 90 12 [l0, l1, some (.int x), l3] st h P = mFr d 90 13 [l0, l1, some (.int x), l3] (.int x :: st) h P) ∧
  (∀ (d : Nat) (loc : List (Option Value)) (st : List Value) (h : MH) (P : MP), mFr d 90 13 loc st h P = mFr d 90 15 loc (.int 10 :: st) h P) ∧
  (∀ (d : Nat) (loc : List (Option Value)) (x y : Int32) (st : List Value) (h : MH) (P : MP), mFr d 90 15 loc (.int y :: .int x :: st) h P = if y = 0 then False else mFr d 90 16 loc (.int (x - x / y * y) :: st) h P) ∧
  (∀ (d : Nat) (loc : List (Option Value)) (x y : Int32) (st : List Value) (h : MH) (P : MP), mFr d 90 16 loc (.int y :: .int x :: st) h P = mFr d 90 17 loc (.int (x + y) :: st) h P) ∧
  (∀ (d : Nat) (l0 : Option Value) (l1 : Option Value) (l2 : Option Value) (l3 : Option Value) (x : Int32) (st : List Value) (h : MH) (P : MP), mnl l0 = true → mFr d 90 17 [l0, l1, l2, l3] (.int x :: st) h P = mFr d 90 18 [l0, some (.int x), l2, l3] (st) h P) ∧
  (∀ (d : Nat) (l0 : Option Value) (l1 : Option Value) (l3 : Option Value) (x : Int32) (st : List Value) (h : MH) (P : MP), mFr d 90 18 [l0, l1, some (.int x), l3] st h P = mFr d 90 19 [l0, l1, some (.int x), l3] (.int x :: st) h P) ∧
  (∀ (d : Nat) (loc : List (Option Value)) (st : List Value) (h : MH) (P : MP), mFr d 90 19 loc st h P = mFr d 90 21 loc (.int 10 :: st) h P) ∧
  (∀ (d : Nat) (loc : List (Option Value)) (x y : Int32) (st : List Value) (h : MH) (P : MP), mFr d 90 21 loc (.int y :: .int x :: st) h P = if y = 0 then False else mFr d 90 22 loc (.int (x / y) :: st) h P) ∧
  (∀ (d : Nat) (l0 : Option Value) (l1 : Option Value) (l2 : Option Value) (l3 : Option Value) (x : Int32) (st : List Value) (h : MH) (P : MP), mnl l1 = true → mFr d 90 22 [l0, l1, l2, l3] (.int x :: st) h P = mFr d 90 23 [l0, l1, some (.int x), l3] (st) h P) ∧
  (∀ (d : Nat) (l0 : Option Value) (l1 : Option Value) (l2 : Option Value) (x : Int32) (st : List Value) (h : MH) (P : MP), mnl l2 = true → mFr d 90 23 [l0, l1, l2, some (.int x)] st h P = mFr d 90 26 [l0, l1, l2, some (.int (x + 1))] (st) h P) ∧
  (∀ (d : Nat) (loc : List (Option Value)) (st : List Value) (h : MH) (P : MP), mFr d 90 26 loc st h P = mFr d 90 6 loc (st) h P) := ⟨fun _ _ _ _ _ _ _ _ => (mFr_S mq90 h90_11).trans rfl,
  fun _ _ _ _ _ _ _ _ => (mFr_S mq90 h90_12).trans rfl,
  fun _ _ _ _ _ => (mFr_S mq90 h90_13).trans rfl,
  fun _ _ _ _ _ _ _ => F_rem mq90 h90_15,
  fun _ _ _ _ _ _ _ => (mFr_S mq90 h90_16).trans rfl,
  fun _ _ _ _ _ _ _ _ _ hm => (mFr_S mq90 h90_17).trans (by simp only [mgo.eq_1, mstep, mi1, ml1, mast, mst, mst2, mprev, List.length_cons, List.length_nil, List.getElem?_cons_succ, List.getElem?_cons_zero, hm]; rfl),
  fun _ _ _ _ _ _ _ _ => (mFr_S mq90 h90_18).trans rfl,
  fun _ _ _ _ _ => (mFr_S mq90 h90_19).trans rfl,
  fun _ _ _ _ _ _ _ => F_div mq90 h90_21,
  fun _ _ _ _ _ _ _ _ _ hm => (mFr_S mq90 h90_22).trans (by simp only [mgo.eq_1, mstep, mi1, ml1, mast, mst, mst2, mprev, List.length_cons, List.length_nil, List.getElem?_cons_succ, List.getElem?_cons_zero, hm]; rfl),
  fun _ _ _ _ _ _ _ _ hm => (mFr_S mq90 h90_23).trans (by simp only [mgo.eq_1, mstep, mld, mst, mprev, List.length_cons, List.length_nil, List.getElem?_cons_succ, List.getElem?_cons_zero, hm]; rfl),
  fun _ _ _ _ _ => F_goto 6 mq90 h90_26 (by decide)⟩
theorem E90_29 : (∀ (d : Nat) (l0 : Option Value) (l2 : Option Value) (l3 : Option Value) (x : Int32) (st : List Value) (h : MH) (P : MP), mFr d 90 29 [l0, some (.int x), l2, l3] st h P = mFr d 90 30 [l0, some (.int x), l2, l3] (.int x :: st) h P) ∧
  (∀ (d : Nat) (loc : List (Option Value)) (x : Int32) (h : MH) (P : MP), mFr d 90 30 loc [.int x] h P = P (some (.int x)) h) := ⟨fun _ _ _ _ _ _ _ _ => (mFr_S mq90 h90_29).trans rfl,
  fun _ _ _ _ _ => F_ret mq90 h90_30 rfl rfl⟩
theorem B90 : ∀ (d : Nat) (a0 : Int32) (h : MH) (P : MP), mRun (d + 1) 90 [.int a0] h P = mFr d 90 0 [some (.int a0), none, none, none] [] h P := fun _ _ _ _ => mRun_S mq90 (Nat.le_of_ble_eq_true rfl)
-- 91: PuncturesAreViews.stepsDealt(I)I loops at [15]
def q91 : MI := (yX8_stepsDealt, cX8_stepsDealt, 6, (some .int), 8, 1)
theorem mq91 : mtab[91]? = some q91 := rfl
theorem h91_0 : mfetch q91.2.1 0 = some (.iconst 0) := by decide +kernel
theorem h91_1 : mfetch q91.2.1 1 = some (.istore_n 2) := by decide +kernel
theorem h91_2 : mfetch q91.2.1 2 = some (.iload_n 1) := by decide +kernel
theorem h91_3 : mfetch q91.2.1 3 = some (.istore_n 3) := by decide +kernel
theorem h91_4 : mfetch q91.2.1 4 = some (.aload_n 0) := by decide +kernel
theorem h91_5 : mfetch q91.2.1 5 = some (.getfield 25) := by decide +kernel
theorem h91_8 : mfetch q91.2.1 8 = some (.getfield 226) := by decide +kernel
theorem h91_11 : mfetch q91.2.1 11 = some (.iconst 1) := by decide +kernel
theorem h91_12 : mfetch q91.2.1 12 = some (.isub) := by decide +kernel
theorem h91_13 : mfetch q91.2.1 13 = some (.istore 4) := by decide +kernel
theorem h91_15 : mfetch q91.2.1 15 = some (.iload 4) := by decide +kernel
theorem h91_17 : mfetch q91.2.1 17 = some (.ifCond .lt 51) := by decide +kernel
theorem h91_20 : mfetch q91.2.1 20 = some (.iload 4) := by decide +kernel
theorem h91_22 : mfetch q91.2.1 22 = some (.bipush 10) := by decide +kernel
theorem h91_24 : mfetch q91.2.1 24 = some (.imul) := by decide +kernel
theorem h91_25 : mfetch q91.2.1 25 = some (.iload_n 3) := by decide +kernel
theorem h91_26 : mfetch q91.2.1 26 = some (.bipush 10) := by decide +kernel
theorem h91_28 : mfetch q91.2.1 28 = some (.irem) := by decide +kernel
theorem h91_29 : mfetch q91.2.1 29 = some (.iadd) := by decide +kernel
theorem h91_30 : mfetch q91.2.1 30 = some (.istore 5) := by decide +kernel
theorem h91_32 : mfetch q91.2.1 32 = some (.iload 5) := by decide +kernel
theorem h91_34 : mfetch q91.2.1 34 = some (.ifCond .lt 23) := by decide +kernel
theorem h91_37 : mfetch q91.2.1 37 = some (.iload 5) := by decide +kernel
theorem h91_39 : mfetch q91.2.1 39 = some (.aload_n 0) := by decide +kernel
theorem h91_40 : mfetch q91.2.1 40 = some (.getfield 52) := by decide +kernel
theorem h91_43 : mfetch q91.2.1 43 = some (.arraylength) := by decide +kernel
theorem h91_44 : mfetch q91.2.1 44 = some (.if_icmp .ge 13) := by decide +kernel
theorem h91_47 : mfetch q91.2.1 47 = some (.iload_n 2) := by decide +kernel
theorem h91_48 : mfetch q91.2.1 48 = some (.aload_n 0) := by decide +kernel
theorem h91_49 : mfetch q91.2.1 49 = some (.getfield 52) := by decide +kernel
theorem h91_52 : mfetch q91.2.1 52 = some (.iload 5) := by decide +kernel
theorem h91_54 : mfetch q91.2.1 54 = some (.iaload) := by decide +kernel
theorem h91_55 : mfetch q91.2.1 55 = some (.iadd) := by decide +kernel
theorem h91_56 : mfetch q91.2.1 56 = some (.istore_n 2) := by decide +kernel
theorem h91_57 : mfetch q91.2.1 57 = some (.iload_n 3) := by decide +kernel
theorem h91_58 : mfetch q91.2.1 58 = some (.bipush 10) := by decide +kernel
theorem h91_60 : mfetch q91.2.1 60 = some (.idiv) := by decide +kernel
theorem h91_61 : mfetch q91.2.1 61 = some (.istore_n 3) := by decide +kernel
theorem h91_62 : mfetch q91.2.1 62 = some (.iinc 4 (-1)) := by decide +kernel
theorem h91_65 : mfetch q91.2.1 65 = some (.goto (-50)) := by decide +kernel
theorem h91_68 : mfetch q91.2.1 68 = some (.iload_n 2) := by decide +kernel
theorem h91_69 : mfetch q91.2.1 69 = some (.ireturn) := by decide +kernel
theorem E91_0 : (∀ (d : Nat) (loc : List (Option Value)) (st : List Value) (h : MH) (P : MP), mFr d 91 0 loc st h P = mFr d 91 1 loc (.int 0 :: st) h P) ∧
  (∀ (d : Nat) (l0 : Option Value) (l1 : Option Value) (l2 : Option Value) (l3 : Option Value) (l4 : Option Value) (l5 : Option Value) (x : Int32) (st : List Value) (h : MH) (P : MP), mnl l1 = true → mFr d 91 1 [l0, l1, l2, l3, l4, l5] (.int x :: st) h P = mFr d 91 2 [l0, l1, some (.int x), l3, l4, l5] (st) h P) ∧
  (∀ (d : Nat) (l0 : Option Value) (l2 : Option Value) (l3 : Option Value) (l4 : Option Value) (l5 : Option Value) (x : Int32) (st : List Value) (h : MH) (P : MP), mFr d 91 2 [l0, some (.int x), l2, l3, l4, l5] st h P = mFr d 91 3 [l0, some (.int x), l2, l3, l4, l5] (.int x :: st) h P) ∧
  (∀ (d : Nat) (l0 : Option Value) (l1 : Option Value) (l2 : Option Value) (l3 : Option Value) (l4 : Option Value) (l5 : Option Value) (x : Int32) (st : List Value) (h : MH) (P : MP), mnl l2 = true → mFr d 91 3 [l0, l1, l2, l3, l4, l5] (.int x :: st) h P = mFr d 91 4 [l0, l1, l2, some (.int x), l4, l5] (st) h P) ∧
  (∀ (d : Nat) (l1 : Option Value) (l2 : Option Value) (l3 : Option Value) (l4 : Option Value) (l5 : Option Value) (x : Nat) (st : List Value) (h : MH) (P : MP), mFr d 91 4 [some (.ref x), l1, l2, l3, l4, l5] st h P = mFr d 91 5 [some (.ref x), l1, l2, l3, l4, l5] (.ref x :: st) h P) ∧
  (∀ (d : Nat) (loc : List (Option Value)) (a : Nat) (st : List Value) (h : MH) (P : MP), mFr d 91 5 loc (.ref a :: st) h P = pget h a 8 5 (fun v => mFr d 91 8 loc (v :: st) h P)) ∧
  (∀ (d : Nat) (loc : List (Option Value)) (a : Nat) (st : List Value) (h : MH) (P : MP), mFr d 91 8 loc (.ref a :: st) h P = pget h a 0 1 (fun v => mFr d 91 11 loc (v :: st) h P)) ∧
  (∀ (d : Nat) (loc : List (Option Value)) (st : List Value) (h : MH) (P : MP), mFr d 91 11 loc st h P = mFr d 91 12 loc (.int 1 :: st) h P) ∧
  (∀ (d : Nat) (loc : List (Option Value)) (x y : Int32) (st : List Value) (h : MH) (P : MP), mFr d 91 12 loc (.int y :: .int x :: st) h P = mFr d 91 13 loc (.int (x - y) :: st) h P) ∧
  (∀ (d : Nat) (l0 : Option Value) (l1 : Option Value) (l2 : Option Value) (l3 : Option Value) (l4 : Option Value) (l5 : Option Value) (x : Int32) (st : List Value) (h : MH) (P : MP), mnl l3 = true → mFr d 91 13 [l0, l1, l2, l3, l4, l5] (.int x :: st) h P = mFr d 91 15 [l0, l1, l2, l3, some (.int x), l5] (st) h P) := ⟨fun _ _ _ _ _ => (mFr_S mq91 h91_0).trans rfl,
  fun _ _ _ _ _ _ _ _ _ _ _ hm => (mFr_S mq91 h91_1).trans (by simp only [mgo.eq_1, mstep, mi1, ml1, mast, mst, mst2, mprev, List.length_cons, List.length_nil, List.getElem?_cons_succ, List.getElem?_cons_zero, hm]; rfl),
  fun _ _ _ _ _ _ _ _ _ _ => (mFr_S mq91 h91_2).trans rfl,
  fun _ _ _ _ _ _ _ _ _ _ _ hm => (mFr_S mq91 h91_3).trans (by simp only [mgo.eq_1, mstep, mi1, ml1, mast, mst, mst2, mprev, List.length_cons, List.length_nil, List.getElem?_cons_succ, List.getElem?_cons_zero, hm]; rfl),
  fun _ _ _ _ _ _ _ _ _ _ => (mFr_S mq91 h91_4).trans rfl,
  fun _ _ _ _ _ _ => F_get mq91 h91_5 (Or.inl (rfl : _ = some (25, 0, 8, 5))),
  fun _ _ _ _ _ _ => F_get mq91 h91_8 (Or.inr (rfl : _ = some (226, 1, 0, 1))),
  fun _ _ _ _ _ => (mFr_S mq91 h91_11).trans rfl,
  fun _ _ _ _ _ _ _ => (mFr_S mq91 h91_12).trans rfl,
  fun _ _ _ _ _ _ _ _ _ _ _ hm => (mFr_S mq91 h91_13).trans (by simp only [mgo.eq_1, mstep, mi1, ml1, mast, mst, mst2, mprev, List.length_cons, List.length_nil, List.getElem?_cons_succ, List.getElem?_cons_zero, hm]; rfl)⟩
theorem E91_15 : (∀ (d : Nat) (l0 : Option Value) (l1 : Option Value) (l2 : Option Value) (l3 : Option Value) (l5 : Option Value) (x : Int32) (st : List Value) (h : MH) (P : MP), mFr d 91 15 [l0, l1, l2, l3, some (.int x), l5] st h P = mFr d 91 17 [l0, l1, l2, l3, some (.int x), l5] (.int x :: st) h P) ∧
  (∀ (d : Nat) (loc : List (Option Value)) (x : Int32) (st : List Value) (h : MH) (P : MP), mFr d 91 17 loc (.int x :: st) h P = if x < 0 then mFr d 91 68 loc (st) h P else mFr d 91 20 loc (st) h P) := ⟨fun _ _ _ _ _ _ _ _ _ _ => (mFr_S mq91 h91_15).trans rfl,
  fun _ _ _ _ _ _ => (F_ifz 68 mq91 h91_17 (by decide)).trans mif_lt⟩
theorem E91_20 : (∀ (d : Nat) (l0 : Option Value) (l1 : Option Value) (l2 : Option Value) (l3 : Option Value) (l5 : Option Value) (x : Int32) (st : List Value) (h : MH) (P : MP), mFr d 91 20 [l0, l1, l2, l3, some (.int x), l5] st h P = mFr d 91 22 [l0, l1, l2, l3, some (.int x), l5] (.int x :: st) h P) ∧
  (∀ (d : Nat) (loc : List (Option Value)) (st : List Value) (h : MH) (P : MP), mFr d 91 22 loc st h P = mFr d 91 24 loc (.int 10 :: st) h P) ∧
  (∀ (d : Nat) (loc : List (Option Value)) (x y : Int32) (st : List Value) (h : MH) (P : MP), mFr d 91 24 loc (.int y :: .int x :: st) h P = mFr d 91 25 loc (.int (x * y) :: st) h P) ∧
  (∀ (d : Nat) (l0 : Option Value) (l1 : Option Value) (l2 : Option Value) (l4 : Option Value) (l5 : Option Value) (x : Int32) (st : List Value) (h : MH) (P : MP), mFr d 91 25 [l0, l1, l2, some (.int x), l4, l5] st h P = mFr d 91 26 [l0, l1, l2, some (.int x), l4, l5] (.int x :: st) h P) ∧
  (∀ (d : Nat) (loc : List (Option Value)) (st : List Value) (h : MH) (P : MP), mFr d 91 26 loc st h P = mFr d 91 28 loc (.int 10 :: st) h P) ∧
  (∀ (d : Nat) (loc : List (Option Value)) (x y : Int32) (st : List Value) (h : MH) (P : MP), mFr d 91 28 loc (.int y :: .int x :: st) h P = if y = 0 then False else mFr d 91 29 loc (.int (x - x / y * y) :: st) h P) ∧
  (∀ (d : Nat) (loc : List (Option Value)) (x y : Int32) (st : List Value) (h : MH) (P : MP), mFr d 91 29 loc (.int y :: .int x :: st) h P = mFr d 91 30 loc (.int (x + y) :: st) h P) ∧
  (∀ (d : Nat) (l0 : Option Value) (l1 : Option Value) (l2 : Option Value) (l3 : Option Value) (l4 : Option Value) (l5 : Option Value) (x : Int32) (st : List Value) (h : MH) (P : MP), mnl l4 = true → mFr d 91 30 [l0, l1, l2, l3, l4, l5] (.int x :: st) h P = mFr d 91 32 [l0, l1, l2, l3, l4, some (.int x)] (st) h P) ∧
  (∀ (d : Nat) (l0 : Option Value) (l1 : Option Value) (l2 : Option Value) (l3 : Option Value) (l4 : Option Value) (x : Int32) (st : List Value) (h : MH) (P : MP), mFr d 91 32 [l0, l1, l2, l3, l4, some (.int x)] st h P = mFr d 91 34 [l0, l1, l2, l3, l4, some (.int x)] (.int x :: st) h P) ∧
  (∀ (d : Nat) (loc : List (Option Value)) (x : Int32) (st : List Value) (h : MH) (P : MP), mFr d 91 34 loc (.int x :: st) h P = if x < 0 then mFr d 91 57 loc (st) h P else mFr d 91 37 loc (st) h P) := ⟨fun _ _ _ _ _ _ _ _ _ _ => (mFr_S mq91 h91_20).trans rfl,
  fun _ _ _ _ _ => (mFr_S mq91 h91_22).trans rfl,
  fun _ _ _ _ _ _ _ => (mFr_S mq91 h91_24).trans rfl,
  fun _ _ _ _ _ _ _ _ _ _ => (mFr_S mq91 h91_25).trans rfl,
  fun _ _ _ _ _ => (mFr_S mq91 h91_26).trans rfl,
  fun _ _ _ _ _ _ _ => F_rem mq91 h91_28,
  fun _ _ _ _ _ _ _ => (mFr_S mq91 h91_29).trans rfl,
  fun _ _ _ _ _ _ _ _ _ _ _ hm => (mFr_S mq91 h91_30).trans (by simp only [mgo.eq_1, mstep, mi1, ml1, mast, mst, mst2, mprev, List.length_cons, List.length_nil, List.getElem?_cons_succ, List.getElem?_cons_zero, hm]; rfl),
  fun _ _ _ _ _ _ _ _ _ _ => (mFr_S mq91 h91_32).trans rfl,
  fun _ _ _ _ _ _ => (F_ifz 57 mq91 h91_34 (by decide)).trans mif_lt⟩
theorem E91_37 : (∀ (d : Nat) (l0 : Option Value) (l1 : Option Value) (l2 : Option Value) (l3 : Option Value) (l4 : Option Value) (x : Int32) (st : List Value) (h : MH) (P : MP), mFr d 91 37 [l0, l1, l2, l3, l4, some (.int x)] st h P = mFr d 91 39 [l0, l1, l2, l3, l4, some (.int x)] (.int x :: st) h P) ∧
  (∀ (d : Nat) (l1 : Option Value) (l2 : Option Value) (l3 : Option Value) (l4 : Option Value) (l5 : Option Value) (x : Nat) (st : List Value) (h : MH) (P : MP), mFr d 91 39 [some (.ref x), l1, l2, l3, l4, l5] st h P = mFr d 91 40 [some (.ref x), l1, l2, l3, l4, l5] (.ref x :: st) h P) ∧
  (∀ (d : Nat) (loc : List (Option Value)) (a : Nat) (st : List Value) (h : MH) (P : MP), mFr d 91 40 loc (.ref a :: st) h P = pget h a 8 14 (fun v => mFr d 91 43 loc (v :: st) h P)) ∧
  (∀ (d : Nat) (loc : List (Option Value)) (a : Nat) (st : List Value) (h : MH) (P : MP), mFr d 91 43 loc (.ref a :: st) h P = palen h a (fun n => mFr d 91 44 loc (.int (Int32.ofNat n) :: st) h P)) ∧
  (∀ (d : Nat) (loc : List (Option Value)) (x y : Int32) (st : List Value) (h : MH) (P : MP), mFr d 91 44 loc (.int y :: .int x :: st) h P = if x < y then mFr d 91 47 loc (st) h P else mFr d 91 57 loc (st) h P) := ⟨fun _ _ _ _ _ _ _ _ _ _ => (mFr_S mq91 h91_37).trans rfl,
  fun _ _ _ _ _ _ _ _ _ _ => (mFr_S mq91 h91_39).trans rfl,
  fun _ _ _ _ _ _ => F_get mq91 h91_40 (Or.inl (rfl : _ = some (52, 0, 8, 14))),
  fun _ _ _ _ _ _ => F_alen mq91 h91_43,
  fun _ _ _ _ _ _ _ => (F_icmp 57 mq91 h91_44 (by decide)).trans mif_ge⟩
theorem E91_47 : (∀ (d : Nat) (l0 : Option Value) (l1 : Option Value) (l3 : Option Value) (l4 : Option Value) (l5 : Option Value) (x : Int32) (st : List Value) (h : MH) (P : MP), mFr d 91 47 [l0, l1, some (.int x), l3, l4, l5] st h P = mFr d 91 48 [l0, l1, some (.int x), l3, l4, l5] (.int x :: st) h P) ∧
  (∀ (d : Nat) (l1 : Option Value) (l2 : Option Value) (l3 : Option Value) (l4 : Option Value) (l5 : Option Value) (x : Nat) (st : List Value) (h : MH) (P : MP), mFr d 91 48 [some (.ref x), l1, l2, l3, l4, l5] st h P = mFr d 91 49 [some (.ref x), l1, l2, l3, l4, l5] (.ref x :: st) h P) ∧
  (∀ (d : Nat) (loc : List (Option Value)) (a : Nat) (st : List Value) (h : MH) (P : MP), mFr d 91 49 loc (.ref a :: st) h P = pget h a 8 14 (fun v => mFr d 91 52 loc (v :: st) h P)) ∧
  (∀ (d : Nat) (l0 : Option Value) (l1 : Option Value) (l2 : Option Value) (l3 : Option Value) (l4 : Option Value) (x : Int32) (st : List Value) (h : MH) (P : MP), mFr d 91 52 [l0, l1, l2, l3, l4, some (.int x)] st h P = mFr d 91 54 [l0, l1, l2, l3, l4, some (.int x)] (.int x :: st) h P) ∧
  (∀ (d : Nat) (loc : List (Option Value)) (a : Nat) (i : Int32) (st : List Value) (h : MH) (P : MP), mFr d 91 54 loc (.int i :: .ref a :: st) h P = pial h a i (fun x => mFr d 91 55 loc (.int x :: st) h P)) ∧
  (∀ (d : Nat) (loc : List (Option Value)) (x y : Int32) (st : List Value) (h : MH) (P : MP), mFr d 91 55 loc (.int y :: .int x :: st) h P = mFr d 91 56 loc (.int (x + y) :: st) h P) ∧
  (∀ (d : Nat) (l0 : Option Value) (l1 : Option Value) (l2 : Option Value) (l3 : Option Value) (l4 : Option Value) (l5 : Option Value) (x : Int32) (st : List Value) (h : MH) (P : MP), mnl l1 = true → mFr d 91 56 [l0, l1, l2, l3, l4, l5] (.int x :: st) h P = mFr d 91 57 [l0, l1, some (.int x), l3, l4, l5] (st) h P) := ⟨fun _ _ _ _ _ _ _ _ _ _ => (mFr_S mq91 h91_47).trans rfl,
  fun _ _ _ _ _ _ _ _ _ _ => (mFr_S mq91 h91_48).trans rfl,
  fun _ _ _ _ _ _ => F_get mq91 h91_49 (Or.inl (rfl : _ = some (52, 0, 8, 14))),
  fun _ _ _ _ _ _ _ _ _ _ => (mFr_S mq91 h91_52).trans rfl,
  fun _ _ _ _ _ _ _ => F_iald mq91 h91_54,
  fun _ _ _ _ _ _ _ => (mFr_S mq91 h91_55).trans rfl,
  fun _ _ _ _ _ _ _ _ _ _ _ hm => (mFr_S mq91 h91_56).trans (by simp only [mgo.eq_1, mstep, mi1, ml1, mast, mst, mst2, mprev, List.length_cons, List.length_nil, List.getElem?_cons_succ, List.getElem?_cons_zero, hm]; rfl)⟩
theorem E91_57 : (∀ (d : Nat) (l0 : Option Value) (l1 : Option Value) (l2 : Option Value) (l4 : Option Value) (l5 : Option Value) (x : Int32) (st : List Value) (h : MH) (P : MP), mFr d 91 57 [l0, l1, l2, some (.int x), l4, l5] st h P = mFr d 91 58 [l0, l1, l2, some (.int x), l4, l5] (.int x :: st) h P) ∧
  (∀ (d : Nat) (loc : List (Option Value)) (st : List Value) (h : MH) (P : MP), mFr d 91 58 loc st h P = mFr d 91 60 loc (.int 10 :: st) h P) ∧
  (∀ (d : Nat) (loc : List (Option Value)) (x y : Int32) (st : List Value) (h : MH) (P : MP), mFr d 91 60 loc (.int y :: .int x :: st) h P = if y = 0 then False else mFr d 91 61 loc (.int (x / y) :: st) h P) ∧
  (∀ (d : Nat) (l0 : Option Value) (l1 : Option Value) (l2 : Option Value) (l3 : Option Value) (l4 : Option Value) (l5 : Option Value) (x : Int32) (st : List Value) (h : MH) (P : MP), mnl l2 = true → mFr d 91 61 [l0, l1, l2, l3, l4, l5] (.int x :: st) h P = mFr d 91 62 [l0, l1, l2, some (.int x), l4, l5] (st) h P) ∧
  (∀ (d : Nat) (l0 : Option Value) (l1 : Option Value) (l2 : Option Value) (l3 : Option Value) (l5 : Option Value) (x : Int32) (st : List Value) (h : MH) (P : MP), mnl l3 = true → mFr d 91 62 [l0, l1, l2, l3, some (.int x), l5] st h P = mFr d 91 65 [l0, l1, l2, l3, some (.int (x + (-1))), l5] (st) h P) ∧
  (∀ (d : Nat) (loc : List (Option Value)) (st : List Value) (h : MH) (P : MP), mFr d 91 65 loc st h P = mFr d 91 15 loc (st) h P) := ⟨fun _ _ _ _ _ _ _ _ _ _ => (mFr_S mq91 h91_57).trans rfl,
  fun _ _ _ _ _ => (mFr_S mq91 h91_58).trans rfl,
  fun _ _ _ _ _ _ _ => F_div mq91 h91_60,
  fun _ _ _ _ _ _ _ _ _ _ _ hm => (mFr_S mq91 h91_61).trans (by simp only [mgo.eq_1, mstep, mi1, ml1, mast, mst, mst2, mprev, List.length_cons, List.length_nil, List.getElem?_cons_succ, List.getElem?_cons_zero, hm]; rfl),
  fun _ _ _ _ _ _ _ _ _ _ hm => (mFr_S mq91 h91_62).trans (by simp only [mgo.eq_1, mstep, mld, mst, mprev, List.length_cons, List.length_nil, List.getElem?_cons_succ, List.getElem?_cons_zero, hm]; rfl),
  fun _ _ _ _ _ => F_goto 15 mq91 h91_65 (by decide)⟩
theorem E91_68 : (∀ (d : Nat) (l0 : Option Value) (l1 : Option Value) (l3 : Option Value) (l4 : Option Value) (l5 : Option Value) (x : Int32) (st : List Value) (h : MH) (P : MP), mFr d 91 68 [l0, l1, some (.int x), l3, l4, l5] st h P = mFr d 91 69 [l0, l1, some (.int x), l3, l4, l5] (.int x :: st) h P) ∧
  (∀ (d : Nat) (loc : List (Option Value)) (x : Int32) (h : MH) (P : MP), mFr d 91 69 loc [.int x] h P = P (some (.int x)) h) := ⟨fun _ _ _ _ _ _ _ _ _ _ => (mFr_S mq91 h91_68).trans rfl,
  fun _ _ _ _ _ => F_ret mq91 h91_69 rfl rfl⟩
theorem B91 : ∀ (d : Nat) (b : Nat) (a0 : Int32) (h : MH) (P : MP), mRun (d + 1) 91 [.ref b, .int a0] h P = mFr d 91 0 [some (.ref b), some (.int a0), none, none, none, none] [] h P := fun _ _ _ _ _ => mRun_S mq91 (Nat.le_of_ble_eq_true rfl)
-- 92: PuncturesAreViews.tells(III)I
def q92 : MI := (yX8_tells, cX8_tells, 6, (some .int), 8, 3)
theorem mq92 : mtab[92]? = some q92 := rfl
theorem h92_0 : mfetch q92.2.1 0 = some (.aload_n 0) := by decide +kernel
theorem h92_1 : mfetch q92.2.1 1 = some (.iload_n 1) := by decide +kernel
theorem h92_2 : mfetch q92.2.1 2 = some (.invokevirtual 247) := by decide +kernel
theorem h92_5 : mfetch q92.2.1 5 = some (.astore 4) := by decide +kernel
theorem h92_7 : mfetch q92.2.1 7 = some (.aload_n 0) := by decide +kernel
theorem h92_8 : mfetch q92.2.1 8 = some (.getfield 25) := by decide +kernel
theorem h92_11 : mfetch q92.2.1 11 = some (.iload_n 2) := by decide +kernel
theorem h92_12 : mfetch q92.2.1 12 = some (.invokevirtual 135) := by decide +kernel
theorem h92_15 : mfetch q92.2.1 15 = some (.astore 5) := by decide +kernel
theorem h92_17 : mfetch q92.2.1 17 = some (.aload 4) := by decide +kernel
theorem h92_19 : mfetch q92.2.1 19 = some (.ifnull 15) := by decide +kernel
theorem h92_22 : mfetch q92.2.1 22 = some (.aload 5) := by decide +kernel
theorem h92_24 : mfetch q92.2.1 24 = some (.ifnull 10) := by decide +kernel
theorem h92_27 : mfetch q92.2.1 27 = some (.iload_n 3) := by decide +kernel
theorem h92_28 : mfetch q92.2.1 28 = some (.invokestatic 251) := by decide +kernel
theorem h92_31 : mfetch q92.2.1 31 = some (.ifCond .ne 6) := by decide +kernel
theorem h92_34 : mfetch q92.2.1 34 = some (.bipush (-2)) := by decide +kernel
theorem h92_36 : mfetch q92.2.1 36 = some (.ireturn) := by decide +kernel
theorem h92_37 : mfetch q92.2.1 37 = some (.aload 4) := by decide +kernel
theorem h92_39 : mfetch q92.2.1 39 = some (.getfield 254) := by decide +kernel
theorem h92_42 : mfetch q92.2.1 42 = some (.iconst (-1)) := by decide +kernel
theorem h92_43 : mfetch q92.2.1 43 = some (.if_icmp .ne 6) := by decide +kernel
theorem h92_46 : mfetch q92.2.1 46 = some (.bipush (-11)) := by decide +kernel
theorem h92_48 : mfetch q92.2.1 48 = some (.ireturn) := by decide +kernel
theorem h92_49 : mfetch q92.2.1 49 = some (.aload 4) := by decide +kernel
theorem h92_51 : mfetch q92.2.1 51 = some (.getfield 257) := by decide +kernel
theorem h92_54 : mfetch q92.2.1 54 = some (.bipush 30) := by decide +kernel
theorem h92_56 : mfetch q92.2.1 56 = some (.if_icmp .le 6) := by decide +kernel
theorem h92_59 : mfetch q92.2.1 59 = some (.bipush (-2)) := by decide +kernel
theorem h92_61 : mfetch q92.2.1 61 = some (.ireturn) := by decide +kernel
theorem h92_62 : mfetch q92.2.1 62 = some (.aload_n 0) := by decide +kernel
theorem h92_63 : mfetch q92.2.1 63 = some (.getfield 41) := by decide +kernel
theorem h92_66 : mfetch q92.2.1 66 = some (.aload 5) := by decide +kernel
theorem h92_68 : mfetch q92.2.1 68 = some (.invokevirtual 194) := by decide +kernel
theorem h92_71 : mfetch q92.2.1 71 = some (.aload_n 0) := by decide +kernel
theorem h92_72 : mfetch q92.2.1 72 = some (.getfield 107) := by decide +kernel
theorem h92_75 : mfetch q92.2.1 75 = some (.aload_n 0) := by decide +kernel
theorem h92_76 : mfetch q92.2.1 76 = some (.getfield 100) := by decide +kernel
theorem h92_79 : mfetch q92.2.1 79 = some (.invokevirtual 206) := by decide +kernel
theorem h92_82 : mfetch q92.2.1 82 = some (.iload_n 3) := by decide +kernel
theorem h92_83 : mfetch q92.2.1 83 = some (.ifCond .ne 10) := by decide +kernel
theorem h92_86 : mfetch q92.2.1 86 = some (.aload_n 0) := by decide +kernel
theorem h92_87 : mfetch q92.2.1 87 = some (.aload 4) := by decide +kernel
theorem h92_89 : mfetch q92.2.1 89 = some (.invokevirtual 258) := by decide +kernel
theorem h92_92 : mfetch q92.2.1 92 = some (.ireturn) := by decide +kernel
theorem h92_93 : mfetch q92.2.1 93 = some (.iload_n 3) := by decide +kernel
theorem h92_94 : mfetch q92.2.1 94 = some (.iconst 4) := by decide +kernel
theorem h92_95 : mfetch q92.2.1 95 = some (.if_icmp .eq 8) := by decide +kernel
theorem h92_98 : mfetch q92.2.1 98 = some (.iload_n 3) := by decide +kernel
theorem h92_99 : mfetch q92.2.1 99 = some (.iconst 5) := by decide +kernel
theorem h92_100 : mfetch q92.2.1 100 = some (.if_icmp .ne 11) := by decide +kernel
theorem h92_103 : mfetch q92.2.1 103 = some (.aload_n 0) := by decide +kernel
theorem h92_104 : mfetch q92.2.1 104 = some (.aload 4) := by decide +kernel
theorem h92_106 : mfetch q92.2.1 106 = some (.iload_n 3) := by decide +kernel
theorem h92_107 : mfetch q92.2.1 107 = some (.invokevirtual 262) := by decide +kernel
theorem h92_110 : mfetch q92.2.1 110 = some (.ireturn) := by decide +kernel
theorem h92_111 : mfetch q92.2.1 111 = some (.aload_n 0) := by decide +kernel
theorem h92_112 : mfetch q92.2.1 112 = some (.aload 4) := by decide +kernel
theorem h92_114 : mfetch q92.2.1 114 = some (.iload_n 3) := by decide +kernel
theorem h92_115 : mfetch q92.2.1 115 = some (.invokevirtual 266) := by decide +kernel
theorem h92_118 : mfetch q92.2.1 118 = some (.ireturn) := by decide +kernel
theorem E92_0 : (∀ (d : Nat) (l1 : Option Value) (l2 : Option Value) (l3 : Option Value) (l4 : Option Value) (l5 : Option Value) (x : Nat) (st : List Value) (h : MH) (P : MP), mFr d 92 0 [some (.ref x), l1, l2, l3, l4, l5] st h P = mFr d 92 1 [some (.ref x), l1, l2, l3, l4, l5] (.ref x :: st) h P) ∧
  (∀ (d : Nat) (l0 : Option Value) (l2 : Option Value) (l3 : Option Value) (l4 : Option Value) (l5 : Option Value) (x : Int32) (st : List Value) (h : MH) (P : MP), mFr d 92 1 [l0, some (.int x), l2, l3, l4, l5] st h P = mFr d 92 2 [l0, some (.int x), l2, l3, l4, l5] (.int x :: st) h P) ∧
  (∀ (d : Nat) (loc : List (Option Value)) (b : Nat) (a0 : Int32) (h : MH) (P : MP), mFr d 92 2 loc ((.int a0) :: .ref b :: []) h P = if mrcv h b 8 = true then mRun d 112 [.ref b, .int a0] h (fun v h' => mFr d 92 5 loc (v.toList ++ []) h' P) else False) ∧
  (∀ (d : Nat) (l0 : Option Value) (l1 : Option Value) (l2 : Option Value) (l3 : Option Value) (l4 : Option Value) (l5 : Option Value) (x : Nat) (st : List Value) (h : MH) (P : MP), mnl l3 = true → mFr d 92 5 [l0, l1, l2, l3, l4, l5] (.ref x :: st) h P = mFr d 92 7 [l0, l1, l2, l3, some (.ref x), l5] (st) h P) ∧
  (∀ (d : Nat) (l0 : Option Value) (l1 : Option Value) (l2 : Option Value) (l3 : Option Value) (l4 : Option Value) (l5 : Option Value) (st : List Value) (h : MH) (P : MP), mnl l3 = true → mFr d 92 5 [l0, l1, l2, l3, l4, l5] (.null :: st) h P = mFr d 92 7 [l0, l1, l2, l3, some .null, l5] (st) h P) ∧
  (∀ (d : Nat) (l1 : Option Value) (l2 : Option Value) (l3 : Option Value) (l4 : Option Value) (l5 : Option Value) (x : Nat) (st : List Value) (h : MH) (P : MP), mFr d 92 7 [some (.ref x), l1, l2, l3, l4, l5] st h P = mFr d 92 8 [some (.ref x), l1, l2, l3, l4, l5] (.ref x :: st) h P) ∧
  (∀ (d : Nat) (loc : List (Option Value)) (a : Nat) (st : List Value) (h : MH) (P : MP), mFr d 92 8 loc (.ref a :: st) h P = pget h a 8 5 (fun v => mFr d 92 11 loc (v :: st) h P)) ∧
  (∀ (d : Nat) (l0 : Option Value) (l1 : Option Value) (l3 : Option Value) (l4 : Option Value) (l5 : Option Value) (x : Int32) (st : List Value) (h : MH) (P : MP), mFr d 92 11 [l0, l1, some (.int x), l3, l4, l5] st h P = mFr d 92 12 [l0, l1, some (.int x), l3, l4, l5] (.int x :: st) h P) ∧
  (∀ (d : Nat) (loc : List (Option Value)) (b : Nat) (a0 : Int32) (h : MH) (P : MP), mFr d 92 12 loc ((.int a0) :: .ref b :: []) h P = if mrcv h b 0 = true then mRun d 1 [.ref b, .int a0] h (fun v h' => mFr d 92 15 loc (v.toList ++ []) h' P) else False) ∧
  (∀ (d : Nat) (l0 : Option Value) (l1 : Option Value) (l2 : Option Value) (l3 : Option Value) (l4 : Option Value) (l5 : Option Value) (x : Nat) (st : List Value) (h : MH) (P : MP), mnl l4 = true → mFr d 92 15 [l0, l1, l2, l3, l4, l5] (.ref x :: st) h P = mFr d 92 17 [l0, l1, l2, l3, l4, some (.ref x)] (st) h P) ∧
  (∀ (d : Nat) (l0 : Option Value) (l1 : Option Value) (l2 : Option Value) (l3 : Option Value) (l4 : Option Value) (l5 : Option Value) (st : List Value) (h : MH) (P : MP), mnl l4 = true → mFr d 92 15 [l0, l1, l2, l3, l4, l5] (.null :: st) h P = mFr d 92 17 [l0, l1, l2, l3, l4, some .null] (st) h P) ∧
  (∀ (d : Nat) (l0 : Option Value) (l1 : Option Value) (l2 : Option Value) (l3 : Option Value) (l5 : Option Value) (x : Nat) (st : List Value) (h : MH) (P : MP), mFr d 92 17 [l0, l1, l2, l3, some (.ref x), l5] st h P = mFr d 92 19 [l0, l1, l2, l3, some (.ref x), l5] (.ref x :: st) h P) ∧
  (∀ (d : Nat) (l0 : Option Value) (l1 : Option Value) (l2 : Option Value) (l3 : Option Value) (l5 : Option Value) (st : List Value) (h : MH) (P : MP), mFr d 92 17 [l0, l1, l2, l3, some .null, l5] st h P = mFr d 92 19 [l0, l1, l2, l3, some .null, l5] (.null :: st) h P) ∧
  (∀ (d : Nat) (loc : List (Option Value)) (x : Nat) (st : List Value) (h : MH) (P : MP), mFr d 92 19 loc (.ref x :: st) h P = if x < 900 then mFr d 92 22 loc (st) h P else False) ∧
  (∀ (d : Nat) (loc : List (Option Value)) (st : List Value) (h : MH) (P : MP), mFr d 92 19 loc (.null :: st) h P = mFr d 92 34 loc (st) h P) := ⟨fun _ _ _ _ _ _ _ _ _ _ => (mFr_S mq92 h92_0).trans rfl,
  fun _ _ _ _ _ _ _ _ _ _ => (mFr_S mq92 h92_1).trans rfl,
  fun _ _ b a0 _ _ => F_callV (as := [.int a0]) (rest := []) mq92 (Or.inl h92_2) (rfl : _ = some (247, 6, 112, 0)) (Or.inl ⟨h92_2, by decide⟩) (by rfl) (by rfl) (by rfl) (Nat.le_of_ble_eq_true rfl),
  fun _ _ _ _ _ _ _ _ _ _ _ hm => (mFr_S mq92 h92_5).trans (by simp only [mgo.eq_1, mstep, mi1, ml1, mast, mst, mst2, mprev, List.length_cons, List.length_nil, List.getElem?_cons_succ, List.getElem?_cons_zero, hm]; rfl),
  fun _ _ _ _ _ _ _ _ _ _ hm => (mFr_S mq92 h92_5).trans (by simp only [mgo.eq_1, mstep, mi1, ml1, mast, mst, mst2, mprev, List.length_cons, List.length_nil, List.getElem?_cons_succ, List.getElem?_cons_zero, hm]; rfl),
  fun _ _ _ _ _ _ _ _ _ _ => (mFr_S mq92 h92_7).trans rfl,
  fun _ _ _ _ _ _ => F_get mq92 h92_8 (Or.inl (rfl : _ = some (25, 0, 8, 5))),
  fun _ _ _ _ _ _ _ _ _ _ => (mFr_S mq92 h92_11).trans rfl,
  fun _ _ b a0 _ _ => F_callV (as := [.int a0]) (rest := []) mq92 (Or.inl h92_12) (rfl : _ = some (135, 6, 1, 1)) (Or.inl ⟨h92_12, by decide⟩) (by rfl) (by rfl) (by rfl) (Nat.le_of_ble_eq_true rfl),
  fun _ _ _ _ _ _ _ _ _ _ _ hm => (mFr_S mq92 h92_15).trans (by simp only [mgo.eq_1, mstep, mi1, ml1, mast, mst, mst2, mprev, List.length_cons, List.length_nil, List.getElem?_cons_succ, List.getElem?_cons_zero, hm]; rfl),
  fun _ _ _ _ _ _ _ _ _ _ hm => (mFr_S mq92 h92_15).trans (by simp only [mgo.eq_1, mstep, mi1, ml1, mast, mst, mst2, mprev, List.length_cons, List.length_nil, List.getElem?_cons_succ, List.getElem?_cons_zero, hm]; rfl),
  fun _ _ _ _ _ _ _ _ _ _ => (mFr_S mq92 h92_17).trans rfl,
  fun _ _ _ _ _ _ _ _ _ => (mFr_S mq92 h92_17).trans rfl,
  fun _ _ _ _ _ _ => F_ifnullR mq92 h92_19,
  fun _ _ _ _ _ => F_ifnullN 34 mq92 h92_19 (by decide)⟩
theorem E92_22 : (∀ (d : Nat) (l0 : Option Value) (l1 : Option Value) (l2 : Option Value) (l3 : Option Value) (l4 : Option Value) (x : Nat) (st : List Value) (h : MH) (P : MP), mFr d 92 22 [l0, l1, l2, l3, l4, some (.ref x)] st h P = mFr d 92 24 [l0, l1, l2, l3, l4, some (.ref x)] (.ref x :: st) h P) ∧
  (∀ (d : Nat) (l0 : Option Value) (l1 : Option Value) (l2 : Option Value) (l3 : Option Value) (l4 : Option Value) (st : List Value) (h : MH) (P : MP), mFr d 92 22 [l0, l1, l2, l3, l4, some .null] st h P = mFr d 92 24 [l0, l1, l2, l3, l4, some .null] (.null :: st) h P) ∧
  (∀ (d : Nat) (loc : List (Option Value)) (x : Nat) (st : List Value) (h : MH) (P : MP), mFr d 92 24 loc (.ref x :: st) h P = if x < 900 then mFr d 92 27 loc (st) h P else False) ∧
  (∀ (d : Nat) (loc : List (Option Value)) (st : List Value) (h : MH) (P : MP), mFr d 92 24 loc (.null :: st) h P = mFr d 92 34 loc (st) h P) := ⟨fun _ _ _ _ _ _ _ _ _ _ => (mFr_S mq92 h92_22).trans rfl,
  fun _ _ _ _ _ _ _ _ _ => (mFr_S mq92 h92_22).trans rfl,
  fun _ _ _ _ _ _ => F_ifnullR mq92 h92_24,
  fun _ _ _ _ _ => F_ifnullN 34 mq92 h92_24 (by decide)⟩
theorem E92_27 : (∀ (d : Nat) (l0 : Option Value) (l1 : Option Value) (l2 : Option Value) (l4 : Option Value) (l5 : Option Value) (x : Int32) (st : List Value) (h : MH) (P : MP), mFr d 92 27 [l0, l1, l2, some (.int x), l4, l5] st h P = mFr d 92 28 [l0, l1, l2, some (.int x), l4, l5] (.int x :: st) h P) ∧
  (∀ (d : Nat) (loc : List (Option Value)) (a0 : Int32) (h : MH) (P : MP), mFr d 92 28 loc ((.int a0) :: []) h P = mRun d 93 [.int a0] h (fun v h' => mFr d 92 31 loc (v.toList ++ []) h' P)) ∧
  (∀ (d : Nat) (loc : List (Option Value)) (x : Int32) (st : List Value) (h : MH) (P : MP), mFr d 92 31 loc (.int x :: st) h P = if x = 0 then mFr d 92 34 loc (st) h P else mFr d 92 37 loc (st) h P) := ⟨fun _ _ _ _ _ _ _ _ _ _ => (mFr_S mq92 h92_27).trans rfl,
  fun _ _ a0 _ _ => F_callS (as := [.int a0]) (rest := []) mq92 h92_28 (rfl : _ = some (251, 6, 93, 2)) (by decide) (by rfl) (by rfl) (by rfl) (Nat.le_of_ble_eq_true rfl),
  fun _ _ _ _ _ _ => (F_ifz 37 mq92 h92_31 (by decide)).trans mif_ne⟩
theorem E92_34 : (∀ (d : Nat) (loc : List (Option Value)) (st : List Value) (h : MH) (P : MP), mFr d 92 34 loc st h P = mFr d 92 36 loc (.int (-2) :: st) h P) ∧
  (∀ (d : Nat) (loc : List (Option Value)) (x : Int32) (h : MH) (P : MP), mFr d 92 36 loc [.int x] h P = P (some (.int x)) h) := ⟨fun _ _ _ _ _ => (mFr_S mq92 h92_34).trans rfl,
  fun _ _ _ _ _ => F_ret mq92 h92_36 rfl rfl⟩
theorem E92_37 : (∀ (d : Nat) (l0 : Option Value) (l1 : Option Value) (l2 : Option Value) (l3 : Option Value) (l5 : Option Value) (x : Nat) (st : List Value) (h : MH) (P : MP), mFr d 92 37 [l0, l1, l2, l3, some (.ref x), l5] st h P = mFr d 92 39 [l0, l1, l2, l3, some (.ref x), l5] (.ref x :: st) h P) ∧
  (∀ (d : Nat) (l0 : Option Value) (l1 : Option Value) (l2 : Option Value) (l3 : Option Value) (l5 : Option Value) (st : List Value) (h : MH) (P : MP), mFr d 92 37 [l0, l1, l2, l3, some .null, l5] st h P = mFr d 92 39 [l0, l1, l2, l3, some .null, l5] (.null :: st) h P) ∧
  (∀ (d : Nat) (loc : List (Option Value)) (a : Nat) (st : List Value) (h : MH) (P : MP), mFr d 92 39 loc (.ref a :: st) h P = pget h a 3 1 (fun v => mFr d 92 42 loc (v :: st) h P)) ∧
  (∀ (d : Nat) (loc : List (Option Value)) (st : List Value) (h : MH) (P : MP), mFr d 92 42 loc st h P = mFr d 92 43 loc (.int (-1) :: st) h P) ∧
  (∀ (d : Nat) (loc : List (Option Value)) (x y : Int32) (st : List Value) (h : MH) (P : MP), mFr d 92 43 loc (.int y :: .int x :: st) h P = if x = y then mFr d 92 46 loc (st) h P else mFr d 92 49 loc (st) h P) := ⟨fun _ _ _ _ _ _ _ _ _ _ => (mFr_S mq92 h92_37).trans rfl,
  fun _ _ _ _ _ _ _ _ _ => (mFr_S mq92 h92_37).trans rfl,
  fun _ _ _ _ _ _ => F_get mq92 h92_39 (Or.inr (rfl : _ = some (254, 1, 3, 1))),
  fun _ _ _ _ _ => (mFr_S mq92 h92_42).trans rfl,
  fun _ _ _ _ _ _ _ => (F_icmp 49 mq92 h92_43 (by decide)).trans mif_ne⟩
theorem E92_46 : (∀ (d : Nat) (loc : List (Option Value)) (st : List Value) (h : MH) (P : MP), mFr d 92 46 loc st h P = mFr d 92 48 loc (.int (-11) :: st) h P) ∧
  (∀ (d : Nat) (loc : List (Option Value)) (x : Int32) (h : MH) (P : MP), mFr d 92 48 loc [.int x] h P = P (some (.int x)) h) := ⟨fun _ _ _ _ _ => (mFr_S mq92 h92_46).trans rfl,
  fun _ _ _ _ _ => F_ret mq92 h92_48 rfl rfl⟩
theorem E92_49 : (∀ (d : Nat) (l0 : Option Value) (l1 : Option Value) (l2 : Option Value) (l3 : Option Value) (l5 : Option Value) (x : Nat) (st : List Value) (h : MH) (P : MP), mFr d 92 49 [l0, l1, l2, l3, some (.ref x), l5] st h P = mFr d 92 51 [l0, l1, l2, l3, some (.ref x), l5] (.ref x :: st) h P) ∧
  (∀ (d : Nat) (l0 : Option Value) (l1 : Option Value) (l2 : Option Value) (l3 : Option Value) (l5 : Option Value) (st : List Value) (h : MH) (P : MP), mFr d 92 49 [l0, l1, l2, l3, some .null, l5] st h P = mFr d 92 51 [l0, l1, l2, l3, some .null, l5] (.null :: st) h P) ∧
  (∀ (d : Nat) (loc : List (Option Value)) (a : Nat) (st : List Value) (h : MH) (P : MP), mFr d 92 51 loc (.ref a :: st) h P = pget h a 3 2 (fun v => mFr d 92 54 loc (v :: st) h P)) ∧
  (∀ (d : Nat) (loc : List (Option Value)) (st : List Value) (h : MH) (P : MP), mFr d 92 54 loc st h P = mFr d 92 56 loc (.int 30 :: st) h P) ∧
  (∀ (d : Nat) (loc : List (Option Value)) (x y : Int32) (st : List Value) (h : MH) (P : MP), mFr d 92 56 loc (.int y :: .int x :: st) h P = if y < x then mFr d 92 59 loc (st) h P else mFr d 92 62 loc (st) h P) := ⟨fun _ _ _ _ _ _ _ _ _ _ => (mFr_S mq92 h92_49).trans rfl,
  fun _ _ _ _ _ _ _ _ _ => (mFr_S mq92 h92_49).trans rfl,
  fun _ _ _ _ _ _ => F_get mq92 h92_51 (Or.inr (rfl : _ = some (257, 1, 3, 2))),
  fun _ _ _ _ _ => (mFr_S mq92 h92_54).trans rfl,
  fun _ _ _ _ _ _ _ => (F_icmp 62 mq92 h92_56 (by decide)).trans mif_le⟩
theorem E92_59 : (∀ (d : Nat) (loc : List (Option Value)) (st : List Value) (h : MH) (P : MP), mFr d 92 59 loc st h P = mFr d 92 61 loc (.int (-2) :: st) h P) ∧
  (∀ (d : Nat) (loc : List (Option Value)) (x : Int32) (h : MH) (P : MP), mFr d 92 61 loc [.int x] h P = P (some (.int x)) h) := ⟨fun _ _ _ _ _ => (mFr_S mq92 h92_59).trans rfl,
  fun _ _ _ _ _ => F_ret mq92 h92_61 rfl rfl⟩
theorem E92_62 : (∀ (d : Nat) (l1 : Option Value) (l2 : Option Value) (l3 : Option Value) (l4 : Option Value) (l5 : Option Value) (x : Nat) (st : List Value) (h : MH) (P : MP), mFr d 92 62 [some (.ref x), l1, l2, l3, l4, l5] st h P = mFr d 92 63 [some (.ref x), l1, l2, l3, l4, l5] (.ref x :: st) h P) ∧
  (∀ (d : Nat) (loc : List (Option Value)) (a : Nat) (st : List Value) (h : MH) (P : MP), mFr d 92 63 loc (.ref a :: st) h P = pget h a 8 11 (fun v => mFr d 92 66 loc (v :: st) h P)) ∧
  (∀ (d : Nat) (l0 : Option Value) (l1 : Option Value) (l2 : Option Value) (l3 : Option Value) (l4 : Option Value) (x : Nat) (st : List Value) (h : MH) (P : MP), mFr d 92 66 [l0, l1, l2, l3, l4, some (.ref x)] st h P = mFr d 92 68 [l0, l1, l2, l3, l4, some (.ref x)] (.ref x :: st) h P) ∧
  (∀ (d : Nat) (l0 : Option Value) (l1 : Option Value) (l2 : Option Value) (l3 : Option Value) (l4 : Option Value) (st : List Value) (h : MH) (P : MP), mFr d 92 66 [l0, l1, l2, l3, l4, some .null] st h P = mFr d 92 68 [l0, l1, l2, l3, l4, some .null] (.null :: st) h P) ∧
  (∀ (d : Nat) (loc : List (Option Value)) (b : Nat) (a0 : Nat) (h : MH) (P : MP), mFr d 92 68 loc ((.ref a0) :: .ref b :: []) h P = if mrcv h b 1 = true then mRun d 9 [.ref b, .ref a0] h (fun v h' => mFr d 92 71 loc (v.toList ++ []) h' P) else False) ∧
  (∀ (d : Nat) (l1 : Option Value) (l2 : Option Value) (l3 : Option Value) (l4 : Option Value) (l5 : Option Value) (x : Nat) (st : List Value) (h : MH) (P : MP), mFr d 92 71 [some (.ref x), l1, l2, l3, l4, l5] st h P = mFr d 92 72 [some (.ref x), l1, l2, l3, l4, l5] (.ref x :: st) h P) ∧
  (∀ (d : Nat) (loc : List (Option Value)) (a : Nat) (st : List Value) (h : MH) (P : MP), mFr d 92 72 loc (.ref a :: st) h P = pget h a 8 10 (fun v => mFr d 92 75 loc (v :: st) h P)) ∧
  (∀ (d : Nat) (l1 : Option Value) (l2 : Option Value) (l3 : Option Value) (l4 : Option Value) (l5 : Option Value) (x : Nat) (st : List Value) (h : MH) (P : MP), mFr d 92 75 [some (.ref x), l1, l2, l3, l4, l5] st h P = mFr d 92 76 [some (.ref x), l1, l2, l3, l4, l5] (.ref x :: st) h P) ∧
  (∀ (d : Nat) (loc : List (Option Value)) (a : Nat) (st : List Value) (h : MH) (P : MP), mFr d 92 76 loc (.ref a :: st) h P = pget h a 8 4 (fun v => mFr d 92 79 loc (v :: st) h P)) ∧
  (∀ (d : Nat) (loc : List (Option Value)) (b : Nat) (a0 : Nat) (h : MH) (P : MP), mFr d 92 79 loc ((.ref a0) :: .ref b :: []) h P = if mrcv h b 2 = true then mRun d 20 [.ref b, .ref a0] h (fun v h' => mFr d 92 82 loc (v.toList ++ []) h' P) else False) ∧
  (∀ (d : Nat) (l0 : Option Value) (l1 : Option Value) (l2 : Option Value) (l4 : Option Value) (l5 : Option Value) (x : Int32) (st : List Value) (h : MH) (P : MP), mFr d 92 82 [l0, l1, l2, some (.int x), l4, l5] st h P = mFr d 92 83 [l0, l1, l2, some (.int x), l4, l5] (.int x :: st) h P) ∧
  (∀ (d : Nat) (loc : List (Option Value)) (x : Int32) (st : List Value) (h : MH) (P : MP), mFr d 92 83 loc (.int x :: st) h P = if x = 0 then mFr d 92 86 loc (st) h P else mFr d 92 93 loc (st) h P) := ⟨fun _ _ _ _ _ _ _ _ _ _ => (mFr_S mq92 h92_62).trans rfl,
  fun _ _ _ _ _ _ => F_get mq92 h92_63 (Or.inl (rfl : _ = some (41, 0, 8, 11))),
  fun _ _ _ _ _ _ _ _ _ _ => (mFr_S mq92 h92_66).trans rfl,
  fun _ _ _ _ _ _ _ _ _ => (mFr_S mq92 h92_66).trans rfl,
  fun _ _ b a0 _ _ => F_callV (as := [.ref a0]) (rest := []) mq92 (Or.inl h92_68) (rfl : _ = some (194, 6, 9, 1)) (Or.inl ⟨h92_68, by decide⟩) (by rfl) (by rfl) (by rfl) (Nat.le_of_ble_eq_true rfl),
  fun _ _ _ _ _ _ _ _ _ _ => (mFr_S mq92 h92_71).trans rfl,
  fun _ _ _ _ _ _ => F_get mq92 h92_72 (Or.inl (rfl : _ = some (107, 0, 8, 10))),
  fun _ _ _ _ _ _ _ _ _ _ => (mFr_S mq92 h92_75).trans rfl,
  fun _ _ _ _ _ _ => F_get mq92 h92_76 (Or.inl (rfl : _ = some (100, 0, 8, 4))),
  fun _ _ b a0 _ _ => F_callV (as := [.ref a0]) (rest := []) mq92 (Or.inl h92_79) (rfl : _ = some (206, 6, 20, 1)) (Or.inl ⟨h92_79, by decide⟩) (by rfl) (by rfl) (by rfl) (Nat.le_of_ble_eq_true rfl),
  fun _ _ _ _ _ _ _ _ _ _ => (mFr_S mq92 h92_82).trans rfl,
  fun _ _ _ _ _ _ => (F_ifz 93 mq92 h92_83 (by decide)).trans mif_ne⟩
theorem E92_86 : (∀ (d : Nat) (l1 : Option Value) (l2 : Option Value) (l3 : Option Value) (l4 : Option Value) (l5 : Option Value) (x : Nat) (st : List Value) (h : MH) (P : MP), mFr d 92 86 [some (.ref x), l1, l2, l3, l4, l5] st h P = mFr d 92 87 [some (.ref x), l1, l2, l3, l4, l5] (.ref x :: st) h P) ∧
  (∀ (d : Nat) (l0 : Option Value) (l1 : Option Value) (l2 : Option Value) (l3 : Option Value) (l5 : Option Value) (x : Nat) (st : List Value) (h : MH) (P : MP), mFr d 92 87 [l0, l1, l2, l3, some (.ref x), l5] st h P = mFr d 92 89 [l0, l1, l2, l3, some (.ref x), l5] (.ref x :: st) h P) ∧
  (∀ (d : Nat) (l0 : Option Value) (l1 : Option Value) (l2 : Option Value) (l3 : Option Value) (l5 : Option Value) (st : List Value) (h : MH) (P : MP), mFr d 92 87 [l0, l1, l2, l3, some .null, l5] st h P = mFr d 92 89 [l0, l1, l2, l3, some .null, l5] (.null :: st) h P) ∧
  (∀ (d : Nat) (loc : List (Option Value)) (b : Nat) (a0 : Nat) (h : MH) (P : MP), mFr d 92 89 loc ((.ref a0) :: .ref b :: []) h P = if mrcv h b 8 = true then mRun d 94 [.ref b, .ref a0] h (fun v h' => mFr d 92 92 loc (v.toList ++ []) h' P) else False) ∧
  (∀ (d : Nat) (loc : List (Option Value)) (x : Int32) (h : MH) (P : MP), mFr d 92 92 loc [.int x] h P = P (some (.int x)) h) := ⟨fun _ _ _ _ _ _ _ _ _ _ => (mFr_S mq92 h92_86).trans rfl,
  fun _ _ _ _ _ _ _ _ _ _ => (mFr_S mq92 h92_87).trans rfl,
  fun _ _ _ _ _ _ _ _ _ => (mFr_S mq92 h92_87).trans rfl,
  fun _ _ b a0 _ _ => F_callV (as := [.ref a0]) (rest := []) mq92 (Or.inl h92_89) (rfl : _ = some (258, 6, 94, 0)) (Or.inl ⟨h92_89, by decide⟩) (by rfl) (by rfl) (by rfl) (Nat.le_of_ble_eq_true rfl),
  fun _ _ _ _ _ => F_ret mq92 h92_92 rfl rfl⟩
theorem E92_93 : (∀ (d : Nat) (l0 : Option Value) (l1 : Option Value) (l2 : Option Value) (l4 : Option Value) (l5 : Option Value) (x : Int32) (st : List Value) (h : MH) (P : MP), mFr d 92 93 [l0, l1, l2, some (.int x), l4, l5] st h P = mFr d 92 94 [l0, l1, l2, some (.int x), l4, l5] (.int x :: st) h P) ∧
  (∀ (d : Nat) (loc : List (Option Value)) (st : List Value) (h : MH) (P : MP), mFr d 92 94 loc st h P = mFr d 92 95 loc (.int 4 :: st) h P) ∧
  (∀ (d : Nat) (loc : List (Option Value)) (x y : Int32) (st : List Value) (h : MH) (P : MP), mFr d 92 95 loc (.int y :: .int x :: st) h P = if x = y then mFr d 92 103 loc (st) h P else mFr d 92 98 loc (st) h P) := ⟨fun _ _ _ _ _ _ _ _ _ _ => (mFr_S mq92 h92_93).trans rfl,
  fun _ _ _ _ _ => (mFr_S mq92 h92_94).trans rfl,
  fun _ _ _ _ _ _ _ => (F_icmp 103 mq92 h92_95 (by decide)).trans mif_eq⟩
theorem E92_98 : (∀ (d : Nat) (l0 : Option Value) (l1 : Option Value) (l2 : Option Value) (l4 : Option Value) (l5 : Option Value) (x : Int32) (st : List Value) (h : MH) (P : MP), mFr d 92 98 [l0, l1, l2, some (.int x), l4, l5] st h P = mFr d 92 99 [l0, l1, l2, some (.int x), l4, l5] (.int x :: st) h P) ∧
  (∀ (d : Nat) (loc : List (Option Value)) (st : List Value) (h : MH) (P : MP), mFr d 92 99 loc st h P = mFr d 92 100 loc (.int 5 :: st) h P) ∧
  (∀ (d : Nat) (loc : List (Option Value)) (x y : Int32) (st : List Value) (h : MH) (P : MP), mFr d 92 100 loc (.int y :: .int x :: st) h P = if x = y then mFr d 92 103 loc (st) h P else mFr d 92 111 loc (st) h P) := ⟨fun _ _ _ _ _ _ _ _ _ _ => (mFr_S mq92 h92_98).trans rfl,
  fun _ _ _ _ _ => (mFr_S mq92 h92_99).trans rfl,
  fun _ _ _ _ _ _ _ => (F_icmp 111 mq92 h92_100 (by decide)).trans mif_ne⟩
theorem E92_103 : (∀ (d : Nat) (l1 : Option Value) (l2 : Option Value) (l3 : Option Value) (l4 : Option Value) (l5 : Option Value) (x : Nat) (st : List Value) (h : MH) (P : MP), mFr d 92 103 [some (.ref x), l1, l2, l3, l4, l5] st h P = mFr d 92 104 [some (.ref x), l1, l2, l3, l4, l5] (.ref x :: st) h P) ∧
  (∀ (d : Nat) (l0 : Option Value) (l1 : Option Value) (l2 : Option Value) (l3 : Option Value) (l5 : Option Value) (x : Nat) (st : List Value) (h : MH) (P : MP), mFr d 92 104 [l0, l1, l2, l3, some (.ref x), l5] st h P = mFr d 92 106 [l0, l1, l2, l3, some (.ref x), l5] (.ref x :: st) h P) ∧
  (∀ (d : Nat) (l0 : Option Value) (l1 : Option Value) (l2 : Option Value) (l3 : Option Value) (l5 : Option Value) (st : List Value) (h : MH) (P : MP), mFr d 92 104 [l0, l1, l2, l3, some .null, l5] st h P = mFr d 92 106 [l0, l1, l2, l3, some .null, l5] (.null :: st) h P) ∧
  (∀ (d : Nat) (l0 : Option Value) (l1 : Option Value) (l2 : Option Value) (l4 : Option Value) (l5 : Option Value) (x : Int32) (st : List Value) (h : MH) (P : MP), mFr d 92 106 [l0, l1, l2, some (.int x), l4, l5] st h P = mFr d 92 107 [l0, l1, l2, some (.int x), l4, l5] (.int x :: st) h P) ∧
  (∀ (d : Nat) (loc : List (Option Value)) (b : Nat) (a0 : Nat) (a1 : Int32) (h : MH) (P : MP), mFr d 92 107 loc ((.int a1) :: (.ref a0) :: .ref b :: []) h P = if mrcv h b 8 = true then mRun d 95 [.ref b, .ref a0, .int a1] h (fun v h' => mFr d 92 110 loc (v.toList ++ []) h' P) else False) ∧
  (∀ (d : Nat) (loc : List (Option Value)) (x : Int32) (h : MH) (P : MP), mFr d 92 110 loc [.int x] h P = P (some (.int x)) h) := ⟨fun _ _ _ _ _ _ _ _ _ _ => (mFr_S mq92 h92_103).trans rfl,
  fun _ _ _ _ _ _ _ _ _ _ => (mFr_S mq92 h92_104).trans rfl,
  fun _ _ _ _ _ _ _ _ _ => (mFr_S mq92 h92_104).trans rfl,
  fun _ _ _ _ _ _ _ _ _ _ => (mFr_S mq92 h92_106).trans rfl,
  fun _ _ b a0 a1 _ _ => F_callV (as := [.ref a0, .int a1]) (rest := []) mq92 (Or.inl h92_107) (rfl : _ = some (262, 6, 95, 0)) (Or.inl ⟨h92_107, by decide⟩) (by rfl) (by rfl) (by rfl) (Nat.le_of_ble_eq_true rfl),
  fun _ _ _ _ _ => F_ret mq92 h92_110 rfl rfl⟩
theorem E92_111 : (∀ (d : Nat) (l1 : Option Value) (l2 : Option Value) (l3 : Option Value) (l4 : Option Value) (l5 : Option Value) (x : Nat) (st : List Value) (h : MH) (P : MP), mFr d 92 111 [some (.ref x), l1, l2, l3, l4, l5] st h P = mFr d 92 112 [some (.ref x), l1, l2, l3, l4, l5] (.ref x :: st) h P) ∧
  (∀ (d : Nat) (l0 : Option Value) (l1 : Option Value) (l2 : Option Value) (l3 : Option Value) (l5 : Option Value) (x : Nat) (st : List Value) (h : MH) (P : MP), mFr d 92 112 [l0, l1, l2, l3, some (.ref x), l5] st h P = mFr d 92 114 [l0, l1, l2, l3, some (.ref x), l5] (.ref x :: st) h P) ∧
  (∀ (d : Nat) (l0 : Option Value) (l1 : Option Value) (l2 : Option Value) (l3 : Option Value) (l5 : Option Value) (st : List Value) (h : MH) (P : MP), mFr d 92 112 [l0, l1, l2, l3, some .null, l5] st h P = mFr d 92 114 [l0, l1, l2, l3, some .null, l5] (.null :: st) h P) ∧
  (∀ (d : Nat) (l0 : Option Value) (l1 : Option Value) (l2 : Option Value) (l4 : Option Value) (l5 : Option Value) (x : Int32) (st : List Value) (h : MH) (P : MP), mFr d 92 114 [l0, l1, l2, some (.int x), l4, l5] st h P = mFr d 92 115 [l0, l1, l2, some (.int x), l4, l5] (.int x :: st) h P) ∧
  (∀ (d : Nat) (loc : List (Option Value)) (b : Nat) (a0 : Nat) (a1 : Int32) (h : MH) (P : MP), mFr d 92 115 loc ((.int a1) :: (.ref a0) :: .ref b :: []) h P = if mrcv h b 8 = true then mRun d 96 [.ref b, .ref a0, .int a1] h (fun v h' => mFr d 92 118 loc (v.toList ++ []) h' P) else False) ∧
  (∀ (d : Nat) (loc : List (Option Value)) (x : Int32) (h : MH) (P : MP), mFr d 92 118 loc [.int x] h P = P (some (.int x)) h) := ⟨fun _ _ _ _ _ _ _ _ _ _ => (mFr_S mq92 h92_111).trans rfl,
  fun _ _ _ _ _ _ _ _ _ _ => (mFr_S mq92 h92_112).trans rfl,
  fun _ _ _ _ _ _ _ _ _ => (mFr_S mq92 h92_112).trans rfl,
  fun _ _ _ _ _ _ _ _ _ _ => (mFr_S mq92 h92_114).trans rfl,
  fun _ _ b a0 a1 _ _ => F_callV (as := [.ref a0, .int a1]) (rest := []) mq92 (Or.inl h92_115) (rfl : _ = some (266, 6, 96, 0)) (Or.inl ⟨h92_115, by decide⟩) (by rfl) (by rfl) (by rfl) (Nat.le_of_ble_eq_true rfl),
  fun _ _ _ _ _ => F_ret mq92 h92_118 rfl rfl⟩
theorem B92 : ∀ (d : Nat) (b : Nat) (a0 : Int32) (a1 : Int32) (a2 : Int32) (h : MH) (P : MP), mRun (d + 1) 92 [.ref b, .int a0, .int a1, .int a2] h P = mFr d 92 0 [some (.ref b), some (.int a0), some (.int a1), some (.int a2), none, none] [] h P := fun _ _ _ _ _ _ _ => mRun_S mq92 (Nat.le_of_ble_eq_true rfl)
-- 93: PuncturesAreViews.isAsked(I)Z
def q93 : MI := (yX8_isAsked, cX8_isAsked, 1, (some .boolean), 8, 1)
theorem mq93 : mtab[93]? = some q93 := rfl
theorem h93_0 : mfetch q93.2.1 0 = some (.iload_n 0) := by decide +kernel
theorem h93_1 : mfetch q93.2.1 1 = some (.ifCond .lt 9) := by decide +kernel
theorem h93_4 : mfetch q93.2.1 4 = some (.iload_n 0) := by decide +kernel
theorem h93_5 : mfetch q93.2.1 5 = some (.bipush 6) := by decide +kernel
theorem h93_7 : mfetch q93.2.1 7 = some (.if_icmp .le 15) := by decide +kernel
theorem h93_10 : mfetch q93.2.1 10 = some (.iload_n 0) := by decide +kernel
theorem h93_11 : mfetch q93.2.1 11 = some (.bipush 10) := by decide +kernel
theorem h93_13 : mfetch q93.2.1 13 = some (.if_icmp .lt 13) := by decide +kernel
theorem h93_16 : mfetch q93.2.1 16 = some (.iload_n 0) := by decide +kernel
theorem h93_17 : mfetch q93.2.1 17 = some (.bipush 34) := by decide +kernel
theorem h93_19 : mfetch q93.2.1 19 = some (.if_icmp .ge 7) := by decide +kernel
theorem h93_22 : mfetch q93.2.1 22 = some (.iconst 1) := by decide +kernel
theorem h93_23 : mfetch q93.2.1 23 = some (.goto 4) := by decide +kernel
theorem h93_26 : mfetch q93.2.1 26 = some (.iconst 0) := by decide +kernel
theorem h93_27 : mfetch q93.2.1 27 = some (.ireturn) := by decide +kernel
theorem E93_0 : (∀ (d : Nat) (x : Int32) (st : List Value) (h : MH) (P : MP), mFr d 93 0 [some (.int x)] st h P = mFr d 93 1 [some (.int x)] (.int x :: st) h P) ∧
  (∀ (d : Nat) (loc : List (Option Value)) (x : Int32) (st : List Value) (h : MH) (P : MP), mFr d 93 1 loc (.int x :: st) h P = if x < 0 then mFr d 93 10 loc (st) h P else mFr d 93 4 loc (st) h P) := ⟨fun _ _ _ _ _ => (mFr_S mq93 h93_0).trans rfl,
  fun _ _ _ _ _ _ => (F_ifz 10 mq93 h93_1 (by decide)).trans mif_lt⟩
theorem E93_4 : (∀ (d : Nat) (x : Int32) (st : List Value) (h : MH) (P : MP), mFr d 93 4 [some (.int x)] st h P = mFr d 93 5 [some (.int x)] (.int x :: st) h P) ∧
  (∀ (d : Nat) (loc : List (Option Value)) (st : List Value) (h : MH) (P : MP), mFr d 93 5 loc st h P = mFr d 93 7 loc (.int 6 :: st) h P) ∧
  (∀ (d : Nat) (loc : List (Option Value)) (x y : Int32) (st : List Value) (h : MH) (P : MP), mFr d 93 7 loc (.int y :: .int x :: st) h P = if y < x then mFr d 93 10 loc (st) h P else mFr d 93 22 loc (st) h P) := ⟨fun _ _ _ _ _ => (mFr_S mq93 h93_4).trans rfl,
  fun _ _ _ _ _ => (mFr_S mq93 h93_5).trans rfl,
  fun _ _ _ _ _ _ _ => (F_icmp 22 mq93 h93_7 (by decide)).trans mif_le⟩
theorem E93_10 : (∀ (d : Nat) (x : Int32) (st : List Value) (h : MH) (P : MP), mFr d 93 10 [some (.int x)] st h P = mFr d 93 11 [some (.int x)] (.int x :: st) h P) ∧
  (∀ (d : Nat) (loc : List (Option Value)) (st : List Value) (h : MH) (P : MP), mFr d 93 11 loc st h P = mFr d 93 13 loc (.int 10 :: st) h P) ∧
  (∀ (d : Nat) (loc : List (Option Value)) (x y : Int32) (st : List Value) (h : MH) (P : MP), mFr d 93 13 loc (.int y :: .int x :: st) h P = if x < y then mFr d 93 26 loc (st) h P else mFr d 93 16 loc (st) h P) := ⟨fun _ _ _ _ _ => (mFr_S mq93 h93_10).trans rfl,
  fun _ _ _ _ _ => (mFr_S mq93 h93_11).trans rfl,
  fun _ _ _ _ _ _ _ => (F_icmp 26 mq93 h93_13 (by decide)).trans mif_lt⟩
theorem E93_16 : (∀ (d : Nat) (x : Int32) (st : List Value) (h : MH) (P : MP), mFr d 93 16 [some (.int x)] st h P = mFr d 93 17 [some (.int x)] (.int x :: st) h P) ∧
  (∀ (d : Nat) (loc : List (Option Value)) (st : List Value) (h : MH) (P : MP), mFr d 93 17 loc st h P = mFr d 93 19 loc (.int 34 :: st) h P) ∧
  (∀ (d : Nat) (loc : List (Option Value)) (x y : Int32) (st : List Value) (h : MH) (P : MP), mFr d 93 19 loc (.int y :: .int x :: st) h P = if x < y then mFr d 93 22 loc (st) h P else mFr d 93 26 loc (st) h P) := ⟨fun _ _ _ _ _ => (mFr_S mq93 h93_16).trans rfl,
  fun _ _ _ _ _ => (mFr_S mq93 h93_17).trans rfl,
  fun _ _ _ _ _ _ _ => (F_icmp 26 mq93 h93_19 (by decide)).trans mif_ge⟩
theorem E93_22 : (∀ (d : Nat) (loc : List (Option Value)) (st : List Value) (h : MH) (P : MP), mFr d 93 22 loc st h P = mFr d 93 23 loc (.int 1 :: st) h P) ∧
  (∀ (d : Nat) (loc : List (Option Value)) (st : List Value) (h : MH) (P : MP), mFr d 93 23 loc st h P = mFr d 93 27 loc (st) h P) := ⟨fun _ _ _ _ _ => (mFr_S mq93 h93_22).trans rfl,
  fun _ _ _ _ _ => F_goto 27 mq93 h93_23 (by decide)⟩
theorem E93_26 : (∀ (d : Nat) (loc : List (Option Value)) (st : List Value) (h : MH) (P : MP), mFr d 93 26 loc st h P = mFr d 93 27 loc (.int 0 :: st) h P) := fun _ _ _ _ _ => (mFr_S mq93 h93_26).trans rfl
theorem E93_27 : (∀ (d : Nat) (loc : List (Option Value)) (h : MH) (P : MP), mFr d 93 27 loc [.int 0] h P = P (some (.int 0)) h) ∧
  (∀ (d : Nat) (loc : List (Option Value)) (h : MH) (P : MP), mFr d 93 27 loc [.int 1] h P = P (some (.int 1)) h) ∧
  (∀ (d : Nat) (loc : List (Option Value)) (c : Prop) [Decidable c] (h : MH) (P : MP), mFr d 93 27 loc [.int (if c then 1 else 0)] h P = P (some (.int (if c then 1 else 0))) h) := ⟨fun _ _ _ _ => F_ret mq93 h93_27 rfl (by decide),
  fun _ _ _ _ => F_ret mq93 h93_27 rfl (by decide),
  fun _ _ _ _ _ _ => F_ret mq93 h93_27 rfl (by split <;> decide)⟩
theorem B93 : ∀ (d : Nat) (a0 : Int32) (h : MH) (P : MP), mRun (d + 1) 93 [.int a0] h P = mFr d 93 0 [some (.int a0)] [] h P := fun _ _ _ _ => mRun_S mq93 (Nat.le_of_ble_eq_true rfl)
-- 94: PuncturesAreViews.firstOtherwise(LPuncturesAreViews$Sheet;)I loops at [13]
def q94 : MI := (yX8_firstOtherwise, cX8_firstOtherwise, 3, (some .int), 8, 1)
theorem mq94 : mtab[94]? = some q94 := rfl
theorem h94_0 : mfetch q94.2.1 0 = some (.aload_n 0) := by decide +kernel
theorem h94_1 : mfetch q94.2.1 1 = some (.getfield 45) := by decide +kernel
theorem h94_4 : mfetch q94.2.1 4 = some (.aload_n 0) := by decide +kernel
theorem h94_5 : mfetch q94.2.1 5 = some (.getfield 41) := by decide +kernel
theorem h94_8 : mfetch q94.2.1 8 = some (.invokevirtual 194) := by decide +kernel
theorem h94_11 : mfetch q94.2.1 11 = some (.iconst 0) := by decide +kernel
theorem h94_12 : mfetch q94.2.1 12 = some (.istore_n 2) := by decide +kernel
theorem h94_13 : mfetch q94.2.1 13 = some (.iload_n 2) := by decide +kernel
theorem h94_14 : mfetch q94.2.1 14 = some (.aload_n 1) := by decide +kernel
theorem h94_15 : mfetch q94.2.1 15 = some (.getfield 257) := by decide +kernel
theorem h94_18 : mfetch q94.2.1 18 = some (.if_icmp .ge 38) := by decide +kernel
theorem h94_21 : mfetch q94.2.1 21 = some (.aload_n 0) := by decide +kernel
theorem h94_22 : mfetch q94.2.1 22 = some (.getfield 45) := by decide +kernel
theorem h94_25 : mfetch q94.2.1 25 = some (.aload_n 0) := by decide +kernel
theorem h94_26 : mfetch q94.2.1 26 = some (.getfield 107) := by decide +kernel
theorem h94_29 : mfetch q94.2.1 29 = some (.invokevirtual 184) := by decide +kernel
theorem h94_32 : mfetch q94.2.1 32 = some (.pop) := by decide +kernel
theorem h94_33 : mfetch q94.2.1 33 = some (.aload_n 0) := by decide +kernel
theorem h94_34 : mfetch q94.2.1 34 = some (.getfield 45) := by decide +kernel
theorem h94_37 : mfetch q94.2.1 37 = some (.getfield 148) := by decide +kernel
theorem h94_40 : mfetch q94.2.1 40 = some (.aload_n 1) := by decide +kernel
theorem h94_41 : mfetch q94.2.1 41 = some (.iload_n 2) := by decide +kernel
theorem h94_42 : mfetch q94.2.1 42 = some (.invokevirtual 269) := by decide +kernel
theorem h94_45 : mfetch q94.2.1 45 = some (.if_icmp .eq 5) := by decide +kernel
theorem h94_48 : mfetch q94.2.1 48 = some (.iload_n 2) := by decide +kernel
theorem h94_49 : mfetch q94.2.1 49 = some (.ireturn) := by decide +kernel
theorem h94_50 : mfetch q94.2.1 50 = some (.iinc 2 1) := by decide +kernel
theorem h94_53 : mfetch q94.2.1 53 = some (.goto (-40)) := by decide +kernel
theorem h94_56 : mfetch q94.2.1 56 = some (.iconst (-1)) := by decide +kernel
theorem h94_57 : mfetch q94.2.1 57 = some (.ireturn) := by decide +kernel
theorem E94_0 : (∀ (d : Nat) (l1 : Option Value) (l2 : Option Value) (x : Nat) (st : List Value) (h : MH) (P : MP), mFr d 94 0 [some (.ref x), l1, l2] st h P = mFr d 94 1 [some (.ref x), l1, l2] (.ref x :: st) h P) ∧
  (∀ (d : Nat) (loc : List (Option Value)) (a : Nat) (st : List Value) (h : MH) (P : MP), mFr d 94 1 loc (.ref a :: st) h P = pget h a 8 12 (fun v => mFr d 94 4 loc (v :: st) h P)) ∧
  (∀ (d : Nat) (l1 : Option Value) (l2 : Option Value) (x : Nat) (st : List Value) (h : MH) (P : MP), mFr d 94 4 [some (.ref x), l1, l2] st h P = mFr d 94 5 [some (.ref x), l1, l2] (.ref x :: st) h P) ∧
  (∀ (d : Nat) (loc : List (Option Value)) (a : Nat) (st : List Value) (h : MH) (P : MP), mFr d 94 5 loc (.ref a :: st) h P = pget h a 8 11 (fun v => mFr d 94 8 loc (v :: st) h P)) ∧
  (∀ (d : Nat) (loc : List (Option Value)) (b : Nat) (a0 : Nat) (h : MH) (P : MP), mFr d 94 8 loc ((.ref a0) :: .ref b :: []) h P = if mrcv h b 1 = true then mRun d 9 [.ref b, .ref a0] h (fun v h' => mFr d 94 11 loc (v.toList ++ []) h' P) else False) ∧
  (∀ (d : Nat) (loc : List (Option Value)) (st : List Value) (h : MH) (P : MP), mFr d 94 11 loc st h P = mFr d 94 12 loc (.int 0 :: st) h P) ∧
  (∀ (d : Nat) (l0 : Option Value) (l1 : Option Value) (l2 : Option Value) (x : Int32) (st : List Value) (h : MH) (P : MP), mnl l1 = true → mFr d 94 12 [l0, l1, l2] (.int x :: st) h P = mFr d 94 13 [l0, l1, some (.int x)] (st) h P) := ⟨fun _ _ _ _ _ _ _ => (mFr_S mq94 h94_0).trans rfl,
  fun _ _ _ _ _ _ => F_get mq94 h94_1 (Or.inl (rfl : _ = some (45, 0, 8, 12))),
  fun _ _ _ _ _ _ _ => (mFr_S mq94 h94_4).trans rfl,
  fun _ _ _ _ _ _ => F_get mq94 h94_5 (Or.inl (rfl : _ = some (41, 0, 8, 11))),
  fun _ _ b a0 _ _ => F_callV (as := [.ref a0]) (rest := []) mq94 (Or.inl h94_8) (rfl : _ = some (194, 6, 9, 1)) (Or.inl ⟨h94_8, by decide⟩) (by rfl) (by rfl) (by rfl) (Nat.le_of_ble_eq_true rfl),
  fun _ _ _ _ _ => (mFr_S mq94 h94_11).trans rfl,
  fun _ _ _ _ _ _ _ _ hm => (mFr_S mq94 h94_12).trans (by simp only [mgo.eq_1, mstep, mi1, ml1, mast, mst, mst2, mprev, List.length_cons, List.length_nil, List.getElem?_cons_succ, List.getElem?_cons_zero, hm]; rfl)⟩
theorem E94_13 : (∀ (d : Nat) (l0 : Option Value) (l1 : Option Value) (x : Int32) (st : List Value) (h : MH) (P : MP), mFr d 94 13 [l0, l1, some (.int x)] st h P = mFr d 94 14 [l0, l1, some (.int x)] (.int x :: st) h P) ∧
  (∀ (d : Nat) (l0 : Option Value) (l2 : Option Value) (x : Nat) (st : List Value) (h : MH) (P : MP), mFr d 94 14 [l0, some (.ref x), l2] st h P = mFr d 94 15 [l0, some (.ref x), l2] (.ref x :: st) h P) ∧
  (∀ (d : Nat) (l0 : Option Value) (l2 : Option Value) (st : List Value) (h : MH) (P : MP), mFr d 94 14 [l0, some .null, l2] st h P = mFr d 94 15 [l0, some .null, l2] (.null :: st) h P) ∧
  (∀ (d : Nat) (loc : List (Option Value)) (a : Nat) (st : List Value) (h : MH) (P : MP), mFr d 94 15 loc (.ref a :: st) h P = pget h a 3 2 (fun v => mFr d 94 18 loc (v :: st) h P)) ∧
  (∀ (d : Nat) (loc : List (Option Value)) (x y : Int32) (st : List Value) (h : MH) (P : MP), mFr d 94 18 loc (.int y :: .int x :: st) h P = if x < y then mFr d 94 21 loc (st) h P else mFr d 94 56 loc (st) h P) := ⟨fun _ _ _ _ _ _ _ => (mFr_S mq94 h94_13).trans rfl,
  fun _ _ _ _ _ _ _ => (mFr_S mq94 h94_14).trans rfl,
  fun _ _ _ _ _ _ => (mFr_S mq94 h94_14).trans rfl,
  fun _ _ _ _ _ _ => F_get mq94 h94_15 (Or.inr (rfl : _ = some (257, 1, 3, 2))),
  fun _ _ _ _ _ _ _ => (F_icmp 56 mq94 h94_18 (by decide)).trans mif_ge⟩
theorem E94_21 : (∀ (d : Nat) (l1 : Option Value) (l2 : Option Value) (x : Nat) (st : List Value) (h : MH) (P : MP), mFr d 94 21 [some (.ref x), l1, l2] st h P = mFr d 94 22 [some (.ref x), l1, l2] (.ref x :: st) h P) ∧
  (∀ (d : Nat) (loc : List (Option Value)) (a : Nat) (st : List Value) (h : MH) (P : MP), mFr d 94 22 loc (.ref a :: st) h P = pget h a 8 12 (fun v => mFr d 94 25 loc (v :: st) h P)) ∧
  (∀ (d : Nat) (l1 : Option Value) (l2 : Option Value) (x : Nat) (st : List Value) (h : MH) (P : MP), mFr d 94 25 [some (.ref x), l1, l2] st h P = mFr d 94 26 [some (.ref x), l1, l2] (.ref x :: st) h P) ∧
  (∀ (d : Nat) (loc : List (Option Value)) (a : Nat) (st : List Value) (h : MH) (P : MP), mFr d 94 26 loc (.ref a :: st) h P = pget h a 8 10 (fun v => mFr d 94 29 loc (v :: st) h P)) ∧
  (∀ (d : Nat) (loc : List (Option Value)) (b : Nat) (a0 : Nat) (h : MH) (P : MP), mFr d 94 29 loc ((.ref a0) :: .ref b :: []) h P = if mrcv h b 1 = true then mRun d 11 [.ref b, .ref a0] h (fun v h' => mFr d 94 32 loc (v.toList ++ []) h' P) else False) ∧
  (∀ (d : Nat) (loc : List (Option Value)) (x : Int32) (st : List Value) (h : MH) (P : MP), mFr d 94 32 loc (.int x :: st) h P = mFr d 94 33 loc (st) h P) ∧
  (∀ (d : Nat) (l1 : Option Value) (l2 : Option Value) (x : Nat) (st : List Value) (h : MH) (P : MP), mFr d 94 33 [some (.ref x), l1, l2] st h P = mFr d 94 34 [some (.ref x), l1, l2] (.ref x :: st) h P) ∧
  (∀ (d : Nat) (loc : List (Option Value)) (a : Nat) (st : List Value) (h : MH) (P : MP), mFr d 94 34 loc (.ref a :: st) h P = pget h a 8 12 (fun v => mFr d 94 37 loc (v :: st) h P)) ∧
  (∀ (d : Nat) (loc : List (Option Value)) (a : Nat) (st : List Value) (h : MH) (P : MP), mFr d 94 37 loc (.ref a :: st) h P = pget h a 1 4 (fun v => mFr d 94 40 loc (v :: st) h P)) ∧
  (∀ (d : Nat) (l0 : Option Value) (l2 : Option Value) (x : Nat) (st : List Value) (h : MH) (P : MP), mFr d 94 40 [l0, some (.ref x), l2] st h P = mFr d 94 41 [l0, some (.ref x), l2] (.ref x :: st) h P) ∧
  (∀ (d : Nat) (l0 : Option Value) (l2 : Option Value) (st : List Value) (h : MH) (P : MP), mFr d 94 40 [l0, some .null, l2] st h P = mFr d 94 41 [l0, some .null, l2] (.null :: st) h P) ∧
  (∀ (d : Nat) (l0 : Option Value) (l1 : Option Value) (x : Int32) (st : List Value) (h : MH) (P : MP), mFr d 94 41 [l0, l1, some (.int x)] st h P = mFr d 94 42 [l0, l1, some (.int x)] (.int x :: st) h P) ∧
  (∀ (d : Nat) (loc : List (Option Value)) (b : Nat) (a0 : Int32) (s0 : Int32) (h : MH) (P : MP), mFr d 94 42 loc ((.int a0) :: .ref b :: [.int s0]) h P = if mrcv h b 3 = true then mRun d 24 [.ref b, .int a0] h (fun v h' => mFr d 94 45 loc (v.toList ++ [.int s0]) h' P) else False) ∧
  (∀ (d : Nat) (loc : List (Option Value)) (x y : Int32) (st : List Value) (h : MH) (P : MP), mFr d 94 45 loc (.int y :: .int x :: st) h P = if x = y then mFr d 94 50 loc (st) h P else mFr d 94 48 loc (st) h P) := ⟨fun _ _ _ _ _ _ _ => (mFr_S mq94 h94_21).trans rfl,
  fun _ _ _ _ _ _ => F_get mq94 h94_22 (Or.inl (rfl : _ = some (45, 0, 8, 12))),
  fun _ _ _ _ _ _ _ => (mFr_S mq94 h94_25).trans rfl,
  fun _ _ _ _ _ _ => F_get mq94 h94_26 (Or.inl (rfl : _ = some (107, 0, 8, 10))),
  fun _ _ b a0 _ _ => F_callV (as := [.ref a0]) (rest := []) mq94 (Or.inl h94_29) (rfl : _ = some (184, 6, 11, 1)) (Or.inl ⟨h94_29, by decide⟩) (by rfl) (by rfl) (by rfl) (Nat.le_of_ble_eq_true rfl),
  fun _ _ _ _ _ _ => (mFr_S mq94 h94_32).trans rfl,
  fun _ _ _ _ _ _ _ => (mFr_S mq94 h94_33).trans rfl,
  fun _ _ _ _ _ _ => F_get mq94 h94_34 (Or.inl (rfl : _ = some (45, 0, 8, 12))),
  fun _ _ _ _ _ _ => F_get mq94 h94_37 (Or.inr (rfl : _ = some (148, 1, 1, 4))),
  fun _ _ _ _ _ _ _ => (mFr_S mq94 h94_40).trans rfl,
  fun _ _ _ _ _ _ => (mFr_S mq94 h94_40).trans rfl,
  fun _ _ _ _ _ _ _ => (mFr_S mq94 h94_41).trans rfl,
  fun _ _ b a0 s0 _ _ => F_callV (as := [.int a0]) (rest := [.int s0]) mq94 (Or.inl h94_42) (rfl : _ = some (269, 6, 24, 1)) (Or.inl ⟨h94_42, by decide⟩) (by rfl) (by rfl) (by rfl) (Nat.le_of_ble_eq_true rfl),
  fun _ _ _ _ _ _ _ => (F_icmp 50 mq94 h94_45 (by decide)).trans mif_eq⟩
theorem E94_48 : (∀ (d : Nat) (l0 : Option Value) (l1 : Option Value) (x : Int32) (st : List Value) (h : MH) (P : MP), mFr d 94 48 [l0, l1, some (.int x)] st h P = mFr d 94 49 [l0, l1, some (.int x)] (.int x :: st) h P) ∧
  (∀ (d : Nat) (loc : List (Option Value)) (x : Int32) (h : MH) (P : MP), mFr d 94 49 loc [.int x] h P = P (some (.int x)) h) := ⟨fun _ _ _ _ _ _ _ => (mFr_S mq94 h94_48).trans rfl,
  fun _ _ _ _ _ => F_ret mq94 h94_49 rfl rfl⟩
theorem E94_50 : (∀ (d : Nat) (l0 : Option Value) (l1 : Option Value) (x : Int32) (st : List Value) (h : MH) (P : MP), mnl l1 = true → mFr d 94 50 [l0, l1, some (.int x)] st h P = mFr d 94 53 [l0, l1, some (.int (x + 1))] (st) h P) ∧
  (∀ (d : Nat) (loc : List (Option Value)) (st : List Value) (h : MH) (P : MP), mFr d 94 53 loc st h P = mFr d 94 13 loc (st) h P) := ⟨fun _ _ _ _ _ _ _ hm => (mFr_S mq94 h94_50).trans (by simp only [mgo.eq_1, mstep, mld, mst, mprev, List.length_cons, List.length_nil, List.getElem?_cons_succ, List.getElem?_cons_zero, hm]; rfl),
  fun _ _ _ _ _ => F_goto 13 mq94 h94_53 (by decide)⟩
theorem E94_56 : (∀ (d : Nat) (loc : List (Option Value)) (st : List Value) (h : MH) (P : MP), mFr d 94 56 loc st h P = mFr d 94 57 loc (.int (-1) :: st) h P) ∧
  (∀ (d : Nat) (loc : List (Option Value)) (x : Int32) (h : MH) (P : MP), mFr d 94 57 loc [.int x] h P = P (some (.int x)) h) := ⟨fun _ _ _ _ _ => (mFr_S mq94 h94_56).trans rfl,
  fun _ _ _ _ _ => F_ret mq94 h94_57 rfl rfl⟩
theorem B94 : ∀ (d : Nat) (b : Nat) (a0 : Nat) (h : MH) (P : MP), mRun (d + 1) 94 [.ref b, .ref a0] h P = mFr d 94 0 [some (.ref b), some (.ref a0), none] [] h P := fun _ _ _ _ _ => mRun_S mq94 (Nat.le_of_ble_eq_true rfl)
-- 95: PuncturesAreViews.airsAsTold(LPuncturesAreViews$Sheet;I)I loops at [9]
def q95 : MI := (yX8_airsAsTold, cX8_airsAsTold, 6, (some .int), 8, 2)
theorem mq95 : mtab[95]? = some q95 := rfl
theorem h95_0 : mfetch q95.2.1 0 = some (.iconst 0) := by decide +kernel
theorem h95_1 : mfetch q95.2.1 1 = some (.istore_n 3) := by decide +kernel
theorem h95_2 : mfetch q95.2.1 2 = some (.iconst (-1)) := by decide +kernel
theorem h95_3 : mfetch q95.2.1 3 = some (.istore 4) := by decide +kernel
theorem h95_5 : mfetch q95.2.1 5 = some (.bipush 99) := by decide +kernel
theorem h95_7 : mfetch q95.2.1 7 = some (.istore 5) := by decide +kernel
theorem h95_9 : mfetch q95.2.1 9 = some (.iload 5) := by decide +kernel
theorem h95_11 : mfetch q95.2.1 11 = some (.ifCond .lt 34) := by decide +kernel
theorem h95_14 : mfetch q95.2.1 14 = some (.aload_n 0) := by decide +kernel
theorem h95_15 : mfetch q95.2.1 15 = some (.getfield 41) := by decide +kernel
theorem h95_18 : mfetch q95.2.1 18 = some (.iload 5) := by decide +kernel
theorem h95_20 : mfetch q95.2.1 20 = some (.putfield 148) := by decide +kernel
theorem h95_23 : mfetch q95.2.1 23 = some (.aload_n 0) := by decide +kernel
theorem h95_24 : mfetch q95.2.1 24 = some (.aload_n 1) := by decide +kernel
theorem h95_25 : mfetch q95.2.1 25 = some (.invokevirtual 258) := by decide +kernel
theorem h95_28 : mfetch q95.2.1 28 = some (.iconst (-1)) := by decide +kernel
theorem h95_29 : mfetch q95.2.1 29 = some (.if_icmp .ne 10) := by decide +kernel
theorem h95_32 : mfetch q95.2.1 32 = some (.iinc 3 1) := by decide +kernel
theorem h95_35 : mfetch q95.2.1 35 = some (.iload 5) := by decide +kernel
theorem h95_37 : mfetch q95.2.1 37 = some (.istore 4) := by decide +kernel
theorem h95_39 : mfetch q95.2.1 39 = some (.iinc 5 (-1)) := by decide +kernel
theorem h95_42 : mfetch q95.2.1 42 = some (.goto (-33)) := by decide +kernel
theorem h95_45 : mfetch q95.2.1 45 = some (.iload_n 2) := by decide +kernel
theorem h95_46 : mfetch q95.2.1 46 = some (.iconst 4) := by decide +kernel
theorem h95_47 : mfetch q95.2.1 47 = some (.if_icmp .ne 7) := by decide +kernel
theorem h95_50 : mfetch q95.2.1 50 = some (.iload_n 3) := by decide +kernel
theorem h95_51 : mfetch q95.2.1 51 = some (.goto 5) := by decide +kernel
theorem h95_54 : mfetch q95.2.1 54 = some (.iload 4) := by decide +kernel
theorem h95_56 : mfetch q95.2.1 56 = some (.ireturn) := by decide +kernel
theorem E95_0 : (∀ (d : Nat) (loc : List (Option Value)) (st : List Value) (h : MH) (P : MP), mFr d 95 0 loc st h P = mFr d 95 1 loc (.int 0 :: st) h P) ∧
  (∀ (d : Nat) (l0 : Option Value) (l1 : Option Value) (l2 : Option Value) (l3 : Option Value) (l4 : Option Value) (l5 : Option Value) (x : Int32) (st : List Value) (h : MH) (P : MP), mnl l2 = true → mFr d 95 1 [l0, l1, l2, l3, l4, l5] (.int x :: st) h P = mFr d 95 2 [l0, l1, l2, some (.int x), l4, l5] (st) h P) ∧
  (∀ (d : Nat) (loc : List (Option Value)) (st : List Value) (h : MH) (P : MP), mFr d 95 2 loc st h P = mFr d 95 3 loc (.int (-1) :: st) h P) ∧
  (∀ (d : Nat) (l0 : Option Value) (l1 : Option Value) (l2 : Option Value) (l3 : Option Value) (l4 : Option Value) (l5 : Option Value) (x : Int32) (st : List Value) (h : MH) (P : MP), mnl l3 = true → mFr d 95 3 [l0, l1, l2, l3, l4, l5] (.int x :: st) h P = mFr d 95 5 [l0, l1, l2, l3, some (.int x), l5] (st) h P) ∧
  (∀ (d : Nat) (loc : List (Option Value)) (st : List Value) (h : MH) (P : MP), mFr d 95 5 loc st h P = mFr d 95 7 loc (.int 99 :: st) h P) ∧
  (∀ (d : Nat) (l0 : Option Value) (l1 : Option Value) (l2 : Option Value) (l3 : Option Value) (l4 : Option Value) (l5 : Option Value) (x : Int32) (st : List Value) (h : MH) (P : MP), mnl l4 = true → mFr d 95 7 [l0, l1, l2, l3, l4, l5] (.int x :: st) h P = mFr d 95 9 [l0, l1, l2, l3, l4, some (.int x)] (st) h P) := ⟨fun _ _ _ _ _ => (mFr_S mq95 h95_0).trans rfl,
  fun _ _ _ _ _ _ _ _ _ _ _ hm => (mFr_S mq95 h95_1).trans (by simp only [mgo.eq_1, mstep, mi1, ml1, mast, mst, mst2, mprev, List.length_cons, List.length_nil, List.getElem?_cons_succ, List.getElem?_cons_zero, hm]; rfl),
  fun _ _ _ _ _ => (mFr_S mq95 h95_2).trans rfl,
  fun _ _ _ _ _ _ _ _ _ _ _ hm => (mFr_S mq95 h95_3).trans (by simp only [mgo.eq_1, mstep, mi1, ml1, mast, mst, mst2, mprev, List.length_cons, List.length_nil, List.getElem?_cons_succ, List.getElem?_cons_zero, hm]; rfl),
  fun _ _ _ _ _ => (mFr_S mq95 h95_5).trans rfl,
  fun _ _ _ _ _ _ _ _ _ _ _ hm => (mFr_S mq95 h95_7).trans (by simp only [mgo.eq_1, mstep, mi1, ml1, mast, mst, mst2, mprev, List.length_cons, List.length_nil, List.getElem?_cons_succ, List.getElem?_cons_zero, hm]; rfl)⟩
theorem E95_9 : (∀ (d : Nat) (l0 : Option Value) (l1 : Option Value) (l2 : Option Value) (l3 : Option Value) (l4 : Option Value) (x : Int32) (st : List Value) (h : MH) (P : MP), mFr d 95 9 [l0, l1, l2, l3, l4, some (.int x)] st h P = mFr d 95 11 [l0, l1, l2, l3, l4, some (.int x)] (.int x :: st) h P) ∧
  (∀ (d : Nat) (loc : List (Option Value)) (x : Int32) (st : List Value) (h : MH) (P : MP), mFr d 95 11 loc (.int x :: st) h P = if x < 0 then mFr d 95 45 loc (st) h P else mFr d 95 14 loc (st) h P) := ⟨fun _ _ _ _ _ _ _ _ _ _ => (mFr_S mq95 h95_9).trans rfl,
  fun _ _ _ _ _ _ => (F_ifz 45 mq95 h95_11 (by decide)).trans mif_lt⟩
theorem E95_14 : (∀ (d : Nat) (l1 : Option Value) (l2 : Option Value) (l3 : Option Value) (l4 : Option Value) (l5 : Option Value) (x : Nat) (st : List Value) (h : MH) (P : MP), mFr d 95 14 [some (.ref x), l1, l2, l3, l4, l5] st h P = mFr d 95 15 [some (.ref x), l1, l2, l3, l4, l5] (.ref x :: st) h P) ∧
  (∀ (d : Nat) (loc : List (Option Value)) (a : Nat) (st : List Value) (h : MH) (P : MP), mFr d 95 15 loc (.ref a :: st) h P = pget h a 8 11 (fun v => mFr d 95 18 loc (v :: st) h P)) ∧
  (∀ (d : Nat) (l0 : Option Value) (l1 : Option Value) (l2 : Option Value) (l3 : Option Value) (l4 : Option Value) (x : Int32) (st : List Value) (h : MH) (P : MP), mFr d 95 18 [l0, l1, l2, l3, l4, some (.int x)] st h P = mFr d 95 20 [l0, l1, l2, l3, l4, some (.int x)] (.int x :: st) h P) ∧
  (∀ (d : Nat) (loc : List (Option Value)) (a : Nat) (x : Int32) (st : List Value) (h : MH) (P : MP), mFr d 95 20 loc (.int x :: .ref a :: st) h P = pput h a 1 4 (.int x) (fun h' => mFr d 95 23 loc (st) h' P)) ∧
  (∀ (d : Nat) (l1 : Option Value) (l2 : Option Value) (l3 : Option Value) (l4 : Option Value) (l5 : Option Value) (x : Nat) (st : List Value) (h : MH) (P : MP), mFr d 95 23 [some (.ref x), l1, l2, l3, l4, l5] st h P = mFr d 95 24 [some (.ref x), l1, l2, l3, l4, l5] (.ref x :: st) h P) ∧
  (∀ (d : Nat) (l0 : Option Value) (l2 : Option Value) (l3 : Option Value) (l4 : Option Value) (l5 : Option Value) (x : Nat) (st : List Value) (h : MH) (P : MP), mFr d 95 24 [l0, some (.ref x), l2, l3, l4, l5] st h P = mFr d 95 25 [l0, some (.ref x), l2, l3, l4, l5] (.ref x :: st) h P) ∧
  (∀ (d : Nat) (l0 : Option Value) (l2 : Option Value) (l3 : Option Value) (l4 : Option Value) (l5 : Option Value) (st : List Value) (h : MH) (P : MP), mFr d 95 24 [l0, some .null, l2, l3, l4, l5] st h P = mFr d 95 25 [l0, some .null, l2, l3, l4, l5] (.null :: st) h P) ∧
  (∀ (d : Nat) (loc : List (Option Value)) (b : Nat) (a0 : Nat) (h : MH) (P : MP), mFr d 95 25 loc ((.ref a0) :: .ref b :: []) h P = if mrcv h b 8 = true then mRun d 94 [.ref b, .ref a0] h (fun v h' => mFr d 95 28 loc (v.toList ++ []) h' P) else False) ∧
  (∀ (d : Nat) (loc : List (Option Value)) (st : List Value) (h : MH) (P : MP), mFr d 95 28 loc st h P = mFr d 95 29 loc (.int (-1) :: st) h P) ∧
  (∀ (d : Nat) (loc : List (Option Value)) (x y : Int32) (st : List Value) (h : MH) (P : MP), mFr d 95 29 loc (.int y :: .int x :: st) h P = if x = y then mFr d 95 32 loc (st) h P else mFr d 95 39 loc (st) h P) := ⟨fun _ _ _ _ _ _ _ _ _ _ => (mFr_S mq95 h95_14).trans rfl,
  fun _ _ _ _ _ _ => F_get mq95 h95_15 (Or.inl (rfl : _ = some (41, 0, 8, 11))),
  fun _ _ _ _ _ _ _ _ _ _ => (mFr_S mq95 h95_18).trans rfl,
  fun _ _ _ _ _ _ _ => F_put mq95 h95_20 (Or.inr ⟨(rfl : _ = some (148, 1, 1, 4)), rfl⟩),
  fun _ _ _ _ _ _ _ _ _ _ => (mFr_S mq95 h95_23).trans rfl,
  fun _ _ _ _ _ _ _ _ _ _ => (mFr_S mq95 h95_24).trans rfl,
  fun _ _ _ _ _ _ _ _ _ => (mFr_S mq95 h95_24).trans rfl,
  fun _ _ b a0 _ _ => F_callV (as := [.ref a0]) (rest := []) mq95 (Or.inl h95_25) (rfl : _ = some (258, 6, 94, 0)) (Or.inl ⟨h95_25, by decide⟩) (by rfl) (by rfl) (by rfl) (Nat.le_of_ble_eq_true rfl),
  fun _ _ _ _ _ => (mFr_S mq95 h95_28).trans rfl,
  fun _ _ _ _ _ _ _ => (F_icmp 39 mq95 h95_29 (by decide)).trans mif_ne⟩
theorem E95_32 : (∀ (d : Nat) (l0 : Option Value) (l1 : Option Value) (l2 : Option Value) (l4 : Option Value) (l5 : Option Value) (x : Int32) (st : List Value) (h : MH) (P : MP), mnl l2 = true → mFr d 95 32 [l0, l1, l2, some (.int x), l4, l5] st h P = mFr d 95 35 [l0, l1, l2, some (.int (x + 1)), l4, l5] (st) h P) ∧
  (∀ (d : Nat) (l0 : Option Value) (l1 : Option Value) (l2 : Option Value) (l3 : Option Value) (l4 : Option Value) (x : Int32) (st : List Value) (h : MH) (P : MP), mFr d 95 35 [l0, l1, l2, l3, l4, some (.int x)] st h P = mFr d 95 37 [l0, l1, l2, l3, l4, some (.int x)] (.int x :: st) h P) ∧
  (∀ (d : Nat) (l0 : Option Value) (l1 : Option Value) (l2 : Option Value) (l3 : Option Value) (l4 : Option Value) (l5 : Option Value) (x : Int32) (st : List Value) (h : MH) (P : MP), mnl l3 = true → mFr d 95 37 [l0, l1, l2, l3, l4, l5] (.int x :: st) h P = mFr d 95 39 [l0, l1, l2, l3, some (.int x), l5] (st) h P) := ⟨fun _ _ _ _ _ _ _ _ _ _ hm => (mFr_S mq95 h95_32).trans (by simp only [mgo.eq_1, mstep, mld, mst, mprev, List.length_cons, List.length_nil, List.getElem?_cons_succ, List.getElem?_cons_zero, hm]; rfl),
  fun _ _ _ _ _ _ _ _ _ _ => (mFr_S mq95 h95_35).trans rfl,
  fun _ _ _ _ _ _ _ _ _ _ _ hm => (mFr_S mq95 h95_37).trans (by simp only [mgo.eq_1, mstep, mi1, ml1, mast, mst, mst2, mprev, List.length_cons, List.length_nil, List.getElem?_cons_succ, List.getElem?_cons_zero, hm]; rfl)⟩
theorem E95_39 : (∀ (d : Nat) (l0 : Option Value) (l1 : Option Value) (l2 : Option Value) (l3 : Option Value) (l4 : Option Value) (x : Int32) (st : List Value) (h : MH) (P : MP), mnl l4 = true → mFr d 95 39 [l0, l1, l2, l3, l4, some (.int x)] st h P = mFr d 95 42 [l0, l1, l2, l3, l4, some (.int (x + (-1)))] (st) h P) ∧
  (∀ (d : Nat) (loc : List (Option Value)) (st : List Value) (h : MH) (P : MP), mFr d 95 42 loc st h P = mFr d 95 9 loc (st) h P) := ⟨fun _ _ _ _ _ _ _ _ _ _ hm => (mFr_S mq95 h95_39).trans (by simp only [mgo.eq_1, mstep, mld, mst, mprev, List.length_cons, List.length_nil, List.getElem?_cons_succ, List.getElem?_cons_zero, hm]; rfl),
  fun _ _ _ _ _ => F_goto 9 mq95 h95_42 (by decide)⟩
theorem E95_45 : (∀ (d : Nat) (l0 : Option Value) (l1 : Option Value) (l3 : Option Value) (l4 : Option Value) (l5 : Option Value) (x : Int32) (st : List Value) (h : MH) (P : MP), mFr d 95 45 [l0, l1, some (.int x), l3, l4, l5] st h P = mFr d 95 46 [l0, l1, some (.int x), l3, l4, l5] (.int x :: st) h P) ∧
  (∀ (d : Nat) (loc : List (Option Value)) (st : List Value) (h : MH) (P : MP), mFr d 95 46 loc st h P = mFr d 95 47 loc (.int 4 :: st) h P) ∧
  (∀ (d : Nat) (loc : List (Option Value)) (x y : Int32) (st : List Value) (h : MH) (P : MP), mFr d 95 47 loc (.int y :: .int x :: st) h P = if x = y then mFr d 95 50 loc (st) h P else mFr d 95 54 loc (st) h P) := ⟨fun _ _ _ _ _ _ _ _ _ _ => (mFr_S mq95 h95_45).trans rfl,
  fun _ _ _ _ _ => (mFr_S mq95 h95_46).trans rfl,
  fun _ _ _ _ _ _ _ => (F_icmp 54 mq95 h95_47 (by decide)).trans mif_ne⟩
theorem E95_50 : (∀ (d : Nat) (l0 : Option Value) (l1 : Option Value) (l2 : Option Value) (l4 : Option Value) (l5 : Option Value) (x : Int32) (st : List Value) (h : MH) (P : MP), mFr d 95 50 [l0, l1, l2, some (.int x), l4, l5] st h P = mFr d 95 51 [l0, l1, l2, some (.int x), l4, l5] (.int x :: st) h P) ∧
  (∀ (d : Nat) (loc : List (Option Value)) (st : List Value) (h : MH) (P : MP), mFr d 95 51 loc st h P = mFr d 95 56 loc (st) h P) := ⟨fun _ _ _ _ _ _ _ _ _ _ => (mFr_S mq95 h95_50).trans rfl,
  fun _ _ _ _ _ => F_goto 56 mq95 h95_51 (by decide)⟩
theorem E95_54 : (∀ (d : Nat) (l0 : Option Value) (l1 : Option Value) (l2 : Option Value) (l3 : Option Value) (l5 : Option Value) (x : Int32) (st : List Value) (h : MH) (P : MP), mFr d 95 54 [l0, l1, l2, l3, some (.int x), l5] st h P = mFr d 95 56 [l0, l1, l2, l3, some (.int x), l5] (.int x :: st) h P) := fun _ _ _ _ _ _ _ _ _ _ => (mFr_S mq95 h95_54).trans rfl
theorem E95_56 : (∀ (d : Nat) (loc : List (Option Value)) (x : Int32) (h : MH) (P : MP), mFr d 95 56 loc [.int x] h P = P (some (.int x)) h) := fun _ _ _ _ _ => F_ret mq95 h95_56 rfl rfl
theorem B95 : ∀ (d : Nat) (b : Nat) (a0 : Nat) (a1 : Int32) (h : MH) (P : MP), mRun (d + 1) 95 [.ref b, .ref a0, .int a1] h P = mFr d 95 0 [some (.ref b), some (.ref a0), some (.int a1), none, none, none] [] h P := fun _ _ _ _ _ _ => mRun_S mq95 (Nat.le_of_ble_eq_true rfl)
-- 96: PuncturesAreViews.bitsAsTold(LPuncturesAreViews$Sheet;I)I loops at [32]
def q96 : MI := (yX8_bitsAsTold, cX8_bitsAsTold, 6, (some .int), 8, 2)
theorem mq96 : mtab[96]? = some q96 := rfl
theorem h96_0 : mfetch q96.2.1 0 = some (.iload_n 2) := by decide +kernel
theorem h96_1 : mfetch q96.2.1 1 = some (.iconst 1) := by decide +kernel
theorem h96_2 : mfetch q96.2.1 2 = some (.if_icmp .ne 8) := by decide +kernel
theorem h96_5 : mfetch q96.2.1 5 = some (.bipush 6) := by decide +kernel
theorem h96_7 : mfetch q96.2.1 7 = some (.goto 18) := by decide +kernel
theorem h96_10 : mfetch q96.2.1 10 = some (.iload_n 2) := by decide +kernel
theorem h96_11 : mfetch q96.2.1 11 = some (.bipush 6) := by decide +kernel
theorem h96_13 : mfetch q96.2.1 13 = some (.if_icmp .ne 10) := by decide +kernel
theorem h96_16 : mfetch q96.2.1 16 = some (.aload_n 0) := by decide +kernel
theorem h96_17 : mfetch q96.2.1 17 = some (.getfield 92) := by decide +kernel
theorem h96_20 : mfetch q96.2.1 20 = some (.goto 5) := by decide +kernel
theorem h96_23 : mfetch q96.2.1 23 = some (.bipush 10) := by decide +kernel
theorem h96_25 : mfetch q96.2.1 25 = some (.istore_n 3) := by decide +kernel
theorem h96_26 : mfetch q96.2.1 26 = some (.iconst 0) := by decide +kernel
theorem h96_27 : mfetch q96.2.1 27 = some (.istore 4) := by decide +kernel
theorem h96_29 : mfetch q96.2.1 29 = some (.iconst 0) := by decide +kernel
theorem h96_30 : mfetch q96.2.1 30 = some (.istore 5) := by decide +kernel
theorem h96_32 : mfetch q96.2.1 32 = some (.iload 5) := by decide +kernel
theorem h96_34 : mfetch q96.2.1 34 = some (.iload_n 3) := by decide +kernel
theorem h96_35 : mfetch q96.2.1 35 = some (.if_icmp .ge 34) := by decide +kernel
theorem h96_38 : mfetch q96.2.1 38 = some (.aload_n 0) := by decide +kernel
theorem h96_39 : mfetch q96.2.1 39 = some (.iload_n 2) := by decide +kernel
theorem h96_40 : mfetch q96.2.1 40 = some (.iload 5) := by decide +kernel
theorem h96_42 : mfetch q96.2.1 42 = some (.invokevirtual 272) := by decide +kernel
theorem h96_45 : mfetch q96.2.1 45 = some (.aload_n 0) := by decide +kernel
theorem h96_46 : mfetch q96.2.1 46 = some (.aload_n 1) := by decide +kernel
theorem h96_47 : mfetch q96.2.1 47 = some (.invokevirtual 258) := by decide +kernel
theorem h96_50 : mfetch q96.2.1 50 = some (.iconst (-1)) := by decide +kernel
theorem h96_51 : mfetch q96.2.1 51 = some (.if_icmp .ne 12) := by decide +kernel
theorem h96_54 : mfetch q96.2.1 54 = some (.iload 4) := by decide +kernel
theorem h96_56 : mfetch q96.2.1 56 = some (.iconst 1) := by decide +kernel
theorem h96_57 : mfetch q96.2.1 57 = some (.iload 5) := by decide +kernel
theorem h96_59 : mfetch q96.2.1 59 = some (.ishl) := by decide +kernel
theorem h96_60 : mfetch q96.2.1 60 = some (.ior) := by decide +kernel
theorem h96_61 : mfetch q96.2.1 61 = some (.istore 4) := by decide +kernel
theorem h96_63 : mfetch q96.2.1 63 = some (.iinc 5 1) := by decide +kernel
theorem h96_66 : mfetch q96.2.1 66 = some (.goto (-34)) := by decide +kernel
theorem h96_69 : mfetch q96.2.1 69 = some (.iload 4) := by decide +kernel
theorem h96_71 : mfetch q96.2.1 71 = some (.ireturn) := by decide +kernel
theorem E96_0 : (∀ (d : Nat) (l0 : Option Value) (l1 : Option Value) (l3 : Option Value) (l4 : Option Value) (l5 : Option Value) (x : Int32) (st : List Value) (h : MH) (P : MP), mFr d 96 0 [l0, l1, some (.int x), l3, l4, l5] st h P = mFr d 96 1 [l0, l1, some (.int x), l3, l4, l5] (.int x :: st) h P) ∧
  (∀ (d : Nat) (loc : List (Option Value)) (st : List Value) (h : MH) (P : MP), mFr d 96 1 loc st h P = mFr d 96 2 loc (.int 1 :: st) h P) ∧
  (∀ (d : Nat) (loc : List (Option Value)) (x y : Int32) (st : List Value) (h : MH) (P : MP), mFr d 96 2 loc (.int y :: .int x :: st) h P = if x = y then mFr d 96 5 loc (st) h P else mFr d 96 10 loc (st) h P) := ⟨fun _ _ _ _ _ _ _ _ _ _ => (mFr_S mq96 h96_0).trans rfl,
  fun _ _ _ _ _ => (mFr_S mq96 h96_1).trans rfl,
  fun _ _ _ _ _ _ _ => (F_icmp 10 mq96 h96_2 (by decide)).trans mif_ne⟩
theorem E96_5 : (∀ (d : Nat) (loc : List (Option Value)) (st : List Value) (h : MH) (P : MP), mFr d 96 5 loc st h P = mFr d 96 7 loc (.int 6 :: st) h P) ∧
  (∀ (d : Nat) (loc : List (Option Value)) (st : List Value) (h : MH) (P : MP), mFr d 96 7 loc st h P = mFr d 96 25 loc (st) h P) := ⟨fun _ _ _ _ _ => (mFr_S mq96 h96_5).trans rfl,
  fun _ _ _ _ _ => F_goto 25 mq96 h96_7 (by decide)⟩
theorem E96_10 : (∀ (d : Nat) (l0 : Option Value) (l1 : Option Value) (l3 : Option Value) (l4 : Option Value) (l5 : Option Value) (x : Int32) (st : List Value) (h : MH) (P : MP), mFr d 96 10 [l0, l1, some (.int x), l3, l4, l5] st h P = mFr d 96 11 [l0, l1, some (.int x), l3, l4, l5] (.int x :: st) h P) ∧
  (∀ (d : Nat) (loc : List (Option Value)) (st : List Value) (h : MH) (P : MP), mFr d 96 11 loc st h P = mFr d 96 13 loc (.int 6 :: st) h P) ∧
  (∀ (d : Nat) (loc : List (Option Value)) (x y : Int32) (st : List Value) (h : MH) (P : MP), mFr d 96 13 loc (.int y :: .int x :: st) h P = if x = y then mFr d 96 16 loc (st) h P else mFr d 96 23 loc (st) h P) := ⟨fun _ _ _ _ _ _ _ _ _ _ => (mFr_S mq96 h96_10).trans rfl,
  fun _ _ _ _ _ => (mFr_S mq96 h96_11).trans rfl,
  fun _ _ _ _ _ _ _ => (F_icmp 23 mq96 h96_13 (by decide)).trans mif_ne⟩
theorem E96_16 : (∀ (d : Nat) (l1 : Option Value) (l2 : Option Value) (l3 : Option Value) (l4 : Option Value) (l5 : Option Value) (x : Nat) (st : List Value) (h : MH) (P : MP), mFr d 96 16 [some (.ref x), l1, l2, l3, l4, l5] st h P = mFr d 96 17 [some (.ref x), l1, l2, l3, l4, l5] (.ref x :: st) h P) ∧
  (∀ (d : Nat) (loc : List (Option Value)) (a : Nat) (st : List Value) (h : MH) (P : MP), mFr d 96 17 loc (.ref a :: st) h P = pget h a 8 3 (fun v => mFr d 96 20 loc (v :: st) h P)) ∧
  (∀ (d : Nat) (loc : List (Option Value)) (st : List Value) (h : MH) (P : MP), mFr d 96 20 loc st h P = mFr d 96 25 loc (st) h P) := ⟨fun _ _ _ _ _ _ _ _ _ _ => (mFr_S mq96 h96_16).trans rfl,
  fun _ _ _ _ _ _ => F_get mq96 h96_17 (Or.inl (rfl : _ = some (92, 0, 8, 3))),
  fun _ _ _ _ _ => F_goto 25 mq96 h96_20 (by decide)⟩
theorem E96_23 : (∀ (d : Nat) (loc : List (Option Value)) (st : List Value) (h : MH) (P : MP), mFr d 96 23 loc st h P = mFr d 96 25 loc (.int 10 :: st) h P) := fun _ _ _ _ _ => (mFr_S mq96 h96_23).trans rfl
theorem E96_25 : (∀ (d : Nat) (l0 : Option Value) (l1 : Option Value) (l2 : Option Value) (l3 : Option Value) (l4 : Option Value) (l5 : Option Value) (x : Int32) (st : List Value) (h : MH) (P : MP), mnl l2 = true → mFr d 96 25 [l0, l1, l2, l3, l4, l5] (.int x :: st) h P = mFr d 96 26 [l0, l1, l2, some (.int x), l4, l5] (st) h P) ∧
  (∀ (d : Nat) (loc : List (Option Value)) (st : List Value) (h : MH) (P : MP), mFr d 96 26 loc st h P = mFr d 96 27 loc (.int 0 :: st) h P) ∧
  (∀ (d : Nat) (l0 : Option Value) (l1 : Option Value) (l2 : Option Value) (l3 : Option Value) (l4 : Option Value) (l5 : Option Value) (x : Int32) (st : List Value) (h : MH) (P : MP), mnl l3 = true → mFr d 96 27 [l0, l1, l2, l3, l4, l5] (.int x :: st) h P = mFr d 96 29 [l0, l1, l2, l3, some (.int x), l5] (st) h P) ∧
  (∀ (d : Nat) (loc : List (Option Value)) (st : List Value) (h : MH) (P : MP), mFr d 96 29 loc st h P = mFr d 96 30 loc (.int 0 :: st) h P) ∧
  (∀ (d : Nat) (l0 : Option Value) (l1 : Option Value) (l2 : Option Value) (l3 : Option Value) (l4 : Option Value) (l5 : Option Value) (x : Int32) (st : List Value) (h : MH) (P : MP), mnl l4 = true → mFr d 96 30 [l0, l1, l2, l3, l4, l5] (.int x :: st) h P = mFr d 96 32 [l0, l1, l2, l3, l4, some (.int x)] (st) h P) := ⟨fun _ _ _ _ _ _ _ _ _ _ _ hm => (mFr_S mq96 h96_25).trans (by simp only [mgo.eq_1, mstep, mi1, ml1, mast, mst, mst2, mprev, List.length_cons, List.length_nil, List.getElem?_cons_succ, List.getElem?_cons_zero, hm]; rfl),
  fun _ _ _ _ _ => (mFr_S mq96 h96_26).trans rfl,
  fun _ _ _ _ _ _ _ _ _ _ _ hm => (mFr_S mq96 h96_27).trans (by simp only [mgo.eq_1, mstep, mi1, ml1, mast, mst, mst2, mprev, List.length_cons, List.length_nil, List.getElem?_cons_succ, List.getElem?_cons_zero, hm]; rfl),
  fun _ _ _ _ _ => (mFr_S mq96 h96_29).trans rfl,
  fun _ _ _ _ _ _ _ _ _ _ _ hm => (mFr_S mq96 h96_30).trans (by simp only [mgo.eq_1, mstep, mi1, ml1, mast, mst, mst2, mprev, List.length_cons, List.length_nil, List.getElem?_cons_succ, List.getElem?_cons_zero, hm]; rfl)⟩
theorem E96_32 : (∀ (d : Nat) (l0 : Option Value) (l1 : Option Value) (l2 : Option Value) (l3 : Option Value) (l4 : Option Value) (x : Int32) (st : List Value) (h : MH) (P : MP), mFr d 96 32 [l0, l1, l2, l3, l4, some (.int x)] st h P = mFr d 96 34 [l0, l1, l2, l3, l4, some (.int x)] (.int x :: st) h P) ∧
  (∀ (d : Nat) (l0 : Option Value) (l1 : Option Value) (l2 : Option Value) (l4 : Option Value) (l5 : Option Value) (x : Int32) (st : List Value) (h : MH) (P : MP), mFr d 96 34 [l0, l1, l2, some (.int x), l4, l5] st h P = mFr d 96 35 [l0, l1, l2, some (.int x), l4, l5] (.int x :: st) h P) ∧
  (∀ (d : Nat) (loc : List (Option Value)) (x y : Int32) (st : List Value) (h : MH) (P : MP), mFr d 96 35 loc (.int y :: .int x :: st) h P = if x < y then mFr d 96 38 loc (st) h P else mFr d 96 69 loc (st) h P) := ⟨fun _ _ _ _ _ _ _ _ _ _ => (mFr_S mq96 h96_32).trans rfl,
  fun _ _ _ _ _ _ _ _ _ _ => (mFr_S mq96 h96_34).trans rfl,
  fun _ _ _ _ _ _ _ => (F_icmp 69 mq96 h96_35 (by decide)).trans mif_ge⟩
theorem E96_38 : (∀ (d : Nat) (l1 : Option Value) (l2 : Option Value) (l3 : Option Value) (l4 : Option Value) (l5 : Option Value) (x : Nat) (st : List Value) (h : MH) (P : MP), mFr d 96 38 [some (.ref x), l1, l2, l3, l4, l5] st h P = mFr d 96 39 [some (.ref x), l1, l2, l3, l4, l5] (.ref x :: st) h P) ∧
  (∀ (d : Nat) (l0 : Option Value) (l1 : Option Value) (l3 : Option Value) (l4 : Option Value) (l5 : Option Value) (x : Int32) (st : List Value) (h : MH) (P : MP), mFr d 96 39 [l0, l1, some (.int x), l3, l4, l5] st h P = mFr d 96 40 [l0, l1, some (.int x), l3, l4, l5] (.int x :: st) h P) ∧
  (∀ (d : Nat) (l0 : Option Value) (l1 : Option Value) (l2 : Option Value) (l3 : Option Value) (l4 : Option Value) (x : Int32) (st : List Value) (h : MH) (P : MP), mFr d 96 40 [l0, l1, l2, l3, l4, some (.int x)] st h P = mFr d 96 42 [l0, l1, l2, l3, l4, some (.int x)] (.int x :: st) h P) ∧
  (∀ (d : Nat) (loc : List (Option Value)) (b : Nat) (a0 : Int32) (a1 : Int32) (h : MH) (P : MP), mFr d 96 42 loc ((.int a1) :: (.int a0) :: .ref b :: []) h P = if mrcv h b 8 = true then mRun d 97 [.ref b, .int a0, .int a1] h (fun v h' => mFr d 96 45 loc (v.toList ++ []) h' P) else False) ∧
  (∀ (d : Nat) (l1 : Option Value) (l2 : Option Value) (l3 : Option Value) (l4 : Option Value) (l5 : Option Value) (x : Nat) (st : List Value) (h : MH) (P : MP), mFr d 96 45 [some (.ref x), l1, l2, l3, l4, l5] st h P = mFr d 96 46 [some (.ref x), l1, l2, l3, l4, l5] (.ref x :: st) h P) ∧
  (∀ (d : Nat) (l0 : Option Value) (l2 : Option Value) (l3 : Option Value) (l4 : Option Value) (l5 : Option Value) (x : Nat) (st : List Value) (h : MH) (P : MP), mFr d 96 46 [l0, some (.ref x), l2, l3, l4, l5] st h P = mFr d 96 47 [l0, some (.ref x), l2, l3, l4, l5] (.ref x :: st) h P) ∧
  (∀ (d : Nat) (l0 : Option Value) (l2 : Option Value) (l3 : Option Value) (l4 : Option Value) (l5 : Option Value) (st : List Value) (h : MH) (P : MP), mFr d 96 46 [l0, some .null, l2, l3, l4, l5] st h P = mFr d 96 47 [l0, some .null, l2, l3, l4, l5] (.null :: st) h P) ∧
  (∀ (d : Nat) (loc : List (Option Value)) (b : Nat) (a0 : Nat) (h : MH) (P : MP), mFr d 96 47 loc ((.ref a0) :: .ref b :: []) h P = if mrcv h b 8 = true then mRun d 94 [.ref b, .ref a0] h (fun v h' => mFr d 96 50 loc (v.toList ++ []) h' P) else False) ∧
  (∀ (d : Nat) (loc : List (Option Value)) (st : List Value) (h : MH) (P : MP), mFr d 96 50 loc st h P = mFr d 96 51 loc (.int (-1) :: st) h P) ∧
  (∀ (d : Nat) (loc : List (Option Value)) (x y : Int32) (st : List Value) (h : MH) (P : MP), mFr d 96 51 loc (.int y :: .int x :: st) h P = if x = y then mFr d 96 54 loc (st) h P else mFr d 96 63 loc (st) h P) := ⟨fun _ _ _ _ _ _ _ _ _ _ => (mFr_S mq96 h96_38).trans rfl,
  fun _ _ _ _ _ _ _ _ _ _ => (mFr_S mq96 h96_39).trans rfl,
  fun _ _ _ _ _ _ _ _ _ _ => (mFr_S mq96 h96_40).trans rfl,
  fun _ _ b a0 a1 _ _ => F_callV (as := [.int a0, .int a1]) (rest := []) mq96 (Or.inl h96_42) (rfl : _ = some (272, 6, 97, 0)) (Or.inl ⟨h96_42, by decide⟩) (by rfl) (by rfl) (by rfl) (Nat.le_of_ble_eq_true rfl),
  fun _ _ _ _ _ _ _ _ _ _ => (mFr_S mq96 h96_45).trans rfl,
  fun _ _ _ _ _ _ _ _ _ _ => (mFr_S mq96 h96_46).trans rfl,
  fun _ _ _ _ _ _ _ _ _ => (mFr_S mq96 h96_46).trans rfl,
  fun _ _ b a0 _ _ => F_callV (as := [.ref a0]) (rest := []) mq96 (Or.inl h96_47) (rfl : _ = some (258, 6, 94, 0)) (Or.inl ⟨h96_47, by decide⟩) (by rfl) (by rfl) (by rfl) (Nat.le_of_ble_eq_true rfl),
  fun _ _ _ _ _ => (mFr_S mq96 h96_50).trans rfl,
  fun _ _ _ _ _ _ _ => (F_icmp 63 mq96 h96_51 (by decide)).trans mif_ne⟩
theorem E96_54 : (∀ (d : Nat) (l0 : Option Value) (l1 : Option Value) (l2 : Option Value) (l3 : Option Value) (l5 : Option Value) (x : Int32) (st : List Value) (h : MH) (P : MP), mFr d 96 54 [l0, l1, l2, l3, some (.int x), l5] st h P = mFr d 96 56 [l0, l1, l2, l3, some (.int x), l5] (.int x :: st) h P) ∧
  (∀ (d : Nat) (loc : List (Option Value)) (st : List Value) (h : MH) (P : MP), mFr d 96 56 loc st h P = mFr d 96 57 loc (.int 1 :: st) h P) ∧
  (∀ (d : Nat) (l0 : Option Value) (l1 : Option Value) (l2 : Option Value) (l3 : Option Value) (l4 : Option Value) (x : Int32) (st : List Value) (h : MH) (P : MP), mFr d 96 57 [l0, l1, l2, l3, l4, some (.int x)] st h P = mFr d 96 59 [l0, l1, l2, l3, l4, some (.int x)] (.int x :: st) h P) ∧
  (∀ (d : Nat) (loc : List (Option Value)) (x y : Int32) (st : List Value) (h : MH) (P : MP), mFr d 96 59 loc (.int y :: .int x :: st) h P = mFr d 96 60 loc (.int (x <<< (y &&& 31)) :: st) h P) ∧
  (∀ (d : Nat) (loc : List (Option Value)) (x y : Int32) (st : List Value) (h : MH) (P : MP), mFr d 96 60 loc (.int y :: .int x :: st) h P = mFr d 96 61 loc (.int (x ||| y) :: st) h P) ∧
  (∀ (d : Nat) (l0 : Option Value) (l1 : Option Value) (l2 : Option Value) (l3 : Option Value) (l4 : Option Value) (l5 : Option Value) (x : Int32) (st : List Value) (h : MH) (P : MP), mnl l3 = true → mFr d 96 61 [l0, l1, l2, l3, l4, l5] (.int x :: st) h P = mFr d 96 63 [l0, l1, l2, l3, some (.int x), l5] (st) h P) := ⟨fun _ _ _ _ _ _ _ _ _ _ => (mFr_S mq96 h96_54).trans rfl,
  fun _ _ _ _ _ => (mFr_S mq96 h96_56).trans rfl,
  fun _ _ _ _ _ _ _ _ _ _ => (mFr_S mq96 h96_57).trans rfl,
  fun _ _ _ _ _ _ _ => (mFr_S mq96 h96_59).trans rfl,
  fun _ _ _ _ _ _ _ => (mFr_S mq96 h96_60).trans rfl,
  fun _ _ _ _ _ _ _ _ _ _ _ hm => (mFr_S mq96 h96_61).trans (by simp only [mgo.eq_1, mstep, mi1, ml1, mast, mst, mst2, mprev, List.length_cons, List.length_nil, List.getElem?_cons_succ, List.getElem?_cons_zero, hm]; rfl)⟩
theorem E96_63 : (∀ (d : Nat) (l0 : Option Value) (l1 : Option Value) (l2 : Option Value) (l3 : Option Value) (l4 : Option Value) (x : Int32) (st : List Value) (h : MH) (P : MP), mnl l4 = true → mFr d 96 63 [l0, l1, l2, l3, l4, some (.int x)] st h P = mFr d 96 66 [l0, l1, l2, l3, l4, some (.int (x + 1))] (st) h P) ∧
  (∀ (d : Nat) (loc : List (Option Value)) (st : List Value) (h : MH) (P : MP), mFr d 96 66 loc st h P = mFr d 96 32 loc (st) h P) := ⟨fun _ _ _ _ _ _ _ _ _ _ hm => (mFr_S mq96 h96_63).trans (by simp only [mgo.eq_1, mstep, mld, mst, mprev, List.length_cons, List.length_nil, List.getElem?_cons_succ, List.getElem?_cons_zero, hm]; rfl),
  fun _ _ _ _ _ => F_goto 32 mq96 h96_66 (by decide)⟩
theorem E96_69 : (∀ (d : Nat) (l0 : Option Value) (l1 : Option Value) (l2 : Option Value) (l3 : Option Value) (l5 : Option Value) (x : Int32) (st : List Value) (h : MH) (P : MP), mFr d 96 69 [l0, l1, l2, l3, some (.int x), l5] st h P = mFr d 96 71 [l0, l1, l2, l3, some (.int x), l5] (.int x :: st) h P) ∧
  (∀ (d : Nat) (loc : List (Option Value)) (x : Int32) (h : MH) (P : MP), mFr d 96 71 loc [.int x] h P = P (some (.int x)) h) := ⟨fun _ _ _ _ _ _ _ _ _ _ => (mFr_S mq96 h96_69).trans rfl,
  fun _ _ _ _ _ => F_ret mq96 h96_71 rfl rfl⟩
theorem B96 : ∀ (d : Nat) (b : Nat) (a0 : Nat) (a1 : Int32) (h : MH) (P : MP), mRun (d + 1) 96 [.ref b, .ref a0, .int a1] h P = mFr d 96 0 [some (.ref b), some (.ref a0), some (.int a1), none, none, none] [] h P := fun _ _ _ _ _ _ => mRun_S mq96 (Nat.le_of_ble_eq_true rfl)
-- 97: PuncturesAreViews.suppose(II)V
def q97 : MI := (yX8_suppose, cX8_suppose, 4, none, 8, 2)
theorem mq97 : mtab[97]? = some q97 := rfl
theorem h97_0 : mfetch q97.2.1 0 = some (.iload_n 1) := by decide +kernel
theorem h97_1 : mfetch q97.2.1 1 = some (.tableswitch 93 1 6 #[39, 50, 61, 93, 93, 72]) := by decide +kernel
theorem h97_40 : mfetch q97.2.1 40 = some (.aload_n 0) := by decide +kernel
theorem h97_41 : mfetch q97.2.1 41 = some (.getfield 41) := by decide +kernel
theorem h97_44 : mfetch q97.2.1 44 = some (.iload_n 2) := by decide +kernel
theorem h97_45 : mfetch q97.2.1 45 = some (.putfield 151) := by decide +kernel
theorem h97_48 : mfetch q97.2.1 48 = some (.goto 58) := by decide +kernel
theorem h97_51 : mfetch q97.2.1 51 = some (.aload_n 0) := by decide +kernel
theorem h97_52 : mfetch q97.2.1 52 = some (.getfield 41) := by decide +kernel
theorem h97_55 : mfetch q97.2.1 55 = some (.iload_n 2) := by decide +kernel
theorem h97_56 : mfetch q97.2.1 56 = some (.putfield 139) := by decide +kernel
theorem h97_59 : mfetch q97.2.1 59 = some (.goto 47) := by decide +kernel
theorem h97_62 : mfetch q97.2.1 62 = some (.aload_n 0) := by decide +kernel
theorem h97_63 : mfetch q97.2.1 63 = some (.getfield 41) := by decide +kernel
theorem h97_66 : mfetch q97.2.1 66 = some (.iload_n 2) := by decide +kernel
theorem h97_67 : mfetch q97.2.1 67 = some (.putfield 142) := by decide +kernel
theorem h97_70 : mfetch q97.2.1 70 = some (.goto 36) := by decide +kernel
theorem h97_73 : mfetch q97.2.1 73 = some (.aload_n 0) := by decide +kernel
theorem h97_74 : mfetch q97.2.1 74 = some (.iload_n 2) := by decide +kernel
theorem h97_75 : mfetch q97.2.1 75 = some (.invokevirtual 171) := by decide +kernel
theorem h97_78 : mfetch q97.2.1 78 = some (.astore_n 3) := by decide +kernel
theorem h97_79 : mfetch q97.2.1 79 = some (.aload_n 3) := by decide +kernel
theorem h97_80 : mfetch q97.2.1 80 = some (.ifnull 26) := by decide +kernel
theorem h97_83 : mfetch q97.2.1 83 = some (.aload_n 0) := by decide +kernel
theorem h97_84 : mfetch q97.2.1 84 = some (.getfield 107) := by decide +kernel
theorem h97_87 : mfetch q97.2.1 87 = some (.aload_n 3) := by decide +kernel
theorem h97_88 : mfetch q97.2.1 88 = some (.putfield 175) := by decide +kernel
theorem h97_91 : mfetch q97.2.1 91 = some (.goto 15) := by decide +kernel
theorem h97_94 : mfetch q97.2.1 94 = some (.aload_n 0) := by decide +kernel
theorem h97_95 : mfetch q97.2.1 95 = some (.getfield 107) := by decide +kernel
theorem h97_98 : mfetch q97.2.1 98 = some (.iload_n 1) := by decide +kernel
theorem h97_99 : mfetch q97.2.1 99 = some (.bipush 10) := by decide +kernel
theorem h97_101 : mfetch q97.2.1 101 = some (.isub) := by decide +kernel
theorem h97_102 : mfetch q97.2.1 102 = some (.iload_n 2) := by decide +kernel
theorem h97_103 : mfetch q97.2.1 103 = some (.invokevirtual 167) := by decide +kernel
theorem h97_106 : mfetch q97.2.1 106 = some (.return_) := by decide +kernel
theorem E97_0 : (∀ (d : Nat) (l0 : Option Value) (l2 : Option Value) (l3 : Option Value) (x : Int32) (st : List Value) (h : MH) (P : MP), mFr d 97 0 [l0, some (.int x), l2, l3] st h P = mFr d 97 1 [l0, some (.int x), l2, l3] (.int x :: st) h P) ∧
  (∀ (d : Nat) (loc : List (Option Value)) (x : Int32) (st : List Value) (h : MH) (P : MP), mFr d 97 1 loc (.int x :: st) h P = if x = 1 then mFr d 97 40 loc (st) h P else if x = 2 then mFr d 97 51 loc (st) h P else if x = 3 then mFr d 97 62 loc (st) h P else if x = 4 then mFr d 97 94 loc (st) h P else if x = 5 then mFr d 97 94 loc (st) h P else if x = 6 then mFr d 97 73 loc (st) h P else mFr d 97 94 loc (st) h P) := ⟨fun _ _ _ _ _ _ _ _ => (mFr_S mq97 h97_0).trans rfl,
  fun _ _ _ _ _ _ => F_table 94 [(1, 40), (2, 51), (3, 62), (4, 94), (5, 94), (6, 73)] mq97 h97_1 (by decide) (by decide +kernel) (by decide)⟩
theorem E97_40 : (∀ (d : Nat) (l1 : Option Value) (l2 : Option Value) (l3 : Option Value) (x : Nat) (st : List Value) (h : MH) (P : MP), mFr d 97 40 [some (.ref x), l1, l2, l3] st h P = mFr d 97 41 [some (.ref x), l1, l2, l3] (.ref x :: st) h P) ∧
  (∀ (d : Nat) (loc : List (Option Value)) (a : Nat) (st : List Value) (h : MH) (P : MP), mFr d 97 41 loc (.ref a :: st) h P = pget h a 8 11 (fun v => mFr d 97 44 loc (v :: st) h P)) ∧
  (∀ (d : Nat) (l0 : Option Value) (l1 : Option Value) (l3 : Option Value) (x : Int32) (st : List Value) (h : MH) (P : MP), mFr d 97 44 [l0, l1, some (.int x), l3] st h P = mFr d 97 45 [l0, l1, some (.int x), l3] (.int x :: st) h P) ∧
  (∀ (d : Nat) (loc : List (Option Value)) (a : Nat) (x : Int32) (st : List Value) (h : MH) (P : MP), mFr d 97 45 loc (.int x :: .ref a :: st) h P = pput h a 1 0 (.int x) (fun h' => mFr d 97 48 loc (st) h' P)) ∧
  (∀ (d : Nat) (loc : List (Option Value)) (st : List Value) (h : MH) (P : MP), mFr d 97 48 loc st h P = mFr d 97 106 loc (st) h P) := ⟨fun _ _ _ _ _ _ _ _ => (mFr_S mq97 h97_40).trans rfl,
  fun _ _ _ _ _ _ => F_get mq97 h97_41 (Or.inl (rfl : _ = some (41, 0, 8, 11))),
  fun _ _ _ _ _ _ _ _ => (mFr_S mq97 h97_44).trans rfl,
  fun _ _ _ _ _ _ _ => F_put mq97 h97_45 (Or.inr ⟨(rfl : _ = some (151, 1, 1, 0)), rfl⟩),
  fun _ _ _ _ _ => F_goto 106 mq97 h97_48 (by decide)⟩
theorem E97_51 : (∀ (d : Nat) (l1 : Option Value) (l2 : Option Value) (l3 : Option Value) (x : Nat) (st : List Value) (h : MH) (P : MP), mFr d 97 51 [some (.ref x), l1, l2, l3] st h P = mFr d 97 52 [some (.ref x), l1, l2, l3] (.ref x :: st) h P) ∧
  (∀ (d : Nat) (loc : List (Option Value)) (a : Nat) (st : List Value) (h : MH) (P : MP), mFr d 97 52 loc (.ref a :: st) h P = pget h a 8 11 (fun v => mFr d 97 55 loc (v :: st) h P)) ∧
  (∀ (d : Nat) (l0 : Option Value) (l1 : Option Value) (l3 : Option Value) (x : Int32) (st : List Value) (h : MH) (P : MP), mFr d 97 55 [l0, l1, some (.int x), l3] st h P = mFr d 97 56 [l0, l1, some (.int x), l3] (.int x :: st) h P) ∧
  (∀ (d : Nat) (loc : List (Option Value)) (a : Nat) (x : Int32) (st : List Value) (h : MH) (P : MP), mFr d 97 56 loc (.int x :: .ref a :: st) h P = pput h a 1 1 (.int x) (fun h' => mFr d 97 59 loc (st) h' P)) ∧
  (∀ (d : Nat) (loc : List (Option Value)) (st : List Value) (h : MH) (P : MP), mFr d 97 59 loc st h P = mFr d 97 106 loc (st) h P) := ⟨fun _ _ _ _ _ _ _ _ => (mFr_S mq97 h97_51).trans rfl,
  fun _ _ _ _ _ _ => F_get mq97 h97_52 (Or.inl (rfl : _ = some (41, 0, 8, 11))),
  fun _ _ _ _ _ _ _ _ => (mFr_S mq97 h97_55).trans rfl,
  fun _ _ _ _ _ _ _ => F_put mq97 h97_56 (Or.inr ⟨(rfl : _ = some (139, 1, 1, 1)), rfl⟩),
  fun _ _ _ _ _ => F_goto 106 mq97 h97_59 (by decide)⟩
theorem E97_62 : (∀ (d : Nat) (l1 : Option Value) (l2 : Option Value) (l3 : Option Value) (x : Nat) (st : List Value) (h : MH) (P : MP), mFr d 97 62 [some (.ref x), l1, l2, l3] st h P = mFr d 97 63 [some (.ref x), l1, l2, l3] (.ref x :: st) h P) ∧
  (∀ (d : Nat) (loc : List (Option Value)) (a : Nat) (st : List Value) (h : MH) (P : MP), mFr d 97 63 loc (.ref a :: st) h P = pget h a 8 11 (fun v => mFr d 97 66 loc (v :: st) h P)) ∧
  (∀ (d : Nat) (l0 : Option Value) (l1 : Option Value) (l3 : Option Value) (x : Int32) (st : List Value) (h : MH) (P : MP), mFr d 97 66 [l0, l1, some (.int x), l3] st h P = mFr d 97 67 [l0, l1, some (.int x), l3] (.int x :: st) h P) ∧
  (∀ (d : Nat) (loc : List (Option Value)) (a : Nat) (x : Int32) (st : List Value) (h : MH) (P : MP), mFr d 97 67 loc (.int x :: .ref a :: st) h P = pput h a 1 2 (.int x) (fun h' => mFr d 97 70 loc (st) h' P)) ∧
  (∀ (d : Nat) (loc : List (Option Value)) (st : List Value) (h : MH) (P : MP), mFr d 97 70 loc st h P = mFr d 97 106 loc (st) h P) := ⟨fun _ _ _ _ _ _ _ _ => (mFr_S mq97 h97_62).trans rfl,
  fun _ _ _ _ _ _ => F_get mq97 h97_63 (Or.inl (rfl : _ = some (41, 0, 8, 11))),
  fun _ _ _ _ _ _ _ _ => (mFr_S mq97 h97_66).trans rfl,
  fun _ _ _ _ _ _ _ => F_put mq97 h97_67 (Or.inr ⟨(rfl : _ = some (142, 1, 1, 2)), rfl⟩),
  fun _ _ _ _ _ => F_goto 106 mq97 h97_70 (by decide)⟩
theorem E97_73 : (∀ (d : Nat) (l1 : Option Value) (l2 : Option Value) (l3 : Option Value) (x : Nat) (st : List Value) (h : MH) (P : MP), mFr d 97 73 [some (.ref x), l1, l2, l3] st h P = mFr d 97 74 [some (.ref x), l1, l2, l3] (.ref x :: st) h P) ∧
  (∀ (d : Nat) (l0 : Option Value) (l1 : Option Value) (l3 : Option Value) (x : Int32) (st : List Value) (h : MH) (P : MP), mFr d 97 74 [l0, l1, some (.int x), l3] st h P = mFr d 97 75 [l0, l1, some (.int x), l3] (.int x :: st) h P) ∧
  (∀ (d : Nat) (loc : List (Option Value)) (b : Nat) (a0 : Int32) (h : MH) (P : MP), mFr d 97 75 loc ((.int a0) :: .ref b :: []) h P = if mrcv h b 8 = true then mRun d 70 [.ref b, .int a0] h (fun v h' => mFr d 97 78 loc (v.toList ++ []) h' P) else False) ∧
  (∀ (d : Nat) (l0 : Option Value) (l1 : Option Value) (l2 : Option Value) (l3 : Option Value) (x : Nat) (st : List Value) (h : MH) (P : MP), mnl l2 = true → mFr d 97 78 [l0, l1, l2, l3] (.ref x :: st) h P = mFr d 97 79 [l0, l1, l2, some (.ref x)] (st) h P) ∧
  (∀ (d : Nat) (l0 : Option Value) (l1 : Option Value) (l2 : Option Value) (l3 : Option Value) (st : List Value) (h : MH) (P : MP), mnl l2 = true → mFr d 97 78 [l0, l1, l2, l3] (.null :: st) h P = mFr d 97 79 [l0, l1, l2, some .null] (st) h P) ∧
  (∀ (d : Nat) (l0 : Option Value) (l1 : Option Value) (l2 : Option Value) (x : Nat) (st : List Value) (h : MH) (P : MP), mFr d 97 79 [l0, l1, l2, some (.ref x)] st h P = mFr d 97 80 [l0, l1, l2, some (.ref x)] (.ref x :: st) h P) ∧
  (∀ (d : Nat) (l0 : Option Value) (l1 : Option Value) (l2 : Option Value) (st : List Value) (h : MH) (P : MP), mFr d 97 79 [l0, l1, l2, some .null] st h P = mFr d 97 80 [l0, l1, l2, some .null] (.null :: st) h P) ∧
  (∀ (d : Nat) (loc : List (Option Value)) (x : Nat) (st : List Value) (h : MH) (P : MP), mFr d 97 80 loc (.ref x :: st) h P = if x < 900 then mFr d 97 83 loc (st) h P else False) ∧
  (∀ (d : Nat) (loc : List (Option Value)) (st : List Value) (h : MH) (P : MP), mFr d 97 80 loc (.null :: st) h P = mFr d 97 106 loc (st) h P) := ⟨fun _ _ _ _ _ _ _ _ => (mFr_S mq97 h97_73).trans rfl,
  fun _ _ _ _ _ _ _ _ => (mFr_S mq97 h97_74).trans rfl,
  fun _ _ b a0 _ _ => F_callV (as := [.int a0]) (rest := []) mq97 (Or.inl h97_75) (rfl : _ = some (171, 6, 70, 0)) (Or.inl ⟨h97_75, by decide⟩) (by rfl) (by rfl) (by rfl) (Nat.le_of_ble_eq_true rfl),
  fun _ _ _ _ _ _ _ _ _ hm => (mFr_S mq97 h97_78).trans (by simp only [mgo.eq_1, mstep, mi1, ml1, mast, mst, mst2, mprev, List.length_cons, List.length_nil, List.getElem?_cons_succ, List.getElem?_cons_zero, hm]; rfl),
  fun _ _ _ _ _ _ _ _ hm => (mFr_S mq97 h97_78).trans (by simp only [mgo.eq_1, mstep, mi1, ml1, mast, mst, mst2, mprev, List.length_cons, List.length_nil, List.getElem?_cons_succ, List.getElem?_cons_zero, hm]; rfl),
  fun _ _ _ _ _ _ _ _ => (mFr_S mq97 h97_79).trans rfl,
  fun _ _ _ _ _ _ _ => (mFr_S mq97 h97_79).trans rfl,
  fun _ _ _ _ _ _ => F_ifnullR mq97 h97_80,
  fun _ _ _ _ _ => F_ifnullN 106 mq97 h97_80 (by decide)⟩
theorem E97_83 : (∀ (d : Nat) (l1 : Option Value) (l2 : Option Value) (l3 : Option Value) (x : Nat) (st : List Value) (h : MH) (P : MP), mFr d 97 83 [some (.ref x), l1, l2, l3] st h P = mFr d 97 84 [some (.ref x), l1, l2, l3] (.ref x :: st) h P) ∧
  (∀ (d : Nat) (loc : List (Option Value)) (a : Nat) (st : List Value) (h : MH) (P : MP), mFr d 97 84 loc (.ref a :: st) h P = pget h a 8 10 (fun v => mFr d 97 87 loc (v :: st) h P)) ∧
  (∀ (d : Nat) (l0 : Option Value) (l1 : Option Value) (l2 : Option Value) (x : Nat) (st : List Value) (h : MH) (P : MP), mFr d 97 87 [l0, l1, l2, some (.ref x)] st h P = mFr d 97 88 [l0, l1, l2, some (.ref x)] (.ref x :: st) h P) ∧
  (∀ (d : Nat) (l0 : Option Value) (l1 : Option Value) (l2 : Option Value) (st : List Value) (h : MH) (P : MP), mFr d 97 87 [l0, l1, l2, some .null] st h P = mFr d 97 88 [l0, l1, l2, some .null] (.null :: st) h P) ∧
  (∀ (d : Nat) (loc : List (Option Value)) (a : Nat) (x : Nat) (st : List Value) (h : MH) (P : MP), mFr d 97 88 loc (.ref x :: .ref a :: st) h P = pput h a 2 2 (.ref x) (fun h' => mFr d 97 91 loc (st) h' P)) ∧
  (∀ (d : Nat) (loc : List (Option Value)) (st : List Value) (h : MH) (P : MP), mFr d 97 91 loc st h P = mFr d 97 106 loc (st) h P) := ⟨fun _ _ _ _ _ _ _ _ => (mFr_S mq97 h97_83).trans rfl,
  fun _ _ _ _ _ _ => F_get mq97 h97_84 (Or.inl (rfl : _ = some (107, 0, 8, 10))),
  fun _ _ _ _ _ _ _ _ => (mFr_S mq97 h97_87).trans rfl,
  fun _ _ _ _ _ _ _ => (mFr_S mq97 h97_87).trans rfl,
  fun _ _ _ _ _ _ _ => F_put mq97 h97_88 (Or.inr ⟨(rfl : _ = some (175, 1, 2, 2)), rfl⟩),
  fun _ _ _ _ _ => F_goto 106 mq97 h97_91 (by decide)⟩
theorem E97_94 : (∀ (d : Nat) (l1 : Option Value) (l2 : Option Value) (l3 : Option Value) (x : Nat) (st : List Value) (h : MH) (P : MP), mFr d 97 94 [some (.ref x), l1, l2, l3] st h P = mFr d 97 95 [some (.ref x), l1, l2, l3] (.ref x :: st) h P) ∧
  (∀ (d : Nat) (loc : List (Option Value)) (a : Nat) (st : List Value) (h : MH) (P : MP), mFr d 97 95 loc (.ref a :: st) h P = pget h a 8 10 (fun v => mFr d 97 98 loc (v :: st) h P)) ∧
  (∀ (d : Nat) (l0 : Option Value) (l2 : Option Value) (l3 : Option Value) (x : Int32) (st : List Value) (h : MH) (P : MP), mFr d 97 98 [l0, some (.int x), l2, l3] st h P = mFr d 97 99 [l0, some (.int x), l2, l3] (.int x :: st) h P) ∧
  (∀ (d : Nat) (loc : List (Option Value)) (st : List Value) (h : MH) (P : MP), mFr d 97 99 loc st h P = mFr d 97 101 loc (.int 10 :: st) h P) ∧
  (∀ (d : Nat) (loc : List (Option Value)) (x y : Int32) (st : List Value) (h : MH) (P : MP), mFr d 97 101 loc (.int y :: .int x :: st) h P = mFr d 97 102 loc (.int (x - y) :: st) h P) ∧
  (∀ (d : Nat) (l0 : Option Value) (l1 : Option Value) (l3 : Option Value) (x : Int32) (st : List Value) (h : MH) (P : MP), mFr d 97 102 [l0, l1, some (.int x), l3] st h P = mFr d 97 103 [l0, l1, some (.int x), l3] (.int x :: st) h P) ∧
  (∀ (d : Nat) (loc : List (Option Value)) (b : Nat) (a0 : Int32) (a1 : Int32) (h : MH) (P : MP), mFr d 97 103 loc ((.int a1) :: (.int a0) :: .ref b :: []) h P = if mrcv h b 2 = true then mRun d 18 [.ref b, .int a0, .int a1] h (fun v h' => mFr d 97 106 loc (v.toList ++ []) h' P) else False) := ⟨fun _ _ _ _ _ _ _ _ => (mFr_S mq97 h97_94).trans rfl,
  fun _ _ _ _ _ _ => F_get mq97 h97_95 (Or.inl (rfl : _ = some (107, 0, 8, 10))),
  fun _ _ _ _ _ _ _ _ => (mFr_S mq97 h97_98).trans rfl,
  fun _ _ _ _ _ => (mFr_S mq97 h97_99).trans rfl,
  fun _ _ _ _ _ _ _ => (mFr_S mq97 h97_101).trans rfl,
  fun _ _ _ _ _ _ _ _ => (mFr_S mq97 h97_102).trans rfl,
  fun _ _ b a0 a1 _ _ => F_callV (as := [.int a0, .int a1]) (rest := []) mq97 (Or.inl h97_103) (rfl : _ = some (167, 6, 18, 1)) (Or.inl ⟨h97_103, by decide⟩) (by rfl) (by rfl) (by rfl) (Nat.le_of_ble_eq_true rfl)⟩
theorem E97_106 : (∀ (d : Nat) (loc : List (Option Value)) (h : MH) (P : MP), mFr d 97 106 loc [] h P = P none h) := fun _ _ _ _ => (mFr_S mq97 h97_106).trans rfl
theorem B97 : ∀ (d : Nat) (b : Nat) (a0 : Int32) (a1 : Int32) (h : MH) (P : MP), mRun (d + 1) 97 [.ref b, .int a0, .int a1] h P = mFr d 97 0 [some (.ref b), some (.int a0), some (.int a1), none] [] h P := fun _ _ _ _ _ _ => mRun_S mq97 (Nat.le_of_ble_eq_true rfl)
-- 98: PuncturesAreViews.film(III)I loops at [59]
def q98 : MI := (yX8_film, cX8_film, 7, (some .int), 8, 3)
theorem mq98 : mtab[98]? = some q98 := rfl
theorem h98_0 : mfetch q98.2.1 0 = some (.aload_n 0) := by decide +kernel
theorem h98_1 : mfetch q98.2.1 1 = some (.iload_n 1) := by decide +kernel
theorem h98_2 : mfetch q98.2.1 2 = some (.invokevirtual 247) := by decide +kernel
theorem h98_5 : mfetch q98.2.1 5 = some (.astore 4) := by decide +kernel
theorem h98_7 : mfetch q98.2.1 7 = some (.aload_n 0) := by decide +kernel
theorem h98_8 : mfetch q98.2.1 8 = some (.getfield 25) := by decide +kernel
theorem h98_11 : mfetch q98.2.1 11 = some (.iload_n 2) := by decide +kernel
theorem h98_12 : mfetch q98.2.1 12 = some (.invokevirtual 135) := by decide +kernel
theorem h98_15 : mfetch q98.2.1 15 = some (.astore 5) := by decide +kernel
theorem h98_17 : mfetch q98.2.1 17 = some (.aload 4) := by decide +kernel
theorem h98_19 : mfetch q98.2.1 19 = some (.ifnull 18) := by decide +kernel
theorem h98_22 : mfetch q98.2.1 22 = some (.aload 5) := by decide +kernel
theorem h98_24 : mfetch q98.2.1 24 = some (.ifnull 13) := by decide +kernel
theorem h98_27 : mfetch q98.2.1 27 = some (.iload_n 3) := by decide +kernel
theorem h98_28 : mfetch q98.2.1 28 = some (.ifCond .lt 9) := by decide +kernel
theorem h98_31 : mfetch q98.2.1 31 = some (.iload_n 3) := by decide +kernel
theorem h98_32 : mfetch q98.2.1 32 = some (.bipush 30) := by decide +kernel
theorem h98_34 : mfetch q98.2.1 34 = some (.if_icmp .le 6) := by decide +kernel
theorem h98_37 : mfetch q98.2.1 37 = some (.bipush (-2)) := by decide +kernel
theorem h98_39 : mfetch q98.2.1 39 = some (.ireturn) := by decide +kernel
theorem h98_40 : mfetch q98.2.1 40 = some (.aload 4) := by decide +kernel
theorem h98_42 : mfetch q98.2.1 42 = some (.iconst 0) := by decide +kernel
theorem h98_43 : mfetch q98.2.1 43 = some (.iload_n 3) := by decide +kernel
theorem h98_44 : mfetch q98.2.1 44 = some (.invokevirtual 275) := by decide +kernel
theorem h98_47 : mfetch q98.2.1 47 = some (.aload_n 0) := by decide +kernel
theorem h98_48 : mfetch q98.2.1 48 = some (.getfield 45) := by decide +kernel
theorem h98_51 : mfetch q98.2.1 51 = some (.aload 5) := by decide +kernel
theorem h98_53 : mfetch q98.2.1 53 = some (.invokevirtual 194) := by decide +kernel
theorem h98_56 : mfetch q98.2.1 56 = some (.iconst 0) := by decide +kernel
theorem h98_57 : mfetch q98.2.1 57 = some (.istore 6) := by decide +kernel
theorem h98_59 : mfetch q98.2.1 59 = some (.iload 6) := by decide +kernel
theorem h98_61 : mfetch q98.2.1 61 = some (.iload_n 3) := by decide +kernel
theorem h98_62 : mfetch q98.2.1 62 = some (.if_icmp .ge 35) := by decide +kernel
theorem h98_65 : mfetch q98.2.1 65 = some (.aload_n 0) := by decide +kernel
theorem h98_66 : mfetch q98.2.1 66 = some (.getfield 45) := by decide +kernel
theorem h98_69 : mfetch q98.2.1 69 = some (.aload_n 0) := by decide +kernel
theorem h98_70 : mfetch q98.2.1 70 = some (.getfield 100) := by decide +kernel
theorem h98_73 : mfetch q98.2.1 73 = some (.invokevirtual 184) := by decide +kernel
theorem h98_76 : mfetch q98.2.1 76 = some (.pop) := by decide +kernel
theorem h98_77 : mfetch q98.2.1 77 = some (.aload 4) := by decide +kernel
theorem h98_79 : mfetch q98.2.1 79 = some (.iload 6) := by decide +kernel
theorem h98_81 : mfetch q98.2.1 81 = some (.aload_n 0) := by decide +kernel
theorem h98_82 : mfetch q98.2.1 82 = some (.getfield 45) := by decide +kernel
theorem h98_85 : mfetch q98.2.1 85 = some (.getfield 148) := by decide +kernel
theorem h98_88 : mfetch q98.2.1 88 = some (.invokevirtual 277) := by decide +kernel
theorem h98_91 : mfetch q98.2.1 91 = some (.iinc 6 1) := by decide +kernel
theorem h98_94 : mfetch q98.2.1 94 = some (.goto (-35)) := by decide +kernel
theorem h98_97 : mfetch q98.2.1 97 = some (.iload_n 3) := by decide +kernel
theorem h98_98 : mfetch q98.2.1 98 = some (.ireturn) := by decide +kernel
theorem E98_0 : (∀ (d : Nat) (l1 : Option Value) (l2 : Option Value) (l3 : Option Value) (l4 : Option Value) (l5 : Option Value) (l6 : Option Value) (x : Nat) (st : List Value) (h : MH) (P : MP), mFr d 98 0 [some (.ref x), l1, l2, l3, l4, l5, l6] st h P = mFr d 98 1 [some (.ref x), l1, l2, l3, l4, l5, l6] (.ref x :: st) h P) ∧
  (∀ (d : Nat) (l0 : Option Value) (l2 : Option Value) (l3 : Option Value) (l4 : Option Value) (l5 : Option Value) (l6 : Option Value) (x : Int32) (st : List Value) (h : MH) (P : MP), mFr d 98 1 [l0, some (.int x), l2, l3, l4, l5, l6] st h P = mFr d 98 2 [l0, some (.int x), l2, l3, l4, l5, l6] (.int x :: st) h P) ∧
  (∀ (d : Nat) (loc : List (Option Value)) (b : Nat) (a0 : Int32) (h : MH) (P : MP), mFr d 98 2 loc ((.int a0) :: .ref b :: []) h P = if mrcv h b 8 = true then mRun d 112 [.ref b, .int a0] h (fun v h' => mFr d 98 5 loc (v.toList ++ []) h' P) else False) ∧
  (∀ (d : Nat) (l0 : Option Value) (l1 : Option Value) (l2 : Option Value) (l3 : Option Value) (l4 : Option Value) (l5 : Option Value) (l6 : Option Value) (x : Nat) (st : List Value) (h : MH) (P : MP), mnl l3 = true → mFr d 98 5 [l0, l1, l2, l3, l4, l5, l6] (.ref x :: st) h P = mFr d 98 7 [l0, l1, l2, l3, some (.ref x), l5, l6] (st) h P) ∧
  (∀ (d : Nat) (l0 : Option Value) (l1 : Option Value) (l2 : Option Value) (l3 : Option Value) (l4 : Option Value) (l5 : Option Value) (l6 : Option Value) (st : List Value) (h : MH) (P : MP), mnl l3 = true → mFr d 98 5 [l0, l1, l2, l3, l4, l5, l6] (.null :: st) h P = mFr d 98 7 [l0, l1, l2, l3, some .null, l5, l6] (st) h P) ∧
  (∀ (d : Nat) (l1 : Option Value) (l2 : Option Value) (l3 : Option Value) (l4 : Option Value) (l5 : Option Value) (l6 : Option Value) (x : Nat) (st : List Value) (h : MH) (P : MP), mFr d 98 7 [some (.ref x), l1, l2, l3, l4, l5, l6] st h P = mFr d 98 8 [some (.ref x), l1, l2, l3, l4, l5, l6] (.ref x :: st) h P) ∧
  (∀ (d : Nat) (loc : List (Option Value)) (a : Nat) (st : List Value) (h : MH) (P : MP), mFr d 98 8 loc (.ref a :: st) h P = pget h a 8 5 (fun v => mFr d 98 11 loc (v :: st) h P)) ∧
  (∀ (d : Nat) (l0 : Option Value) (l1 : Option Value) (l3 : Option Value) (l4 : Option Value) (l5 : Option Value) (l6 : Option Value) (x : Int32) (st : List Value) (h : MH) (P : MP), mFr d 98 11 [l0, l1, some (.int x), l3, l4, l5, l6] st h P = mFr d 98 12 [l0, l1, some (.int x), l3, l4, l5, l6] (.int x :: st) h P) ∧
  (∀ (d : Nat) (loc : List (Option Value)) (b : Nat) (a0 : Int32) (h : MH) (P : MP), mFr d 98 12 loc ((.int a0) :: .ref b :: []) h P = if mrcv h b 0 = true then mRun d 1 [.ref b, .int a0] h (fun v h' => mFr d 98 15 loc (v.toList ++ []) h' P) else False) ∧
  (∀ (d : Nat) (l0 : Option Value) (l1 : Option Value) (l2 : Option Value) (l3 : Option Value) (l4 : Option Value) (l5 : Option Value) (l6 : Option Value) (x : Nat) (st : List Value) (h : MH) (P : MP), mnl l4 = true → mFr d 98 15 [l0, l1, l2, l3, l4, l5, l6] (.ref x :: st) h P = mFr d 98 17 [l0, l1, l2, l3, l4, some (.ref x), l6] (st) h P) ∧
  (∀ (d : Nat) (l0 : Option Value) (l1 : Option Value) (l2 : Option Value) (l3 : Option Value) (l4 : Option Value) (l5 : Option Value) (l6 : Option Value) (st : List Value) (h : MH) (P : MP), mnl l4 = true → mFr d 98 15 [l0, l1, l2, l3, l4, l5, l6] (.null :: st) h P = mFr d 98 17 [l0, l1, l2, l3, l4, some .null, l6] (st) h P) ∧
  (∀ (d : Nat) (l0 : Option Value) (l1 : Option Value) (l2 : Option Value) (l3 : Option Value) (l5 : Option Value) (l6 : Option Value) (x : Nat) (st : List Value) (h : MH) (P : MP), mFr d 98 17 [l0, l1, l2, l3, some (.ref x), l5, l6] st h P = mFr d 98 19 [l0, l1, l2, l3, some (.ref x), l5, l6] (.ref x :: st) h P) ∧
  (∀ (d : Nat) (l0 : Option Value) (l1 : Option Value) (l2 : Option Value) (l3 : Option Value) (l5 : Option Value) (l6 : Option Value) (st : List Value) (h : MH) (P : MP), mFr d 98 17 [l0, l1, l2, l3, some .null, l5, l6] st h P = mFr d 98 19 [l0, l1, l2, l3, some .null, l5, l6] (.null :: st) h P) ∧
  (∀ (d : Nat) (loc : List (Option Value)) (x : Nat) (st : List Value) (h : MH) (P : MP), mFr d 98 19 loc (.ref x :: st) h P = if x < 900 then mFr d 98 22 loc (st) h P else False) ∧
  (∀ (d : Nat) (loc : List (Option Value)) (st : List Value) (h : MH) (P : MP), mFr d 98 19 loc (.null :: st) h P = mFr d 98 37 loc (st) h P) := ⟨fun _ _ _ _ _ _ _ _ _ _ _ => (mFr_S mq98 h98_0).trans rfl,
  fun _ _ _ _ _ _ _ _ _ _ _ => (mFr_S mq98 h98_1).trans rfl,
  fun _ _ b a0 _ _ => F_callV (as := [.int a0]) (rest := []) mq98 (Or.inl h98_2) (rfl : _ = some (247, 6, 112, 0)) (Or.inl ⟨h98_2, by decide⟩) (by rfl) (by rfl) (by rfl) (Nat.le_of_ble_eq_true rfl),
  fun _ _ _ _ _ _ _ _ _ _ _ _ hm => (mFr_S mq98 h98_5).trans (by simp only [mgo.eq_1, mstep, mi1, ml1, mast, mst, mst2, mprev, List.length_cons, List.length_nil, List.getElem?_cons_succ, List.getElem?_cons_zero, hm]; rfl),
  fun _ _ _ _ _ _ _ _ _ _ _ hm => (mFr_S mq98 h98_5).trans (by simp only [mgo.eq_1, mstep, mi1, ml1, mast, mst, mst2, mprev, List.length_cons, List.length_nil, List.getElem?_cons_succ, List.getElem?_cons_zero, hm]; rfl),
  fun _ _ _ _ _ _ _ _ _ _ _ => (mFr_S mq98 h98_7).trans rfl,
  fun _ _ _ _ _ _ => F_get mq98 h98_8 (Or.inl (rfl : _ = some (25, 0, 8, 5))),
  fun _ _ _ _ _ _ _ _ _ _ _ => (mFr_S mq98 h98_11).trans rfl,
  fun _ _ b a0 _ _ => F_callV (as := [.int a0]) (rest := []) mq98 (Or.inl h98_12) (rfl : _ = some (135, 6, 1, 1)) (Or.inl ⟨h98_12, by decide⟩) (by rfl) (by rfl) (by rfl) (Nat.le_of_ble_eq_true rfl),
  fun _ _ _ _ _ _ _ _ _ _ _ _ hm => (mFr_S mq98 h98_15).trans (by simp only [mgo.eq_1, mstep, mi1, ml1, mast, mst, mst2, mprev, List.length_cons, List.length_nil, List.getElem?_cons_succ, List.getElem?_cons_zero, hm]; rfl),
  fun _ _ _ _ _ _ _ _ _ _ _ hm => (mFr_S mq98 h98_15).trans (by simp only [mgo.eq_1, mstep, mi1, ml1, mast, mst, mst2, mprev, List.length_cons, List.length_nil, List.getElem?_cons_succ, List.getElem?_cons_zero, hm]; rfl),
  fun _ _ _ _ _ _ _ _ _ _ _ => (mFr_S mq98 h98_17).trans rfl,
  fun _ _ _ _ _ _ _ _ _ _ => (mFr_S mq98 h98_17).trans rfl,
  fun _ _ _ _ _ _ => F_ifnullR mq98 h98_19,
  fun _ _ _ _ _ => F_ifnullN 37 mq98 h98_19 (by decide)⟩
theorem E98_22 : (∀ (d : Nat) (l0 : Option Value) (l1 : Option Value) (l2 : Option Value) (l3 : Option Value) (l4 : Option Value) (l6 : Option Value) (x : Nat) (st : List Value) (h : MH) (P : MP), mFr d 98 22 [l0, l1, l2, l3, l4, some (.ref x), l6] st h P = mFr d 98 24 [l0, l1, l2, l3, l4, some (.ref x), l6] (.ref x :: st) h P) ∧
  (∀ (d : Nat) (l0 : Option Value) (l1 : Option Value) (l2 : Option Value) (l3 : Option Value) (l4 : Option Value) (l6 : Option Value) (st : List Value) (h : MH) (P : MP), mFr d 98 22 [l0, l1, l2, l3, l4, some .null, l6] st h P = mFr d 98 24 [l0, l1, l2, l3, l4, some .null, l6] (.null :: st) h P) ∧
  (∀ (d : Nat) (loc : List (Option Value)) (x : Nat) (st : List Value) (h : MH) (P : MP), mFr d 98 24 loc (.ref x :: st) h P = if x < 900 then mFr d 98 27 loc (st) h P else False) ∧
  (∀ (d : Nat) (loc : List (Option Value)) (st : List Value) (h : MH) (P : MP), mFr d 98 24 loc (.null :: st) h P = mFr d 98 37 loc (st) h P) := ⟨fun _ _ _ _ _ _ _ _ _ _ _ => (mFr_S mq98 h98_22).trans rfl,
  fun _ _ _ _ _ _ _ _ _ _ => (mFr_S mq98 h98_22).trans rfl,
  fun _ _ _ _ _ _ => F_ifnullR mq98 h98_24,
  fun _ _ _ _ _ => F_ifnullN 37 mq98 h98_24 (by decide)⟩
theorem E98_27 : (∀ (d : Nat) (l0 : Option Value) (l1 : Option Value) (l2 : Option Value) (l4 : Option Value) (l5 : Option Value) (l6 : Option Value) (x : Int32) (st : List Value) (h : MH) (P : MP), mFr d 98 27 [l0, l1, l2, some (.int x), l4, l5, l6] st h P = mFr d 98 28 [l0, l1, l2, some (.int x), l4, l5, l6] (.int x :: st) h P) ∧
  (∀ (d : Nat) (loc : List (Option Value)) (x : Int32) (st : List Value) (h : MH) (P : MP), mFr d 98 28 loc (.int x :: st) h P = if x < 0 then mFr d 98 37 loc (st) h P else mFr d 98 31 loc (st) h P) := ⟨fun _ _ _ _ _ _ _ _ _ _ _ => (mFr_S mq98 h98_27).trans rfl,
  fun _ _ _ _ _ _ => (F_ifz 37 mq98 h98_28 (by decide)).trans mif_lt⟩
theorem E98_31 : (∀ (d : Nat) (l0 : Option Value) (l1 : Option Value) (l2 : Option Value) (l4 : Option Value) (l5 : Option Value) (l6 : Option Value) (x : Int32) (st : List Value) (h : MH) (P : MP), mFr d 98 31 [l0, l1, l2, some (.int x), l4, l5, l6] st h P = mFr d 98 32 [l0, l1, l2, some (.int x), l4, l5, l6] (.int x :: st) h P) ∧
  (∀ (d : Nat) (loc : List (Option Value)) (st : List Value) (h : MH) (P : MP), mFr d 98 32 loc st h P = mFr d 98 34 loc (.int 30 :: st) h P) ∧
  (∀ (d : Nat) (loc : List (Option Value)) (x y : Int32) (st : List Value) (h : MH) (P : MP), mFr d 98 34 loc (.int y :: .int x :: st) h P = if y < x then mFr d 98 37 loc (st) h P else mFr d 98 40 loc (st) h P) := ⟨fun _ _ _ _ _ _ _ _ _ _ _ => (mFr_S mq98 h98_31).trans rfl,
  fun _ _ _ _ _ => (mFr_S mq98 h98_32).trans rfl,
  fun _ _ _ _ _ _ _ => (F_icmp 40 mq98 h98_34 (by decide)).trans mif_le⟩
theorem E98_37 : (∀ (d : Nat) (loc : List (Option Value)) (st : List Value) (h : MH) (P : MP), mFr d 98 37 loc st h P = mFr d 98 39 loc (.int (-2) :: st) h P) ∧
  (∀ (d : Nat) (loc : List (Option Value)) (x : Int32) (h : MH) (P : MP), mFr d 98 39 loc [.int x] h P = P (some (.int x)) h) := ⟨fun _ _ _ _ _ => (mFr_S mq98 h98_37).trans rfl,
  fun _ _ _ _ _ => F_ret mq98 h98_39 rfl rfl⟩
theorem E98_40 : (∀ (d : Nat) (l0 : Option Value) (l1 : Option Value) (l2 : Option Value) (l3 : Option Value) (l5 : Option Value) (l6 : Option Value) (x : Nat) (st : List Value) (h : MH) (P : MP), mFr d 98 40 [l0, l1, l2, l3, some (.ref x), l5, l6] st h P = mFr d 98 42 [l0, l1, l2, l3, some (.ref x), l5, l6] (.ref x :: st) h P) ∧
  (∀ (d : Nat) (l0 : Option Value) (l1 : Option Value) (l2 : Option Value) (l3 : Option Value) (l5 : Option Value) (l6 : Option Value) (st : List Value) (h : MH) (P : MP), mFr d 98 40 [l0, l1, l2, l3, some .null, l5, l6] st h P = mFr d 98 42 [l0, l1, l2, l3, some .null, l5, l6] (.null :: st) h P) ∧
  (∀ (d : Nat) (loc : List (Option Value)) (st : List Value) (h : MH) (P : MP), mFr d 98 42 loc st h P = mFr d 98 43 loc (.int 0 :: st) h P) ∧
  (∀ (d : Nat) (l0 : Option Value) (l1 : Option Value) (l2 : Option Value) (l4 : Option Value) (l5 : Option Value) (l6 : Option Value) (x : Int32) (st : List Value) (h : MH) (P : MP), mFr d 98 43 [l0, l1, l2, some (.int x), l4, l5, l6] st h P = mFr d 98 44 [l0, l1, l2, some (.int x), l4, l5, l6] (.int x :: st) h P) ∧
  (∀ (d : Nat) (loc : List (Option Value)) (b : Nat) (a0 : Int32) (a1 : Int32) (h : MH) (P : MP), mFr d 98 44 loc ((.int a1) :: (.int a0) :: .ref b :: []) h P = if mrcv h b 3 = true then mRun d 22 [.ref b, .int a0, .int a1] h (fun v h' => mFr d 98 47 loc (v.toList ++ []) h' P) else False) ∧
  (∀ (d : Nat) (l1 : Option Value) (l2 : Option Value) (l3 : Option Value) (l4 : Option Value) (l5 : Option Value) (l6 : Option Value) (x : Nat) (st : List Value) (h : MH) (P : MP), mFr d 98 47 [some (.ref x), l1, l2, l3, l4, l5, l6] st h P = mFr d 98 48 [some (.ref x), l1, l2, l3, l4, l5, l6] (.ref x :: st) h P) ∧
  (∀ (d : Nat) (loc : List (Option Value)) (a : Nat) (st : List Value) (h : MH) (P : MP), mFr d 98 48 loc (.ref a :: st) h P = pget h a 8 12 (fun v => mFr d 98 51 loc (v :: st) h P)) ∧
  (∀ (d : Nat) (l0 : Option Value) (l1 : Option Value) (l2 : Option Value) (l3 : Option Value) (l4 : Option Value) (l6 : Option Value) (x : Nat) (st : List Value) (h : MH) (P : MP), mFr d 98 51 [l0, l1, l2, l3, l4, some (.ref x), l6] st h P = mFr d 98 53 [l0, l1, l2, l3, l4, some (.ref x), l6] (.ref x :: st) h P) ∧
  (∀ (d : Nat) (l0 : Option Value) (l1 : Option Value) (l2 : Option Value) (l3 : Option Value) (l4 : Option Value) (l6 : Option Value) (st : List Value) (h : MH) (P : MP), mFr d 98 51 [l0, l1, l2, l3, l4, some .null, l6] st h P = mFr d 98 53 [l0, l1, l2, l3, l4, some .null, l6] (.null :: st) h P) ∧
  (∀ (d : Nat) (loc : List (Option Value)) (b : Nat) (a0 : Nat) (h : MH) (P : MP), mFr d 98 53 loc ((.ref a0) :: .ref b :: []) h P = if mrcv h b 1 = true then mRun d 9 [.ref b, .ref a0] h (fun v h' => mFr d 98 56 loc (v.toList ++ []) h' P) else False) ∧
  (∀ (d : Nat) (loc : List (Option Value)) (st : List Value) (h : MH) (P : MP), mFr d 98 56 loc st h P = mFr d 98 57 loc (.int 0 :: st) h P) ∧
  (∀ (d : Nat) (l0 : Option Value) (l1 : Option Value) (l2 : Option Value) (l3 : Option Value) (l4 : Option Value) (l5 : Option Value) (l6 : Option Value) (x : Int32) (st : List Value) (h : MH) (P : MP), mnl l5 = true → mFr d 98 57 [l0, l1, l2, l3, l4, l5, l6] (.int x :: st) h P = mFr d 98 59 [l0, l1, l2, l3, l4, l5, some (.int x)] (st) h P) := ⟨fun _ _ _ _ _ _ _ _ _ _ _ => (mFr_S mq98 h98_40).trans rfl,
  fun _ _ _ _ _ _ _ _ _ _ => (mFr_S mq98 h98_40).trans rfl,
  fun _ _ _ _ _ => (mFr_S mq98 h98_42).trans rfl,
  fun _ _ _ _ _ _ _ _ _ _ _ => (mFr_S mq98 h98_43).trans rfl,
  fun _ _ b a0 a1 _ _ => F_callV (as := [.int a0, .int a1]) (rest := []) mq98 (Or.inl h98_44) (rfl : _ = some (275, 6, 22, 1)) (Or.inl ⟨h98_44, by decide⟩) (by rfl) (by rfl) (by rfl) (Nat.le_of_ble_eq_true rfl),
  fun _ _ _ _ _ _ _ _ _ _ _ => (mFr_S mq98 h98_47).trans rfl,
  fun _ _ _ _ _ _ => F_get mq98 h98_48 (Or.inl (rfl : _ = some (45, 0, 8, 12))),
  fun _ _ _ _ _ _ _ _ _ _ _ => (mFr_S mq98 h98_51).trans rfl,
  fun _ _ _ _ _ _ _ _ _ _ => (mFr_S mq98 h98_51).trans rfl,
  fun _ _ b a0 _ _ => F_callV (as := [.ref a0]) (rest := []) mq98 (Or.inl h98_53) (rfl : _ = some (194, 6, 9, 1)) (Or.inl ⟨h98_53, by decide⟩) (by rfl) (by rfl) (by rfl) (Nat.le_of_ble_eq_true rfl),
  fun _ _ _ _ _ => (mFr_S mq98 h98_56).trans rfl,
  fun _ _ _ _ _ _ _ _ _ _ _ _ hm => (mFr_S mq98 h98_57).trans (by simp only [mgo.eq_1, mstep, mi1, ml1, mast, mst, mst2, mprev, List.length_cons, List.length_nil, List.getElem?_cons_succ, List.getElem?_cons_zero, hm]; rfl)⟩
theorem E98_59 : (∀ (d : Nat) (l0 : Option Value) (l1 : Option Value) (l2 : Option Value) (l3 : Option Value) (l4 : Option Value) (l5 : Option Value) (x : Int32) (st : List Value) (h : MH) (P : MP), mFr d 98 59 [l0, l1, l2, l3, l4, l5, some (.int x)] st h P = mFr d 98 61 [l0, l1, l2, l3, l4, l5, some (.int x)] (.int x :: st) h P) ∧
  (∀ (d : Nat) (l0 : Option Value) (l1 : Option Value) (l2 : Option Value) (l4 : Option Value) (l5 : Option Value) (l6 : Option Value) (x : Int32) (st : List Value) (h : MH) (P : MP), mFr d 98 61 [l0, l1, l2, some (.int x), l4, l5, l6] st h P = mFr d 98 62 [l0, l1, l2, some (.int x), l4, l5, l6] (.int x :: st) h P) ∧
  (∀ (d : Nat) (loc : List (Option Value)) (x y : Int32) (st : List Value) (h : MH) (P : MP), mFr d 98 62 loc (.int y :: .int x :: st) h P = if x < y then mFr d 98 65 loc (st) h P else mFr d 98 97 loc (st) h P) := ⟨fun _ _ _ _ _ _ _ _ _ _ _ => (mFr_S mq98 h98_59).trans rfl,
  fun _ _ _ _ _ _ _ _ _ _ _ => (mFr_S mq98 h98_61).trans rfl,
  fun _ _ _ _ _ _ _ => (F_icmp 97 mq98 h98_62 (by decide)).trans mif_ge⟩
theorem E98_65 : (∀ (d : Nat) (l1 : Option Value) (l2 : Option Value) (l3 : Option Value) (l4 : Option Value) (l5 : Option Value) (l6 : Option Value) (x : Nat) (st : List Value) (h : MH) (P : MP), mFr d 98 65 [some (.ref x), l1, l2, l3, l4, l5, l6] st h P = mFr d 98 66 [some (.ref x), l1, l2, l3, l4, l5, l6] (.ref x :: st) h P) ∧
  (∀ (d : Nat) (loc : List (Option Value)) (a : Nat) (st : List Value) (h : MH) (P : MP), mFr d 98 66 loc (.ref a :: st) h P = pget h a 8 12 (fun v => mFr d 98 69 loc (v :: st) h P)) ∧
  (∀ (d : Nat) (l1 : Option Value) (l2 : Option Value) (l3 : Option Value) (l4 : Option Value) (l5 : Option Value) (l6 : Option Value) (x : Nat) (st : List Value) (h : MH) (P : MP), mFr d 98 69 [some (.ref x), l1, l2, l3, l4, l5, l6] st h P = mFr d 98 70 [some (.ref x), l1, l2, l3, l4, l5, l6] (.ref x :: st) h P) ∧
  (∀ (d : Nat) (loc : List (Option Value)) (a : Nat) (st : List Value) (h : MH) (P : MP), mFr d 98 70 loc (.ref a :: st) h P = pget h a 8 4 (fun v => mFr d 98 73 loc (v :: st) h P)) ∧
  (∀ (d : Nat) (loc : List (Option Value)) (b : Nat) (a0 : Nat) (h : MH) (P : MP), mFr d 98 73 loc ((.ref a0) :: .ref b :: []) h P = if mrcv h b 1 = true then mRun d 11 [.ref b, .ref a0] h (fun v h' => mFr d 98 76 loc (v.toList ++ []) h' P) else False) ∧
  (∀ (d : Nat) (loc : List (Option Value)) (x : Int32) (st : List Value) (h : MH) (P : MP), mFr d 98 76 loc (.int x :: st) h P = mFr d 98 77 loc (st) h P) ∧
  (∀ (d : Nat) (l0 : Option Value) (l1 : Option Value) (l2 : Option Value) (l3 : Option Value) (l5 : Option Value) (l6 : Option Value) (x : Nat) (st : List Value) (h : MH) (P : MP), mFr d 98 77 [l0, l1, l2, l3, some (.ref x), l5, l6] st h P = mFr d 98 79 [l0, l1, l2, l3, some (.ref x), l5, l6] (.ref x :: st) h P) ∧
  (∀ (d : Nat) (l0 : Option Value) (l1 : Option Value) (l2 : Option Value) (l3 : Option Value) (l5 : Option Value) (l6 : Option Value) (st : List Value) (h : MH) (P : MP), mFr d 98 77 [l0, l1, l2, l3, some .null, l5, l6] st h P = mFr d 98 79 [l0, l1, l2, l3, some .null, l5, l6] (.null :: st) h P) ∧
  (∀ (d : Nat) (l0 : Option Value) (l1 : Option Value) (l2 : Option Value) (l3 : Option Value) (l4 : Option Value) (l5 : Option Value) (x : Int32) (st : List Value) (h : MH) (P : MP), mFr d 98 79 [l0, l1, l2, l3, l4, l5, some (.int x)] st h P = mFr d 98 81 [l0, l1, l2, l3, l4, l5, some (.int x)] (.int x :: st) h P) ∧
  (∀ (d : Nat) (l1 : Option Value) (l2 : Option Value) (l3 : Option Value) (l4 : Option Value) (l5 : Option Value) (l6 : Option Value) (x : Nat) (st : List Value) (h : MH) (P : MP), mFr d 98 81 [some (.ref x), l1, l2, l3, l4, l5, l6] st h P = mFr d 98 82 [some (.ref x), l1, l2, l3, l4, l5, l6] (.ref x :: st) h P) ∧
  (∀ (d : Nat) (loc : List (Option Value)) (a : Nat) (st : List Value) (h : MH) (P : MP), mFr d 98 82 loc (.ref a :: st) h P = pget h a 8 12 (fun v => mFr d 98 85 loc (v :: st) h P)) ∧
  (∀ (d : Nat) (loc : List (Option Value)) (a : Nat) (st : List Value) (h : MH) (P : MP), mFr d 98 85 loc (.ref a :: st) h P = pget h a 1 4 (fun v => mFr d 98 88 loc (v :: st) h P)) ∧
  (∀ (d : Nat) (loc : List (Option Value)) (b : Nat) (a0 : Int32) (a1 : Int32) (h : MH) (P : MP), mFr d 98 88 loc ((.int a1) :: (.int a0) :: .ref b :: []) h P = if mrcv h b 3 = true then mRun d 25 [.ref b, .int a0, .int a1] h (fun v h' => mFr d 98 91 loc (v.toList ++ []) h' P) else False) ∧
  (∀ (d : Nat) (l0 : Option Value) (l1 : Option Value) (l2 : Option Value) (l3 : Option Value) (l4 : Option Value) (l5 : Option Value) (x : Int32) (st : List Value) (h : MH) (P : MP), mnl l5 = true → mFr d 98 91 [l0, l1, l2, l3, l4, l5, some (.int x)] st h P = mFr d 98 94 [l0, l1, l2, l3, l4, l5, some (.int (x + 1))] (st) h P) ∧
  (∀ (d : Nat) (loc : List (Option Value)) (st : List Value) (h : MH) (P : MP), mFr d 98 94 loc st h P = mFr d 98 59 loc (st) h P) := ⟨fun _ _ _ _ _ _ _ _ _ _ _ => (mFr_S mq98 h98_65).trans rfl,
  fun _ _ _ _ _ _ => F_get mq98 h98_66 (Or.inl (rfl : _ = some (45, 0, 8, 12))),
  fun _ _ _ _ _ _ _ _ _ _ _ => (mFr_S mq98 h98_69).trans rfl,
  fun _ _ _ _ _ _ => F_get mq98 h98_70 (Or.inl (rfl : _ = some (100, 0, 8, 4))),
  fun _ _ b a0 _ _ => F_callV (as := [.ref a0]) (rest := []) mq98 (Or.inl h98_73) (rfl : _ = some (184, 6, 11, 1)) (Or.inl ⟨h98_73, by decide⟩) (by rfl) (by rfl) (by rfl) (Nat.le_of_ble_eq_true rfl),
  fun _ _ _ _ _ _ => (mFr_S mq98 h98_76).trans rfl,
  fun _ _ _ _ _ _ _ _ _ _ _ => (mFr_S mq98 h98_77).trans rfl,
  fun _ _ _ _ _ _ _ _ _ _ => (mFr_S mq98 h98_77).trans rfl,
  fun _ _ _ _ _ _ _ _ _ _ _ => (mFr_S mq98 h98_79).trans rfl,
  fun _ _ _ _ _ _ _ _ _ _ _ => (mFr_S mq98 h98_81).trans rfl,
  fun _ _ _ _ _ _ => F_get mq98 h98_82 (Or.inl (rfl : _ = some (45, 0, 8, 12))),
  fun _ _ _ _ _ _ => F_get mq98 h98_85 (Or.inr (rfl : _ = some (148, 1, 1, 4))),
  fun _ _ b a0 a1 _ _ => F_callV (as := [.int a0, .int a1]) (rest := []) mq98 (Or.inl h98_88) (rfl : _ = some (277, 6, 25, 1)) (Or.inl ⟨h98_88, by decide⟩) (by rfl) (by rfl) (by rfl) (Nat.le_of_ble_eq_true rfl),
  fun _ _ _ _ _ _ _ _ _ _ _ hm => (mFr_S mq98 h98_91).trans (by simp only [mgo.eq_1, mstep, mld, mst, mprev, List.length_cons, List.length_nil, List.getElem?_cons_succ, List.getElem?_cons_zero, hm]; rfl),
  fun _ _ _ _ _ => F_goto 59 mq98 h98_94 (by decide)⟩
theorem E98_97 : (∀ (d : Nat) (l0 : Option Value) (l1 : Option Value) (l2 : Option Value) (l4 : Option Value) (l5 : Option Value) (l6 : Option Value) (x : Int32) (st : List Value) (h : MH) (P : MP), mFr d 98 97 [l0, l1, l2, some (.int x), l4, l5, l6] st h P = mFr d 98 98 [l0, l1, l2, some (.int x), l4, l5, l6] (.int x :: st) h P) ∧
  (∀ (d : Nat) (loc : List (Option Value)) (x : Int32) (h : MH) (P : MP), mFr d 98 98 loc [.int x] h P = P (some (.int x)) h) := ⟨fun _ _ _ _ _ _ _ _ _ _ _ => (mFr_S mq98 h98_97).trans rfl,
  fun _ _ _ _ _ => F_ret mq98 h98_98 rfl rfl⟩
theorem B98 : ∀ (d : Nat) (b : Nat) (a0 : Int32) (a1 : Int32) (a2 : Int32) (h : MH) (P : MP), mRun (d + 1) 98 [.ref b, .int a0, .int a1, .int a2] h P = mFr d 98 0 [some (.ref b), some (.int a0), some (.int a1), some (.int a2), none, none, none] [] h P := fun _ _ _ _ _ _ _ => mRun_S mq98 (Nat.le_of_ble_eq_true rfl)
-- 99: PuncturesAreViews.drawn(II)I
def q99 : MI := (yX8_drawn, cX8_drawn, 4, (some .int), 8, 2)
theorem mq99 : mtab[99]? = some q99 := rfl
theorem h99_0 : mfetch q99.2.1 0 = some (.aload_n 0) := by decide +kernel
theorem h99_1 : mfetch q99.2.1 1 = some (.getfield 25) := by decide +kernel
theorem h99_4 : mfetch q99.2.1 4 = some (.iload_n 2) := by decide +kernel
theorem h99_5 : mfetch q99.2.1 5 = some (.invokevirtual 135) := by decide +kernel
theorem h99_8 : mfetch q99.2.1 8 = some (.astore_n 3) := by decide +kernel
theorem h99_9 : mfetch q99.2.1 9 = some (.aload_n 3) := by decide +kernel
theorem h99_10 : mfetch q99.2.1 10 = some (.ifnonnull 8) := by decide +kernel
theorem h99_13 : mfetch q99.2.1 13 = some (.bipush (-2)) := by decide +kernel
theorem h99_15 : mfetch q99.2.1 15 = some (.goto 9) := by decide +kernel
theorem h99_18 : mfetch q99.2.1 18 = some (.aload_n 0) := by decide +kernel
theorem h99_19 : mfetch q99.2.1 19 = some (.iload_n 1) := by decide +kernel
theorem h99_20 : mfetch q99.2.1 20 = some (.aload_n 3) := by decide +kernel
theorem h99_21 : mfetch q99.2.1 21 = some (.invokevirtual 280) := by decide +kernel
theorem h99_24 : mfetch q99.2.1 24 = some (.ireturn) := by decide +kernel
theorem E99_0 : (∀ (d : Nat) (l1 : Option Value) (l2 : Option Value) (l3 : Option Value) (x : Nat) (st : List Value) (h : MH) (P : MP), mFr d 99 0 [some (.ref x), l1, l2, l3] st h P = mFr d 99 1 [some (.ref x), l1, l2, l3] (.ref x :: st) h P) ∧
  (∀ (d : Nat) (loc : List (Option Value)) (a : Nat) (st : List Value) (h : MH) (P : MP), mFr d 99 1 loc (.ref a :: st) h P = pget h a 8 5 (fun v => mFr d 99 4 loc (v :: st) h P)) ∧
  (∀ (d : Nat) (l0 : Option Value) (l1 : Option Value) (l3 : Option Value) (x : Int32) (st : List Value) (h : MH) (P : MP), mFr d 99 4 [l0, l1, some (.int x), l3] st h P = mFr d 99 5 [l0, l1, some (.int x), l3] (.int x :: st) h P) ∧
  (∀ (d : Nat) (loc : List (Option Value)) (b : Nat) (a0 : Int32) (h : MH) (P : MP), mFr d 99 5 loc ((.int a0) :: .ref b :: []) h P = if mrcv h b 0 = true then mRun d 1 [.ref b, .int a0] h (fun v h' => mFr d 99 8 loc (v.toList ++ []) h' P) else False) ∧
  (∀ (d : Nat) (l0 : Option Value) (l1 : Option Value) (l2 : Option Value) (l3 : Option Value) (x : Nat) (st : List Value) (h : MH) (P : MP), mnl l2 = true → mFr d 99 8 [l0, l1, l2, l3] (.ref x :: st) h P = mFr d 99 9 [l0, l1, l2, some (.ref x)] (st) h P) ∧
  (∀ (d : Nat) (l0 : Option Value) (l1 : Option Value) (l2 : Option Value) (l3 : Option Value) (st : List Value) (h : MH) (P : MP), mnl l2 = true → mFr d 99 8 [l0, l1, l2, l3] (.null :: st) h P = mFr d 99 9 [l0, l1, l2, some .null] (st) h P) ∧
  (∀ (d : Nat) (l0 : Option Value) (l1 : Option Value) (l2 : Option Value) (x : Nat) (st : List Value) (h : MH) (P : MP), mFr d 99 9 [l0, l1, l2, some (.ref x)] st h P = mFr d 99 10 [l0, l1, l2, some (.ref x)] (.ref x :: st) h P) ∧
  (∀ (d : Nat) (l0 : Option Value) (l1 : Option Value) (l2 : Option Value) (st : List Value) (h : MH) (P : MP), mFr d 99 9 [l0, l1, l2, some .null] st h P = mFr d 99 10 [l0, l1, l2, some .null] (.null :: st) h P) ∧
  (∀ (d : Nat) (loc : List (Option Value)) (x : Nat) (st : List Value) (h : MH) (P : MP), mFr d 99 10 loc (.ref x :: st) h P = if x < 900 then mFr d 99 18 loc (st) h P else False) ∧
  (∀ (d : Nat) (loc : List (Option Value)) (st : List Value) (h : MH) (P : MP), mFr d 99 10 loc (.null :: st) h P = mFr d 99 13 loc (st) h P) := ⟨fun _ _ _ _ _ _ _ _ => (mFr_S mq99 h99_0).trans rfl,
  fun _ _ _ _ _ _ => F_get mq99 h99_1 (Or.inl (rfl : _ = some (25, 0, 8, 5))),
  fun _ _ _ _ _ _ _ _ => (mFr_S mq99 h99_4).trans rfl,
  fun _ _ b a0 _ _ => F_callV (as := [.int a0]) (rest := []) mq99 (Or.inl h99_5) (rfl : _ = some (135, 6, 1, 1)) (Or.inl ⟨h99_5, by decide⟩) (by rfl) (by rfl) (by rfl) (Nat.le_of_ble_eq_true rfl),
  fun _ _ _ _ _ _ _ _ _ hm => (mFr_S mq99 h99_8).trans (by simp only [mgo.eq_1, mstep, mi1, ml1, mast, mst, mst2, mprev, List.length_cons, List.length_nil, List.getElem?_cons_succ, List.getElem?_cons_zero, hm]; rfl),
  fun _ _ _ _ _ _ _ _ hm => (mFr_S mq99 h99_8).trans (by simp only [mgo.eq_1, mstep, mi1, ml1, mast, mst, mst2, mprev, List.length_cons, List.length_nil, List.getElem?_cons_succ, List.getElem?_cons_zero, hm]; rfl),
  fun _ _ _ _ _ _ _ _ => (mFr_S mq99 h99_9).trans rfl,
  fun _ _ _ _ _ _ _ => (mFr_S mq99 h99_9).trans rfl,
  fun _ _ _ _ _ _ => F_ifnonnullR 18 mq99 h99_10 (by decide),
  fun _ _ _ _ _ => (mFr_S mq99 h99_10).trans rfl⟩
theorem E99_13 : (∀ (d : Nat) (loc : List (Option Value)) (st : List Value) (h : MH) (P : MP), mFr d 99 13 loc st h P = mFr d 99 15 loc (.int (-2) :: st) h P) ∧
  (∀ (d : Nat) (loc : List (Option Value)) (st : List Value) (h : MH) (P : MP), mFr d 99 15 loc st h P = mFr d 99 24 loc (st) h P) := ⟨fun _ _ _ _ _ => (mFr_S mq99 h99_13).trans rfl,
  fun _ _ _ _ _ => F_goto 24 mq99 h99_15 (by decide)⟩
theorem E99_18 : (∀ (d : Nat) (l1 : Option Value) (l2 : Option Value) (l3 : Option Value) (x : Nat) (st : List Value) (h : MH) (P : MP), mFr d 99 18 [some (.ref x), l1, l2, l3] st h P = mFr d 99 19 [some (.ref x), l1, l2, l3] (.ref x :: st) h P) ∧
  (∀ (d : Nat) (l0 : Option Value) (l2 : Option Value) (l3 : Option Value) (x : Int32) (st : List Value) (h : MH) (P : MP), mFr d 99 19 [l0, some (.int x), l2, l3] st h P = mFr d 99 20 [l0, some (.int x), l2, l3] (.int x :: st) h P) ∧
  (∀ (d : Nat) (l0 : Option Value) (l1 : Option Value) (l2 : Option Value) (x : Nat) (st : List Value) (h : MH) (P : MP), mFr d 99 20 [l0, l1, l2, some (.ref x)] st h P = mFr d 99 21 [l0, l1, l2, some (.ref x)] (.ref x :: st) h P) ∧
  (∀ (d : Nat) (l0 : Option Value) (l1 : Option Value) (l2 : Option Value) (st : List Value) (h : MH) (P : MP), mFr d 99 20 [l0, l1, l2, some .null] st h P = mFr d 99 21 [l0, l1, l2, some .null] (.null :: st) h P) ∧
  (∀ (d : Nat) (loc : List (Option Value)) (b : Nat) (a0 : Int32) (a1 : Nat) (h : MH) (P : MP), mFr d 99 21 loc ((.ref a1) :: (.int a0) :: .ref b :: []) h P = if mrcv h b 8 = true then mRun d 100 [.ref b, .int a0, .ref a1] h (fun v h' => mFr d 99 24 loc (v.toList ++ []) h' P) else False) := ⟨fun _ _ _ _ _ _ _ _ => (mFr_S mq99 h99_18).trans rfl,
  fun _ _ _ _ _ _ _ _ => (mFr_S mq99 h99_19).trans rfl,
  fun _ _ _ _ _ _ _ _ => (mFr_S mq99 h99_20).trans rfl,
  fun _ _ _ _ _ _ _ => (mFr_S mq99 h99_20).trans rfl,
  fun _ _ b a0 a1 _ _ => F_callV (as := [.int a0, .ref a1]) (rest := []) mq99 (Or.inl h99_21) (rfl : _ = some (280, 6, 100, 0)) (Or.inl ⟨h99_21, by decide⟩) (by rfl) (by rfl) (by rfl) (Nat.le_of_ble_eq_true rfl)⟩
theorem E99_24 : (∀ (d : Nat) (loc : List (Option Value)) (x : Int32) (h : MH) (P : MP), mFr d 99 24 loc [.int x] h P = P (some (.int x)) h) := fun _ _ _ _ _ => F_ret mq99 h99_24 rfl rfl
theorem B99 : ∀ (d : Nat) (b : Nat) (a0 : Int32) (a1 : Int32) (h : MH) (P : MP), mRun (d + 1) 99 [.ref b, .int a0, .int a1] h P = mFr d 99 0 [some (.ref b), some (.int a0), some (.int a1), none] [] h P := fun _ _ _ _ _ _ => mRun_S mq99 (Nat.le_of_ble_eq_true rfl)
-- 100: PuncturesAreViews.stepsHomeDrawn(ILPuncturesAreViews$Rider;)I
def q100 : MI := (yX8_stepsHomeDrawn, cX8_stepsHomeDrawn, 3, (some .int), 8, 2)
theorem mq100 : mtab[100]? = some q100 := rfl
theorem h100_0 : mfetch q100.2.1 0 = some (.aload_n 0) := by decide +kernel
theorem h100_1 : mfetch q100.2.1 1 = some (.getfield 107) := by decide +kernel
theorem h100_4 : mfetch q100.2.1 4 = some (.aload_n 0) := by decide +kernel
theorem h100_5 : mfetch q100.2.1 5 = some (.getfield 100) := by decide +kernel
theorem h100_8 : mfetch q100.2.1 8 = some (.invokevirtual 206) := by decide +kernel
theorem h100_11 : mfetch q100.2.1 11 = some (.aload_n 0) := by decide +kernel
theorem h100_12 : mfetch q100.2.1 12 = some (.getfield 107) := by decide +kernel
theorem h100_15 : mfetch q100.2.1 15 = some (.iload_n 1) := by decide +kernel
theorem h100_16 : mfetch q100.2.1 16 = some (.invokevirtual 284) := by decide +kernel
theorem h100_19 : mfetch q100.2.1 19 = some (.aload_n 0) := by decide +kernel
theorem h100_20 : mfetch q100.2.1 20 = some (.aload_n 2) := by decide +kernel
theorem h100_21 : mfetch q100.2.1 21 = some (.aload_n 0) := by decide +kernel
theorem h100_22 : mfetch q100.2.1 22 = some (.getfield 107) := by decide +kernel
theorem h100_25 : mfetch q100.2.1 25 = some (.invokevirtual 198) := by decide +kernel
theorem h100_28 : mfetch q100.2.1 28 = some (.ireturn) := by decide +kernel
theorem E100_0 : (∀ (d : Nat) (l1 : Option Value) (l2 : Option Value) (x : Nat) (st : List Value) (h : MH) (P : MP), mFr d 100 0 [some (.ref x), l1, l2] st h P = mFr d 100 1 [some (.ref x), l1, l2] (.ref x :: st) h P) ∧
  (∀ (d : Nat) (loc : List (Option Value)) (a : Nat) (st : List Value) (h : MH) (P : MP), mFr d 100 1 loc (.ref a :: st) h P = pget h a 8 10 (fun v => mFr d 100 4 loc (v :: st) h P)) ∧
  (∀ (d : Nat) (l1 : Option Value) (l2 : Option Value) (x : Nat) (st : List Value) (h : MH) (P : MP), mFr d 100 4 [some (.ref x), l1, l2] st h P = mFr d 100 5 [some (.ref x), l1, l2] (.ref x :: st) h P) ∧
  (∀ (d : Nat) (loc : List (Option Value)) (a : Nat) (st : List Value) (h : MH) (P : MP), mFr d 100 5 loc (.ref a :: st) h P = pget h a 8 4 (fun v => mFr d 100 8 loc (v :: st) h P)) ∧
  (∀ (d : Nat) (loc : List (Option Value)) (b : Nat) (a0 : Nat) (h : MH) (P : MP), mFr d 100 8 loc ((.ref a0) :: .ref b :: []) h P = if mrcv h b 2 = true then mRun d 20 [.ref b, .ref a0] h (fun v h' => mFr d 100 11 loc (v.toList ++ []) h' P) else False) ∧
  (∀ (d : Nat) (l1 : Option Value) (l2 : Option Value) (x : Nat) (st : List Value) (h : MH) (P : MP), mFr d 100 11 [some (.ref x), l1, l2] st h P = mFr d 100 12 [some (.ref x), l1, l2] (.ref x :: st) h P) ∧
  (∀ (d : Nat) (loc : List (Option Value)) (a : Nat) (st : List Value) (h : MH) (P : MP), mFr d 100 12 loc (.ref a :: st) h P = pget h a 8 10 (fun v => mFr d 100 15 loc (v :: st) h P)) ∧
  (∀ (d : Nat) (l0 : Option Value) (l2 : Option Value) (x : Int32) (st : List Value) (h : MH) (P : MP), mFr d 100 15 [l0, some (.int x), l2] st h P = mFr d 100 16 [l0, some (.int x), l2] (.int x :: st) h P) ∧
  (∀ (d : Nat) (loc : List (Option Value)) (b : Nat) (a0 : Int32) (h : MH) (P : MP), mFr d 100 16 loc ((.int a0) :: .ref b :: []) h P = if mrcv h b 2 = true then mRun d 19 [.ref b, .int a0] h (fun v h' => mFr d 100 19 loc (v.toList ++ []) h' P) else False) ∧
  (∀ (d : Nat) (l1 : Option Value) (l2 : Option Value) (x : Nat) (st : List Value) (h : MH) (P : MP), mFr d 100 19 [some (.ref x), l1, l2] st h P = mFr d 100 20 [some (.ref x), l1, l2] (.ref x :: st) h P) ∧
  (∀ (d : Nat) (l0 : Option Value) (l1 : Option Value) (x : Nat) (st : List Value) (h : MH) (P : MP), mFr d 100 20 [l0, l1, some (.ref x)] st h P = mFr d 100 21 [l0, l1, some (.ref x)] (.ref x :: st) h P) ∧
  (∀ (d : Nat) (l0 : Option Value) (l1 : Option Value) (st : List Value) (h : MH) (P : MP), mFr d 100 20 [l0, l1, some .null] st h P = mFr d 100 21 [l0, l1, some .null] (.null :: st) h P) ∧
  (∀ (d : Nat) (l1 : Option Value) (l2 : Option Value) (x : Nat) (st : List Value) (h : MH) (P : MP), mFr d 100 21 [some (.ref x), l1, l2] st h P = mFr d 100 22 [some (.ref x), l1, l2] (.ref x :: st) h P) ∧
  (∀ (d : Nat) (loc : List (Option Value)) (a : Nat) (st : List Value) (h : MH) (P : MP), mFr d 100 22 loc (.ref a :: st) h P = pget h a 8 10 (fun v => mFr d 100 25 loc (v :: st) h P)) ∧
  (∀ (d : Nat) (loc : List (Option Value)) (b : Nat) (a0 : Nat) (a1 : Nat) (h : MH) (P : MP), mFr d 100 25 loc ((.ref a1) :: (.ref a0) :: .ref b :: []) h P = if mrcv h b 8 = true then mRun d 75 [.ref b, .ref a0, .ref a1] h (fun v h' => mFr d 100 28 loc (v.toList ++ []) h' P) else False) ∧
  (∀ (d : Nat) (loc : List (Option Value)) (x : Int32) (h : MH) (P : MP), mFr d 100 28 loc [.int x] h P = P (some (.int x)) h) := ⟨fun _ _ _ _ _ _ _ => (mFr_S mq100 h100_0).trans rfl,
  fun _ _ _ _ _ _ => F_get mq100 h100_1 (Or.inl (rfl : _ = some (107, 0, 8, 10))),
  fun _ _ _ _ _ _ _ => (mFr_S mq100 h100_4).trans rfl,
  fun _ _ _ _ _ _ => F_get mq100 h100_5 (Or.inl (rfl : _ = some (100, 0, 8, 4))),
  fun _ _ b a0 _ _ => F_callV (as := [.ref a0]) (rest := []) mq100 (Or.inl h100_8) (rfl : _ = some (206, 6, 20, 1)) (Or.inl ⟨h100_8, by decide⟩) (by rfl) (by rfl) (by rfl) (Nat.le_of_ble_eq_true rfl),
  fun _ _ _ _ _ _ _ => (mFr_S mq100 h100_11).trans rfl,
  fun _ _ _ _ _ _ => F_get mq100 h100_12 (Or.inl (rfl : _ = some (107, 0, 8, 10))),
  fun _ _ _ _ _ _ _ => (mFr_S mq100 h100_15).trans rfl,
  fun _ _ b a0 _ _ => F_callV (as := [.int a0]) (rest := []) mq100 (Or.inl h100_16) (rfl : _ = some (284, 6, 19, 1)) (Or.inl ⟨h100_16, by decide⟩) (by rfl) (by rfl) (by rfl) (Nat.le_of_ble_eq_true rfl),
  fun _ _ _ _ _ _ _ => (mFr_S mq100 h100_19).trans rfl,
  fun _ _ _ _ _ _ _ => (mFr_S mq100 h100_20).trans rfl,
  fun _ _ _ _ _ _ => (mFr_S mq100 h100_20).trans rfl,
  fun _ _ _ _ _ _ _ => (mFr_S mq100 h100_21).trans rfl,
  fun _ _ _ _ _ _ => F_get mq100 h100_22 (Or.inl (rfl : _ = some (107, 0, 8, 10))),
  fun _ _ b a0 a1 _ _ => F_callV (as := [.ref a0, .ref a1]) (rest := []) mq100 (Or.inl h100_25) (rfl : _ = some (198, 6, 75, 0)) (Or.inl ⟨h100_25, by decide⟩) (by rfl) (by rfl) (by rfl) (Nat.le_of_ble_eq_true rfl),
  fun _ _ _ _ _ => F_ret mq100 h100_28 rfl rfl⟩
theorem B100 : ∀ (d : Nat) (b : Nat) (a0 : Int32) (a1 : Nat) (h : MH) (P : MP), mRun (d + 1) 100 [.ref b, .int a0, .ref a1] h P = mFr d 100 0 [some (.ref b), some (.int a0), some (.ref a1)] [] h P := fun _ _ _ _ _ _ => mRun_S mq100 (Nat.le_of_ble_eq_true rfl)
-- 101: PuncturesAreViews.chance(IIIII)J loops at [60]
def q101 : MI := (yX8_chance, cX8_chance, 9, (some .long), 8, 5)
theorem mq101 : mtab[101]? = some q101 := rfl
theorem h101_0 : mfetch q101.2.1 0 = some (.aload_n 0) := by decide +kernel
theorem h101_1 : mfetch q101.2.1 1 = some (.getfield 25) := by decide +kernel
theorem h101_4 : mfetch q101.2.1 4 = some (.iload_n 3) := by decide +kernel
theorem h101_5 : mfetch q101.2.1 5 = some (.invokevirtual 135) := by decide +kernel
theorem h101_8 : mfetch q101.2.1 8 = some (.astore 6) := by decide +kernel
theorem h101_10 : mfetch q101.2.1 10 = some (.aload 6) := by decide +kernel
theorem h101_12 : mfetch q101.2.1 12 = some (.ifnull 38) := by decide +kernel
theorem h101_15 : mfetch q101.2.1 15 = some (.iload_n 2) := by decide +kernel
theorem h101_16 : mfetch q101.2.1 16 = some (.iconst 1) := by decide +kernel
theorem h101_17 : mfetch q101.2.1 17 = some (.if_icmp .lt 33) := by decide +kernel
theorem h101_20 : mfetch q101.2.1 20 = some (.iload_n 2) := by decide +kernel
theorem h101_21 : mfetch q101.2.1 21 = some (.bipush 20) := by decide +kernel
theorem h101_23 : mfetch q101.2.1 23 = some (.if_icmp .gt 27) := by decide +kernel
theorem h101_26 : mfetch q101.2.1 26 = some (.iload 4) := by decide +kernel
theorem h101_28 : mfetch q101.2.1 28 = some (.ifCond .lt 22) := by decide +kernel
theorem h101_31 : mfetch q101.2.1 31 = some (.iload 4) := by decide +kernel
theorem h101_33 : mfetch q101.2.1 33 = some (.sipush 240) := by decide +kernel
theorem h101_36 : mfetch q101.2.1 36 = some (.if_icmp .gt 14) := by decide +kernel
theorem h101_39 : mfetch q101.2.1 39 = some (.iload 5) := by decide +kernel
theorem h101_41 : mfetch q101.2.1 41 = some (.ifCond .lt 9) := by decide +kernel
theorem h101_44 : mfetch q101.2.1 44 = some (.iload 5) := by decide +kernel
theorem h101_46 : mfetch q101.2.1 46 = some (.iconst 1) := by decide +kernel
theorem h101_47 : mfetch q101.2.1 47 = some (.if_icmp .le 7) := by decide +kernel
theorem h101_50 : mfetch q101.2.1 50 = some (.ldc2_w 287) := by decide +kernel
theorem h101_53 : mfetch q101.2.1 53 = some (.lreturn) := by decide +kernel
theorem h101_54 : mfetch q101.2.1 54 = some (.iconst 0) := by decide +kernel
theorem h101_55 : mfetch q101.2.1 55 = some (.istore 7) := by decide +kernel
theorem h101_57 : mfetch q101.2.1 57 = some (.iconst 0) := by decide +kernel
theorem h101_58 : mfetch q101.2.1 58 = some (.istore 8) := by decide +kernel
theorem h101_60 : mfetch q101.2.1 60 = some (.iload 8) := by decide +kernel
theorem h101_62 : mfetch q101.2.1 62 = some (.iload_n 2) := by decide +kernel
theorem h101_63 : mfetch q101.2.1 63 = some (.if_icmp .ge 27) := by decide +kernel
theorem h101_66 : mfetch q101.2.1 66 = some (.aload_n 0) := by decide +kernel
theorem h101_67 : mfetch q101.2.1 67 = some (.iload_n 1) := by decide +kernel
theorem h101_68 : mfetch q101.2.1 68 = some (.iload 8) := by decide +kernel
theorem h101_70 : mfetch q101.2.1 70 = some (.iadd) := by decide +kernel
theorem h101_71 : mfetch q101.2.1 71 = some (.aload 6) := by decide +kernel
theorem h101_73 : mfetch q101.2.1 73 = some (.invokevirtual 280) := by decide +kernel
theorem h101_76 : mfetch q101.2.1 76 = some (.iload 4) := by decide +kernel
theorem h101_78 : mfetch q101.2.1 78 = some (.if_icmp .gt 6) := by decide +kernel
theorem h101_81 : mfetch q101.2.1 81 = some (.iinc 7 1) := by decide +kernel
theorem h101_84 : mfetch q101.2.1 84 = some (.iinc 8 1) := by decide +kernel
theorem h101_87 : mfetch q101.2.1 87 = some (.goto (-27)) := by decide +kernel
theorem h101_90 : mfetch q101.2.1 90 = some (.iload 7) := by decide +kernel
theorem h101_92 : mfetch q101.2.1 92 = some (.iload_n 2) := by decide +kernel
theorem h101_93 : mfetch q101.2.1 93 = some (.iload 5) := by decide +kernel
theorem h101_95 : mfetch q101.2.1 95 = some (.invokestatic 289) := by decide +kernel
theorem h101_98 : mfetch q101.2.1 98 = some (.i2l) := by decide +kernel
theorem h101_99 : mfetch q101.2.1 99 = some (.lreturn) := by decide +kernel
theorem E101_0 : (∀ (d : Nat) (l1 : Option Value) (l2 : Option Value) (l3 : Option Value) (l4 : Option Value) (l5 : Option Value) (l6 : Option Value) (l7 : Option Value) (l8 : Option Value) (x : Nat) (st : List Value) (h : MH) (P : MP), mFr d 101 0 [some (.ref x), l1, l2, l3, l4, l5, l6, l7, l8] st h P = mFr d 101 1 [some (.ref x), l1, l2, l3, l4, l5, l6, l7, l8] (.ref x :: st) h P) ∧
  (∀ (d : Nat) (loc : List (Option Value)) (a : Nat) (st : List Value) (h : MH) (P : MP), mFr d 101 1 loc (.ref a :: st) h P = pget h a 8 5 (fun v => mFr d 101 4 loc (v :: st) h P)) ∧
  (∀ (d : Nat) (l0 : Option Value) (l1 : Option Value) (l2 : Option Value) (l4 : Option Value) (l5 : Option Value) (l6 : Option Value) (l7 : Option Value) (l8 : Option Value) (x : Int32) (st : List Value) (h : MH) (P : MP), mFr d 101 4 [l0, l1, l2, some (.int x), l4, l5, l6, l7, l8] st h P = mFr d 101 5 [l0, l1, l2, some (.int x), l4, l5, l6, l7, l8] (.int x :: st) h P) ∧
  (∀ (d : Nat) (loc : List (Option Value)) (b : Nat) (a0 : Int32) (h : MH) (P : MP), mFr d 101 5 loc ((.int a0) :: .ref b :: []) h P = if mrcv h b 0 = true then mRun d 1 [.ref b, .int a0] h (fun v h' => mFr d 101 8 loc (v.toList ++ []) h' P) else False) ∧
  (∀ (d : Nat) (l0 : Option Value) (l1 : Option Value) (l2 : Option Value) (l3 : Option Value) (l4 : Option Value) (l5 : Option Value) (l6 : Option Value) (l7 : Option Value) (l8 : Option Value) (x : Nat) (st : List Value) (h : MH) (P : MP), mnl l5 = true → mFr d 101 8 [l0, l1, l2, l3, l4, l5, l6, l7, l8] (.ref x :: st) h P = mFr d 101 10 [l0, l1, l2, l3, l4, l5, some (.ref x), l7, l8] (st) h P) ∧
  (∀ (d : Nat) (l0 : Option Value) (l1 : Option Value) (l2 : Option Value) (l3 : Option Value) (l4 : Option Value) (l5 : Option Value) (l6 : Option Value) (l7 : Option Value) (l8 : Option Value) (st : List Value) (h : MH) (P : MP), mnl l5 = true → mFr d 101 8 [l0, l1, l2, l3, l4, l5, l6, l7, l8] (.null :: st) h P = mFr d 101 10 [l0, l1, l2, l3, l4, l5, some .null, l7, l8] (st) h P) ∧
  (∀ (d : Nat) (l0 : Option Value) (l1 : Option Value) (l2 : Option Value) (l3 : Option Value) (l4 : Option Value) (l5 : Option Value) (l7 : Option Value) (l8 : Option Value) (x : Nat) (st : List Value) (h : MH) (P : MP), mFr d 101 10 [l0, l1, l2, l3, l4, l5, some (.ref x), l7, l8] st h P = mFr d 101 12 [l0, l1, l2, l3, l4, l5, some (.ref x), l7, l8] (.ref x :: st) h P) ∧
  (∀ (d : Nat) (l0 : Option Value) (l1 : Option Value) (l2 : Option Value) (l3 : Option Value) (l4 : Option Value) (l5 : Option Value) (l7 : Option Value) (l8 : Option Value) (st : List Value) (h : MH) (P : MP), mFr d 101 10 [l0, l1, l2, l3, l4, l5, some .null, l7, l8] st h P = mFr d 101 12 [l0, l1, l2, l3, l4, l5, some .null, l7, l8] (.null :: st) h P) ∧
  (∀ (d : Nat) (loc : List (Option Value)) (x : Nat) (st : List Value) (h : MH) (P : MP), mFr d 101 12 loc (.ref x :: st) h P = if x < 900 then mFr d 101 15 loc (st) h P else False) ∧
  (∀ (d : Nat) (loc : List (Option Value)) (st : List Value) (h : MH) (P : MP), mFr d 101 12 loc (.null :: st) h P = mFr d 101 50 loc (st) h P) := ⟨fun _ _ _ _ _ _ _ _ _ _ _ _ _ => (mFr_S mq101 h101_0).trans rfl,
  fun _ _ _ _ _ _ => F_get mq101 h101_1 (Or.inl (rfl : _ = some (25, 0, 8, 5))),
  fun _ _ _ _ _ _ _ _ _ _ _ _ _ => (mFr_S mq101 h101_4).trans rfl,
  fun _ _ b a0 _ _ => F_callV (as := [.int a0]) (rest := []) mq101 (Or.inl h101_5) (rfl : _ = some (135, 6, 1, 1)) (Or.inl ⟨h101_5, by decide⟩) (by rfl) (by rfl) (by rfl) (Nat.le_of_ble_eq_true rfl),
  fun _ _ _ _ _ _ _ _ _ _ _ _ _ _ hm => (mFr_S mq101 h101_8).trans (by simp only [mgo.eq_1, mstep, mi1, ml1, mast, mst, mst2, mprev, List.length_cons, List.length_nil, List.getElem?_cons_succ, List.getElem?_cons_zero, hm]; rfl),
  fun _ _ _ _ _ _ _ _ _ _ _ _ _ hm => (mFr_S mq101 h101_8).trans (by simp only [mgo.eq_1, mstep, mi1, ml1, mast, mst, mst2, mprev, List.length_cons, List.length_nil, List.getElem?_cons_succ, List.getElem?_cons_zero, hm]; rfl),
  fun _ _ _ _ _ _ _ _ _ _ _ _ _ => (mFr_S mq101 h101_10).trans rfl,
  fun _ _ _ _ _ _ _ _ _ _ _ _ => (mFr_S mq101 h101_10).trans rfl,
  fun _ _ _ _ _ _ => F_ifnullR mq101 h101_12,
  fun _ _ _ _ _ => F_ifnullN 50 mq101 h101_12 (by decide)⟩
theorem E101_15 : (∀ (d : Nat) (l0 : Option Value) (l1 : Option Value) (l3 : Option Value) (l4 : Option Value) (l5 : Option Value) (l6 : Option Value) (l7 : Option Value) (l8 : Option Value) (x : Int32) (st : List Value) (h : MH) (P : MP), mFr d 101 15 [l0, l1, some (.int x), l3, l4, l5, l6, l7, l8] st h P = mFr d 101 16 [l0, l1, some (.int x), l3, l4, l5, l6, l7, l8] (.int x :: st) h P) ∧
  (∀ (d : Nat) (loc : List (Option Value)) (st : List Value) (h : MH) (P : MP), mFr d 101 16 loc st h P = mFr d 101 17 loc (.int 1 :: st) h P) ∧
  (∀ (d : Nat) (loc : List (Option Value)) (x y : Int32) (st : List Value) (h : MH) (P : MP), mFr d 101 17 loc (.int y :: .int x :: st) h P = if x < y then mFr d 101 50 loc (st) h P else mFr d 101 20 loc (st) h P) := ⟨fun _ _ _ _ _ _ _ _ _ _ _ _ _ => (mFr_S mq101 h101_15).trans rfl,
  fun _ _ _ _ _ => (mFr_S mq101 h101_16).trans rfl,
  fun _ _ _ _ _ _ _ => (F_icmp 50 mq101 h101_17 (by decide)).trans mif_lt⟩
theorem E101_20 : (∀ (d : Nat) (l0 : Option Value) (l1 : Option Value) (l3 : Option Value) (l4 : Option Value) (l5 : Option Value) (l6 : Option Value) (l7 : Option Value) (l8 : Option Value) (x : Int32) (st : List Value) (h : MH) (P : MP), mFr d 101 20 [l0, l1, some (.int x), l3, l4, l5, l6, l7, l8] st h P = mFr d 101 21 [l0, l1, some (.int x), l3, l4, l5, l6, l7, l8] (.int x :: st) h P) ∧
  (∀ (d : Nat) (loc : List (Option Value)) (st : List Value) (h : MH) (P : MP), mFr d 101 21 loc st h P = mFr d 101 23 loc (.int 20 :: st) h P) ∧
  (∀ (d : Nat) (loc : List (Option Value)) (x y : Int32) (st : List Value) (h : MH) (P : MP), mFr d 101 23 loc (.int y :: .int x :: st) h P = if y < x then mFr d 101 50 loc (st) h P else mFr d 101 26 loc (st) h P) := ⟨fun _ _ _ _ _ _ _ _ _ _ _ _ _ => (mFr_S mq101 h101_20).trans rfl,
  fun _ _ _ _ _ => (mFr_S mq101 h101_21).trans rfl,
  fun _ _ _ _ _ _ _ => (F_icmp 50 mq101 h101_23 (by decide)).trans mif_gt⟩
theorem E101_26 : (∀ (d : Nat) (l0 : Option Value) (l1 : Option Value) (l2 : Option Value) (l3 : Option Value) (l5 : Option Value) (l6 : Option Value) (l7 : Option Value) (l8 : Option Value) (x : Int32) (st : List Value) (h : MH) (P : MP), mFr d 101 26 [l0, l1, l2, l3, some (.int x), l5, l6, l7, l8] st h P = mFr d 101 28 [l0, l1, l2, l3, some (.int x), l5, l6, l7, l8] (.int x :: st) h P) ∧
  (∀ (d : Nat) (loc : List (Option Value)) (x : Int32) (st : List Value) (h : MH) (P : MP), mFr d 101 28 loc (.int x :: st) h P = if x < 0 then mFr d 101 50 loc (st) h P else mFr d 101 31 loc (st) h P) := ⟨fun _ _ _ _ _ _ _ _ _ _ _ _ _ => (mFr_S mq101 h101_26).trans rfl,
  fun _ _ _ _ _ _ => (F_ifz 50 mq101 h101_28 (by decide)).trans mif_lt⟩
theorem E101_31 : (∀ (d : Nat) (l0 : Option Value) (l1 : Option Value) (l2 : Option Value) (l3 : Option Value) (l5 : Option Value) (l6 : Option Value) (l7 : Option Value) (l8 : Option Value) (x : Int32) (st : List Value) (h : MH) (P : MP), mFr d 101 31 [l0, l1, l2, l3, some (.int x), l5, l6, l7, l8] st h P = mFr d 101 33 [l0, l1, l2, l3, some (.int x), l5, l6, l7, l8] (.int x :: st) h P) ∧
  (∀ (d : Nat) (loc : List (Option Value)) (st : List Value) (h : MH) (P : MP), mFr d 101 33 loc st h P = mFr d 101 36 loc (.int 240 :: st) h P) ∧
  (∀ (d : Nat) (loc : List (Option Value)) (x y : Int32) (st : List Value) (h : MH) (P : MP), mFr d 101 36 loc (.int y :: .int x :: st) h P = if y < x then mFr d 101 50 loc (st) h P else mFr d 101 39 loc (st) h P) := ⟨fun _ _ _ _ _ _ _ _ _ _ _ _ _ => (mFr_S mq101 h101_31).trans rfl,
  fun _ _ _ _ _ => (mFr_S mq101 h101_33).trans rfl,
  fun _ _ _ _ _ _ _ => (F_icmp 50 mq101 h101_36 (by decide)).trans mif_gt⟩
theorem E101_39 : (∀ (d : Nat) (l0 : Option Value) (l1 : Option Value) (l2 : Option Value) (l3 : Option Value) (l4 : Option Value) (l6 : Option Value) (l7 : Option Value) (l8 : Option Value) (x : Int32) (st : List Value) (h : MH) (P : MP), mFr d 101 39 [l0, l1, l2, l3, l4, some (.int x), l6, l7, l8] st h P = mFr d 101 41 [l0, l1, l2, l3, l4, some (.int x), l6, l7, l8] (.int x :: st) h P) ∧
  (∀ (d : Nat) (loc : List (Option Value)) (x : Int32) (st : List Value) (h : MH) (P : MP), mFr d 101 41 loc (.int x :: st) h P = if x < 0 then mFr d 101 50 loc (st) h P else mFr d 101 44 loc (st) h P) := ⟨fun _ _ _ _ _ _ _ _ _ _ _ _ _ => (mFr_S mq101 h101_39).trans rfl,
  fun _ _ _ _ _ _ => (F_ifz 50 mq101 h101_41 (by decide)).trans mif_lt⟩
theorem E101_44 : (∀ (d : Nat) (l0 : Option Value) (l1 : Option Value) (l2 : Option Value) (l3 : Option Value) (l4 : Option Value) (l6 : Option Value) (l7 : Option Value) (l8 : Option Value) (x : Int32) (st : List Value) (h : MH) (P : MP), mFr d 101 44 [l0, l1, l2, l3, l4, some (.int x), l6, l7, l8] st h P = mFr d 101 46 [l0, l1, l2, l3, l4, some (.int x), l6, l7, l8] (.int x :: st) h P) ∧
  (∀ (d : Nat) (loc : List (Option Value)) (st : List Value) (h : MH) (P : MP), mFr d 101 46 loc st h P = mFr d 101 47 loc (.int 1 :: st) h P) ∧
  (∀ (d : Nat) (loc : List (Option Value)) (x y : Int32) (st : List Value) (h : MH) (P : MP), mFr d 101 47 loc (.int y :: .int x :: st) h P = if y < x then mFr d 101 50 loc (st) h P else mFr d 101 54 loc (st) h P) := ⟨fun _ _ _ _ _ _ _ _ _ _ _ _ _ => (mFr_S mq101 h101_44).trans rfl,
  fun _ _ _ _ _ => (mFr_S mq101 h101_46).trans rfl,
  fun _ _ _ _ _ _ _ => (F_icmp 54 mq101 h101_47 (by decide)).trans mif_le⟩
theorem E101_50 : (∀ (d : Nat) (loc : List (Option Value)) (st : List Value) (h : MH) (P : MP), mFr d 101 50 loc st h P = mFr d 101 53 loc (.long (-4611686018427387904) :: st) h P) ∧
  (∀ (d : Nat) (loc : List (Option Value)) (x : Int64) (h : MH) (P : MP), mFr d 101 53 loc [.long x] h P = P (some (.long x)) h) := ⟨fun _ _ _ _ _ => (mFr_S mq101 h101_50).trans rfl,
  fun _ _ _ _ _ => (mFr_S mq101 h101_53).trans rfl⟩
theorem E101_54 : (∀ (d : Nat) (loc : List (Option Value)) (st : List Value) (h : MH) (P : MP), mFr d 101 54 loc st h P = mFr d 101 55 loc (.int 0 :: st) h P) ∧
  (∀ (d : Nat) (l0 : Option Value) (l1 : Option Value) (l2 : Option Value) (l3 : Option Value) (l4 : Option Value) (l5 : Option Value) (l6 : Option Value) (l7 : Option Value) (l8 : Option Value) (x : Int32) (st : List Value) (h : MH) (P : MP), mnl l6 = true → mFr d 101 55 [l0, l1, l2, l3, l4, l5, l6, l7, l8] (.int x :: st) h P = mFr d 101 57 [l0, l1, l2, l3, l4, l5, l6, some (.int x), l8] (st) h P) ∧
  (∀ (d : Nat) (loc : List (Option Value)) (st : List Value) (h : MH) (P : MP), mFr d 101 57 loc st h P = mFr d 101 58 loc (.int 0 :: st) h P) ∧
  (∀ (d : Nat) (l0 : Option Value) (l1 : Option Value) (l2 : Option Value) (l3 : Option Value) (l4 : Option Value) (l5 : Option Value) (l6 : Option Value) (l7 : Option Value) (l8 : Option Value) (x : Int32) (st : List Value) (h : MH) (P : MP), mnl l7 = true → mFr d 101 58 [l0, l1, l2, l3, l4, l5, l6, l7, l8] (.int x :: st) h P = mFr d 101 60 [l0, l1, l2, l3, l4, l5, l6, l7, some (.int x)] (st) h P) := ⟨fun _ _ _ _ _ => (mFr_S mq101 h101_54).trans rfl,
  fun _ _ _ _ _ _ _ _ _ _ _ _ _ _ hm => (mFr_S mq101 h101_55).trans (by simp only [mgo.eq_1, mstep, mi1, ml1, mast, mst, mst2, mprev, List.length_cons, List.length_nil, List.getElem?_cons_succ, List.getElem?_cons_zero, hm]; rfl),
  fun _ _ _ _ _ => (mFr_S mq101 h101_57).trans rfl,
  fun _ _ _ _ _ _ _ _ _ _ _ _ _ _ hm => (mFr_S mq101 h101_58).trans (by simp only [mgo.eq_1, mstep, mi1, ml1, mast, mst, mst2, mprev, List.length_cons, List.length_nil, List.getElem?_cons_succ, List.getElem?_cons_zero, hm]; rfl)⟩
theorem E101_60 : (∀ (d : Nat) (l0 : Option Value) (l1 : Option Value) (l2 : Option Value) (l3 : Option Value) (l4 : Option Value) (l5 : Option Value) (l6 : Option Value) (l7 : Option Value) (x : Int32) (st : List Value) (h : MH) (P : MP), mFr d 101 60 [l0, l1, l2, l3, l4, l5, l6, l7, some (.int x)] st h P = mFr d 101 62 [l0, l1, l2, l3, l4, l5, l6, l7, some (.int x)] (.int x :: st) h P) ∧
  (∀ (d : Nat) (l0 : Option Value) (l1 : Option Value) (l3 : Option Value) (l4 : Option Value) (l5 : Option Value) (l6 : Option Value) (l7 : Option Value) (l8 : Option Value) (x : Int32) (st : List Value) (h : MH) (P : MP), mFr d 101 62 [l0, l1, some (.int x), l3, l4, l5, l6, l7, l8] st h P = mFr d 101 63 [l0, l1, some (.int x), l3, l4, l5, l6, l7, l8] (.int x :: st) h P) ∧
  (∀ (d : Nat) (loc : List (Option Value)) (x y : Int32) (st : List Value) (h : MH) (P : MP), mFr d 101 63 loc (.int y :: .int x :: st) h P = if x < y then mFr d 101 66 loc (st) h P else mFr d 101 90 loc (st) h P) := ⟨fun _ _ _ _ _ _ _ _ _ _ _ _ _ => (mFr_S mq101 h101_60).trans rfl,
  fun _ _ _ _ _ _ _ _ _ _ _ _ _ => (mFr_S mq101 h101_62).trans rfl,
  fun _ _ _ _ _ _ _ => (F_icmp 90 mq101 h101_63 (by decide)).trans mif_ge⟩
theorem E101_66 : (∀ (d : Nat) (l1 : Option Value) (l2 : Option Value) (l3 : Option Value) (l4 : Option Value) (l5 : Option Value) (l6 : Option Value) (l7 : Option Value) (l8 : Option Value) (x : Nat) (st : List Value) (h : MH) (P : MP), mFr d 101 66 [some (.ref x), l1, l2, l3, l4, l5, l6, l7, l8] st h P = mFr d 101 67 [some (.ref x), l1, l2, l3, l4, l5, l6, l7, l8] (.ref x :: st) h P) ∧
  (∀ (d : Nat) (l0 : Option Value) (l2 : Option Value) (l3 : Option Value) (l4 : Option Value) (l5 : Option Value) (l6 : Option Value) (l7 : Option Value) (l8 : Option Value) (x : Int32) (st : List Value) (h : MH) (P : MP), mFr d 101 67 [l0, some (.int x), l2, l3, l4, l5, l6, l7, l8] st h P = mFr d 101 68 [l0, some (.int x), l2, l3, l4, l5, l6, l7, l8] (.int x :: st) h P) ∧
  (∀ (d : Nat) (l0 : Option Value) (l1 : Option Value) (l2 : Option Value) (l3 : Option Value) (l4 : Option Value) (l5 : Option Value) (l6 : Option Value) (l7 : Option Value) (x : Int32) (st : List Value) (h : MH) (P : MP), mFr d 101 68 [l0, l1, l2, l3, l4, l5, l6, l7, some (.int x)] st h P = mFr d 101 70 [l0, l1, l2, l3, l4, l5, l6, l7, some (.int x)] (.int x :: st) h P) ∧
  (∀ (d : Nat) (loc : List (Option Value)) (x y : Int32) (st : List Value) (h : MH) (P : MP), mFr d 101 70 loc (.int y :: .int x :: st) h P = mFr d 101 71 loc (.int (x + y) :: st) h P) ∧
  (∀ (d : Nat) (l0 : Option Value) (l1 : Option Value) (l2 : Option Value) (l3 : Option Value) (l4 : Option Value) (l5 : Option Value) (l7 : Option Value) (l8 : Option Value) (x : Nat) (st : List Value) (h : MH) (P : MP), mFr d 101 71 [l0, l1, l2, l3, l4, l5, some (.ref x), l7, l8] st h P = mFr d 101 73 [l0, l1, l2, l3, l4, l5, some (.ref x), l7, l8] (.ref x :: st) h P) ∧
  (∀ (d : Nat) (l0 : Option Value) (l1 : Option Value) (l2 : Option Value) (l3 : Option Value) (l4 : Option Value) (l5 : Option Value) (l7 : Option Value) (l8 : Option Value) (st : List Value) (h : MH) (P : MP), mFr d 101 71 [l0, l1, l2, l3, l4, l5, some .null, l7, l8] st h P = mFr d 101 73 [l0, l1, l2, l3, l4, l5, some .null, l7, l8] (.null :: st) h P) ∧
  (∀ (d : Nat) (loc : List (Option Value)) (b : Nat) (a0 : Int32) (a1 : Nat) (h : MH) (P : MP), mFr d 101 73 loc ((.ref a1) :: (.int a0) :: .ref b :: []) h P = if mrcv h b 8 = true then mRun d 100 [.ref b, .int a0, .ref a1] h (fun v h' => mFr d 101 76 loc (v.toList ++ []) h' P) else False) ∧
  (∀ (d : Nat) (l0 : Option Value) (l1 : Option Value) (l2 : Option Value) (l3 : Option Value) (l5 : Option Value) (l6 : Option Value) (l7 : Option Value) (l8 : Option Value) (x : Int32) (st : List Value) (h : MH) (P : MP), mFr d 101 76 [l0, l1, l2, l3, some (.int x), l5, l6, l7, l8] st h P = mFr d 101 78 [l0, l1, l2, l3, some (.int x), l5, l6, l7, l8] (.int x :: st) h P) ∧
  (∀ (d : Nat) (loc : List (Option Value)) (x y : Int32) (st : List Value) (h : MH) (P : MP), mFr d 101 78 loc (.int y :: .int x :: st) h P = if y < x then mFr d 101 84 loc (st) h P else mFr d 101 81 loc (st) h P) := ⟨fun _ _ _ _ _ _ _ _ _ _ _ _ _ => (mFr_S mq101 h101_66).trans rfl,
  fun _ _ _ _ _ _ _ _ _ _ _ _ _ => (mFr_S mq101 h101_67).trans rfl,
  fun _ _ _ _ _ _ _ _ _ _ _ _ _ => (mFr_S mq101 h101_68).trans rfl,
  fun _ _ _ _ _ _ _ => (mFr_S mq101 h101_70).trans rfl,
  fun _ _ _ _ _ _ _ _ _ _ _ _ _ => (mFr_S mq101 h101_71).trans rfl,
  fun _ _ _ _ _ _ _ _ _ _ _ _ => (mFr_S mq101 h101_71).trans rfl,
  fun _ _ b a0 a1 _ _ => F_callV (as := [.int a0, .ref a1]) (rest := []) mq101 (Or.inl h101_73) (rfl : _ = some (280, 6, 100, 0)) (Or.inl ⟨h101_73, by decide⟩) (by rfl) (by rfl) (by rfl) (Nat.le_of_ble_eq_true rfl),
  fun _ _ _ _ _ _ _ _ _ _ _ _ _ => (mFr_S mq101 h101_76).trans rfl,
  fun _ _ _ _ _ _ _ => (F_icmp 84 mq101 h101_78 (by decide)).trans mif_gt⟩
theorem E101_81 : (∀ (d : Nat) (l0 : Option Value) (l1 : Option Value) (l2 : Option Value) (l3 : Option Value) (l4 : Option Value) (l5 : Option Value) (l6 : Option Value) (l8 : Option Value) (x : Int32) (st : List Value) (h : MH) (P : MP), mnl l6 = true → mFr d 101 81 [l0, l1, l2, l3, l4, l5, l6, some (.int x), l8] st h P = mFr d 101 84 [l0, l1, l2, l3, l4, l5, l6, some (.int (x + 1)), l8] (st) h P) := fun _ _ _ _ _ _ _ _ _ _ _ _ _ hm => (mFr_S mq101 h101_81).trans (by simp only [mgo.eq_1, mstep, mld, mst, mprev, List.length_cons, List.length_nil, List.getElem?_cons_succ, List.getElem?_cons_zero, hm]; rfl)
theorem E101_84 : (∀ (d : Nat) (l0 : Option Value) (l1 : Option Value) (l2 : Option Value) (l3 : Option Value) (l4 : Option Value) (l5 : Option Value) (l6 : Option Value) (l7 : Option Value) (x : Int32) (st : List Value) (h : MH) (P : MP), mnl l7 = true → mFr d 101 84 [l0, l1, l2, l3, l4, l5, l6, l7, some (.int x)] st h P = mFr d 101 87 [l0, l1, l2, l3, l4, l5, l6, l7, some (.int (x + 1))] (st) h P) ∧
  (∀ (d : Nat) (loc : List (Option Value)) (st : List Value) (h : MH) (P : MP), mFr d 101 87 loc st h P = mFr d 101 60 loc (st) h P) := ⟨fun _ _ _ _ _ _ _ _ _ _ _ _ _ hm => (mFr_S mq101 h101_84).trans (by simp only [mgo.eq_1, mstep, mld, mst, mprev, List.length_cons, List.length_nil, List.getElem?_cons_succ, List.getElem?_cons_zero, hm]; rfl),
  fun _ _ _ _ _ => F_goto 60 mq101 h101_87 (by decide)⟩
theorem E101_90 : (∀ (d : Nat) (l0 : Option Value) (l1 : Option Value) (l2 : Option Value) (l3 : Option Value) (l4 : Option Value) (l5 : Option Value) (l6 : Option Value) (l8 : Option Value) (x : Int32) (st : List Value) (h : MH) (P : MP), mFr d 101 90 [l0, l1, l2, l3, l4, l5, l6, some (.int x), l8] st h P = mFr d 101 92 [l0, l1, l2, l3, l4, l5, l6, some (.int x), l8] (.int x :: st) h P) ∧
  (∀ (d : Nat) (l0 : Option Value) (l1 : Option Value) (l3 : Option Value) (l4 : Option Value) (l5 : Option Value) (l6 : Option Value) (l7 : Option Value) (l8 : Option Value) (x : Int32) (st : List Value) (h : MH) (P : MP), mFr d 101 92 [l0, l1, some (.int x), l3, l4, l5, l6, l7, l8] st h P = mFr d 101 93 [l0, l1, some (.int x), l3, l4, l5, l6, l7, l8] (.int x :: st) h P) ∧
  (∀ (d : Nat) (l0 : Option Value) (l1 : Option Value) (l2 : Option Value) (l3 : Option Value) (l4 : Option Value) (l6 : Option Value) (l7 : Option Value) (l8 : Option Value) (x : Int32) (st : List Value) (h : MH) (P : MP), mFr d 101 93 [l0, l1, l2, l3, l4, some (.int x), l6, l7, l8] st h P = mFr d 101 95 [l0, l1, l2, l3, l4, some (.int x), l6, l7, l8] (.int x :: st) h P) ∧
  (∀ (d : Nat) (loc : List (Option Value)) (a0 : Int32) (a1 : Int32) (a2 : Int32) (h : MH) (P : MP), mFr d 101 95 loc ((.int a2) :: (.int a1) :: (.int a0) :: []) h P = mRun d 102 [.int a0, .int a1, .int a2] h (fun v h' => mFr d 101 98 loc (v.toList ++ []) h' P)) ∧
  (∀ (d : Nat) (loc : List (Option Value)) (x : Int32) (st : List Value) (h : MH) (P : MP), mFr d 101 98 loc (.int x :: st) h P = mFr d 101 99 loc (.long x.toInt64 :: st) h P) ∧
  (∀ (d : Nat) (loc : List (Option Value)) (x : Int64) (h : MH) (P : MP), mFr d 101 99 loc [.long x] h P = P (some (.long x)) h) := ⟨fun _ _ _ _ _ _ _ _ _ _ _ _ _ => (mFr_S mq101 h101_90).trans rfl,
  fun _ _ _ _ _ _ _ _ _ _ _ _ _ => (mFr_S mq101 h101_92).trans rfl,
  fun _ _ _ _ _ _ _ _ _ _ _ _ _ => (mFr_S mq101 h101_93).trans rfl,
  fun _ _ a0 a1 a2 _ _ => F_callS (as := [.int a0, .int a1, .int a2]) (rest := []) mq101 h101_95 (rfl : _ = some (289, 6, 102, 2)) (by decide) (by rfl) (by rfl) (by rfl) (Nat.le_of_ble_eq_true rfl),
  fun _ _ _ _ _ _ => (mFr_S mq101 h101_98).trans rfl,
  fun _ _ _ _ _ => (mFr_S mq101 h101_99).trans rfl⟩
theorem B101 : ∀ (d : Nat) (b : Nat) (a0 : Int32) (a1 : Int32) (a2 : Int32) (a3 : Int32) (a4 : Int32) (h : MH) (P : MP), mRun (d + 1) 101 [.ref b, .int a0, .int a1, .int a2, .int a3, .int a4] h P = mFr d 101 0 [some (.ref b), some (.int a0), some (.int a1), some (.int a2), some (.int a3), some (.int a4), none, none, none] [] h P := fun _ _ _ _ _ _ _ _ _ => mRun_S mq101 (Nat.le_of_ble_eq_true rfl)
-- 102: PuncturesAreViews.inLowestTerms(III)I loops at [13]
def q102 : MI := (yX8_inLowestTerms, cX8_inLowestTerms, 5, (some .int), 8, 3)
theorem mq102 : mtab[102]? = some q102 := rfl
theorem h102_0 : mfetch q102.2.1 0 = some (.iload_n 2) := by decide +kernel
theorem h102_1 : mfetch q102.2.1 1 = some (.ifCond .ne 7) := by decide +kernel
theorem h102_4 : mfetch q102.2.1 4 = some (.iload_n 0) := by decide +kernel
theorem h102_5 : mfetch q102.2.1 5 = some (.goto 4) := by decide +kernel
theorem h102_8 : mfetch q102.2.1 8 = some (.iload_n 1) := by decide +kernel
theorem h102_9 : mfetch q102.2.1 9 = some (.istore_n 3) := by decide +kernel
theorem h102_10 : mfetch q102.2.1 10 = some (.iload_n 1) := by decide +kernel
theorem h102_11 : mfetch q102.2.1 11 = some (.istore 4) := by decide +kernel
theorem h102_13 : mfetch q102.2.1 13 = some (.iload 4) := by decide +kernel
theorem h102_15 : mfetch q102.2.1 15 = some (.iconst 1) := by decide +kernel
theorem h102_16 : mfetch q102.2.1 16 = some (.if_icmp .le 28) := by decide +kernel
theorem h102_19 : mfetch q102.2.1 19 = some (.iload_n 0) := by decide +kernel
theorem h102_20 : mfetch q102.2.1 20 = some (.iload 4) := by decide +kernel
theorem h102_22 : mfetch q102.2.1 22 = some (.irem) := by decide +kernel
theorem h102_23 : mfetch q102.2.1 23 = some (.ifCond .ne 15) := by decide +kernel
theorem h102_26 : mfetch q102.2.1 26 = some (.iload_n 1) := by decide +kernel
theorem h102_27 : mfetch q102.2.1 27 = some (.iload 4) := by decide +kernel
theorem h102_29 : mfetch q102.2.1 29 = some (.irem) := by decide +kernel
theorem h102_30 : mfetch q102.2.1 30 = some (.ifCond .ne 8) := by decide +kernel
theorem h102_33 : mfetch q102.2.1 33 = some (.iload_n 3) := by decide +kernel
theorem h102_34 : mfetch q102.2.1 34 = some (.iload 4) := by decide +kernel
theorem h102_36 : mfetch q102.2.1 36 = some (.idiv) := by decide +kernel
theorem h102_37 : mfetch q102.2.1 37 = some (.ireturn) := by decide +kernel
theorem h102_38 : mfetch q102.2.1 38 = some (.iinc 4 (-1)) := by decide +kernel
theorem h102_41 : mfetch q102.2.1 41 = some (.goto (-28)) := by decide +kernel
theorem h102_44 : mfetch q102.2.1 44 = some (.iload_n 3) := by decide +kernel
theorem h102_45 : mfetch q102.2.1 45 = some (.ireturn) := by decide +kernel
theorem E102_0 : (∀ (d : Nat) (l0 : Option Value) (l1 : Option Value) (l3 : Option Value) (l4 : Option Value) (x : Int32) (st : List Value) (h : MH) (P : MP), mFr d 102 0 [l0, l1, some (.int x), l3, l4] st h P = mFr d 102 1 [l0, l1, some (.int x), l3, l4] (.int x :: st) h P) ∧
  (∀ (d : Nat) (loc : List (Option Value)) (x : Int32) (st : List Value) (h : MH) (P : MP), mFr d 102 1 loc (.int x :: st) h P = if x = 0 then mFr d 102 4 loc (st) h P else mFr d 102 8 loc (st) h P) := ⟨fun _ _ _ _ _ _ _ _ _ => (mFr_S mq102 h102_0).trans rfl,
  fun _ _ _ _ _ _ => (F_ifz 8 mq102 h102_1 (by decide)).trans mif_ne⟩
theorem E102_4 : (∀ (d : Nat) (l1 : Option Value) (l2 : Option Value) (l3 : Option Value) (l4 : Option Value) (x : Int32) (st : List Value) (h : MH) (P : MP), mFr d 102 4 [some (.int x), l1, l2, l3, l4] st h P = mFr d 102 5 [some (.int x), l1, l2, l3, l4] (.int x :: st) h P) ∧
  (∀ (d : Nat) (loc : List (Option Value)) (st : List Value) (h : MH) (P : MP), mFr d 102 5 loc st h P = mFr d 102 9 loc (st) h P) := ⟨fun _ _ _ _ _ _ _ _ _ => (mFr_S mq102 h102_4).trans rfl,
  fun _ _ _ _ _ => F_goto 9 mq102 h102_5 (by decide)⟩
theorem E102_8 : (∀ (d : Nat) (l0 : Option Value) (l2 : Option Value) (l3 : Option Value) (l4 : Option Value) (x : Int32) (st : List Value) (h : MH) (P : MP), mFr d 102 8 [l0, some (.int x), l2, l3, l4] st h P = mFr d 102 9 [l0, some (.int x), l2, l3, l4] (.int x :: st) h P) := fun _ _ _ _ _ _ _ _ _ => (mFr_S mq102 h102_8).trans rfl
theorem E102_9 : (∀ (d : Nat) (l0 : Option Value) (l1 : Option Value) (l2 : Option Value) (l3 : Option Value) (l4 : Option Value) (x : Int32) (st : List Value) (h : MH) (P : MP), mnl l2 = true → mFr d 102 9 [l0, l1, l2, l3, l4] (.int x :: st) h P = mFr d 102 10 [l0, l1, l2, some (.int x), l4] (st) h P) ∧
  (∀ (d : Nat) (l0 : Option Value) (l2 : Option Value) (l3 : Option Value) (l4 : Option Value) (x : Int32) (st : List Value) (h : MH) (P : MP), mFr d 102 10 [l0, some (.int x), l2, l3, l4] st h P = mFr d 102 11 [l0, some (.int x), l2, l3, l4] (.int x :: st) h P) ∧
  (∀ (d : Nat) (l0 : Option Value) (l1 : Option Value) (l2 : Option Value) (l3 : Option Value) (l4 : Option Value) (x : Int32) (st : List Value) (h : MH) (P : MP), mnl l3 = true → mFr d 102 11 [l0, l1, l2, l3, l4] (.int x :: st) h P = mFr d 102 13 [l0, l1, l2, l3, some (.int x)] (st) h P) := ⟨fun _ _ _ _ _ _ _ _ _ _ hm => (mFr_S mq102 h102_9).trans (by simp only [mgo.eq_1, mstep, mi1, ml1, mast, mst, mst2, mprev, List.length_cons, List.length_nil, List.getElem?_cons_succ, List.getElem?_cons_zero, hm]; rfl),
  fun _ _ _ _ _ _ _ _ _ => (mFr_S mq102 h102_10).trans rfl,
  fun _ _ _ _ _ _ _ _ _ _ hm => (mFr_S mq102 h102_11).trans (by simp only [mgo.eq_1, mstep, mi1, ml1, mast, mst, mst2, mprev, List.length_cons, List.length_nil, List.getElem?_cons_succ, List.getElem?_cons_zero, hm]; rfl)⟩
theorem E102_13 : (∀ (d : Nat) (l0 : Option Value) (l1 : Option Value) (l2 : Option Value) (l3 : Option Value) (x : Int32) (st : List Value) (h : MH) (P : MP), mFr d 102 13 [l0, l1, l2, l3, some (.int x)] st h P = mFr d 102 15 [l0, l1, l2, l3, some (.int x)] (.int x :: st) h P) ∧
  (∀ (d : Nat) (loc : List (Option Value)) (st : List Value) (h : MH) (P : MP), mFr d 102 15 loc st h P = mFr d 102 16 loc (.int 1 :: st) h P) ∧
  (∀ (d : Nat) (loc : List (Option Value)) (x y : Int32) (st : List Value) (h : MH) (P : MP), mFr d 102 16 loc (.int y :: .int x :: st) h P = if y < x then mFr d 102 19 loc (st) h P else mFr d 102 44 loc (st) h P) := ⟨fun _ _ _ _ _ _ _ _ _ => (mFr_S mq102 h102_13).trans rfl,
  fun _ _ _ _ _ => (mFr_S mq102 h102_15).trans rfl,
  fun _ _ _ _ _ _ _ => (F_icmp 44 mq102 h102_16 (by decide)).trans mif_le⟩
theorem E102_19 : (∀ (d : Nat) (l1 : Option Value) (l2 : Option Value) (l3 : Option Value) (l4 : Option Value) (x : Int32) (st : List Value) (h : MH) (P : MP), mFr d 102 19 [some (.int x), l1, l2, l3, l4] st h P = mFr d 102 20 [some (.int x), l1, l2, l3, l4] (.int x :: st) h P) ∧
  (∀ (d : Nat) (l0 : Option Value) (l1 : Option Value) (l2 : Option Value) (l3 : Option Value) (x : Int32) (st : List Value) (h : MH) (P : MP), mFr d 102 20 [l0, l1, l2, l3, some (.int x)] st h P = mFr d 102 22 [l0, l1, l2, l3, some (.int x)] (.int x :: st) h P) ∧
  (∀ (d : Nat) (loc : List (Option Value)) (x y : Int32) (st : List Value) (h : MH) (P : MP), mFr d 102 22 loc (.int y :: .int x :: st) h P = if y = 0 then False else mFr d 102 23 loc (.int (x - x / y * y) :: st) h P) ∧
  (∀ (d : Nat) (loc : List (Option Value)) (x : Int32) (st : List Value) (h : MH) (P : MP), mFr d 102 23 loc (.int x :: st) h P = if x = 0 then mFr d 102 26 loc (st) h P else mFr d 102 38 loc (st) h P) := ⟨fun _ _ _ _ _ _ _ _ _ => (mFr_S mq102 h102_19).trans rfl,
  fun _ _ _ _ _ _ _ _ _ => (mFr_S mq102 h102_20).trans rfl,
  fun _ _ _ _ _ _ _ => F_rem mq102 h102_22,
  fun _ _ _ _ _ _ => (F_ifz 38 mq102 h102_23 (by decide)).trans mif_ne⟩
theorem E102_26 : (∀ (d : Nat) (l0 : Option Value) (l2 : Option Value) (l3 : Option Value) (l4 : Option Value) (x : Int32) (st : List Value) (h : MH) (P : MP), mFr d 102 26 [l0, some (.int x), l2, l3, l4] st h P = mFr d 102 27 [l0, some (.int x), l2, l3, l4] (.int x :: st) h P) ∧
  (∀ (d : Nat) (l0 : Option Value) (l1 : Option Value) (l2 : Option Value) (l3 : Option Value) (x : Int32) (st : List Value) (h : MH) (P : MP), mFr d 102 27 [l0, l1, l2, l3, some (.int x)] st h P = mFr d 102 29 [l0, l1, l2, l3, some (.int x)] (.int x :: st) h P) ∧
  (∀ (d : Nat) (loc : List (Option Value)) (x y : Int32) (st : List Value) (h : MH) (P : MP), mFr d 102 29 loc (.int y :: .int x :: st) h P = if y = 0 then False else mFr d 102 30 loc (.int (x - x / y * y) :: st) h P) ∧
  (∀ (d : Nat) (loc : List (Option Value)) (x : Int32) (st : List Value) (h : MH) (P : MP), mFr d 102 30 loc (.int x :: st) h P = if x = 0 then mFr d 102 33 loc (st) h P else mFr d 102 38 loc (st) h P) := ⟨fun _ _ _ _ _ _ _ _ _ => (mFr_S mq102 h102_26).trans rfl,
  fun _ _ _ _ _ _ _ _ _ => (mFr_S mq102 h102_27).trans rfl,
  fun _ _ _ _ _ _ _ => F_rem mq102 h102_29,
  fun _ _ _ _ _ _ => (F_ifz 38 mq102 h102_30 (by decide)).trans mif_ne⟩
theorem E102_33 : (∀ (d : Nat) (l0 : Option Value) (l1 : Option Value) (l2 : Option Value) (l4 : Option Value) (x : Int32) (st : List Value) (h : MH) (P : MP), mFr d 102 33 [l0, l1, l2, some (.int x), l4] st h P = mFr d 102 34 [l0, l1, l2, some (.int x), l4] (.int x :: st) h P) ∧
  (∀ (d : Nat) (l0 : Option Value) (l1 : Option Value) (l2 : Option Value) (l3 : Option Value) (x : Int32) (st : List Value) (h : MH) (P : MP), mFr d 102 34 [l0, l1, l2, l3, some (.int x)] st h P = mFr d 102 36 [l0, l1, l2, l3, some (.int x)] (.int x :: st) h P) ∧
  (∀ (d : Nat) (loc : List (Option Value)) (x y : Int32) (st : List Value) (h : MH) (P : MP), mFr d 102 36 loc (.int y :: .int x :: st) h P = if y = 0 then False else mFr d 102 37 loc (.int (x / y) :: st) h P) ∧
  (∀ (d : Nat) (loc : List (Option Value)) (x : Int32) (h : MH) (P : MP), mFr d 102 37 loc [.int x] h P = P (some (.int x)) h) := ⟨fun _ _ _ _ _ _ _ _ _ => (mFr_S mq102 h102_33).trans rfl,
  fun _ _ _ _ _ _ _ _ _ => (mFr_S mq102 h102_34).trans rfl,
  fun _ _ _ _ _ _ _ => F_div mq102 h102_36,
  fun _ _ _ _ _ => F_ret mq102 h102_37 rfl rfl⟩
theorem E102_38 : (∀ (d : Nat) (l0 : Option Value) (l1 : Option Value) (l2 : Option Value) (l3 : Option Value) (x : Int32) (st : List Value) (h : MH) (P : MP), mnl l3 = true → mFr d 102 38 [l0, l1, l2, l3, some (.int x)] st h P = mFr d 102 41 [l0, l1, l2, l3, some (.int (x + (-1)))] (st) h P) ∧
  (∀ (d : Nat) (loc : List (Option Value)) (st : List Value) (h : MH) (P : MP), mFr d 102 41 loc st h P = mFr d 102 13 loc (st) h P) := ⟨fun _ _ _ _ _ _ _ _ _ hm => (mFr_S mq102 h102_38).trans (by simp only [mgo.eq_1, mstep, mld, mst, mprev, List.length_cons, List.length_nil, List.getElem?_cons_succ, List.getElem?_cons_zero, hm]; rfl),
  fun _ _ _ _ _ => F_goto 13 mq102 h102_41 (by decide)⟩
theorem E102_44 : (∀ (d : Nat) (l0 : Option Value) (l1 : Option Value) (l2 : Option Value) (l4 : Option Value) (x : Int32) (st : List Value) (h : MH) (P : MP), mFr d 102 44 [l0, l1, l2, some (.int x), l4] st h P = mFr d 102 45 [l0, l1, l2, some (.int x), l4] (.int x :: st) h P) ∧
  (∀ (d : Nat) (loc : List (Option Value)) (x : Int32) (h : MH) (P : MP), mFr d 102 45 loc [.int x] h P = P (some (.int x)) h) := ⟨fun _ _ _ _ _ _ _ _ _ => (mFr_S mq102 h102_44).trans rfl,
  fun _ _ _ _ _ => F_ret mq102 h102_45 rfl rfl⟩
theorem B102 : ∀ (d : Nat) (a0 : Int32) (a1 : Int32) (a2 : Int32) (h : MH) (P : MP), mRun (d + 1) 102 [.int a0, .int a1, .int a2] h P = mFr d 102 0 [some (.int a0), some (.int a1), some (.int a2), none, none] [] h P := fun _ _ _ _ _ _ => mRun_S mq102 (Nat.le_of_ble_eq_true rfl)
-- 103: PuncturesAreViews.image()I
def q103 : MI := (yX8_image, cX8_image, 1, (some .int), 8, 0)
theorem mq103 : mtab[103]? = some q103 := rfl
theorem h103_0 : mfetch q103.2.1 0 = some (.aload_n 0) := by decide +kernel
theorem h103_1 : mfetch q103.2.1 1 = some (.getfield 104) := by decide +kernel
theorem h103_4 : mfetch q103.2.1 4 = some (.aload_n 0) := by decide +kernel
theorem h103_5 : mfetch q103.2.1 5 = some (.getfield 100) := by decide +kernel
theorem h103_8 : mfetch q103.2.1 8 = some (.invokevirtual 206) := by decide +kernel
theorem h103_11 : mfetch q103.2.1 11 = some (.aload_n 0) := by decide +kernel
theorem h103_12 : mfetch q103.2.1 12 = some (.getfield 29) := by decide +kernel
theorem h103_15 : mfetch q103.2.1 15 = some (.aload_n 0) := by decide +kernel
theorem h103_16 : mfetch q103.2.1 16 = some (.getfield 25) := by decide +kernel
theorem h103_19 : mfetch q103.2.1 19 = some (.invokevirtual 292) := by decide +kernel
theorem h103_22 : mfetch q103.2.1 22 = some (.aload_n 0) := by decide +kernel
theorem h103_23 : mfetch q103.2.1 23 = some (.iconst 1) := by decide +kernel
theorem h103_24 : mfetch q103.2.1 24 = some (.putfield 295) := by decide +kernel
theorem h103_27 : mfetch q103.2.1 27 = some (.aload_n 0) := by decide +kernel
theorem h103_28 : mfetch q103.2.1 28 = some (.getfield 25) := by decide +kernel
theorem h103_31 : mfetch q103.2.1 31 = some (.getfield 226) := by decide +kernel
theorem h103_34 : mfetch q103.2.1 34 = some (.ireturn) := by decide +kernel
theorem E103_0 : (∀ (d : Nat) (x : Nat) (st : List Value) (h : MH) (P : MP), mFr d 103 0 [some (.ref x)] st h P = mFr d 103 1 [some (.ref x)] (.ref x :: st) h P) ∧
  (∀ (d : Nat) (loc : List (Option Value)) (a : Nat) (st : List Value) (h : MH) (P : MP), mFr d 103 1 loc (.ref a :: st) h P = pget h a 8 6 (fun v => mFr d 103 4 loc (v :: st) h P)) ∧
  (∀ (d : Nat) (x : Nat) (st : List Value) (h : MH) (P : MP), mFr d 103 4 [some (.ref x)] st h P = mFr d 103 5 [some (.ref x)] (.ref x :: st) h P) ∧
  (∀ (d : Nat) (loc : List (Option Value)) (a : Nat) (st : List Value) (h : MH) (P : MP), mFr d 103 5 loc (.ref a :: st) h P = pget h a 8 4 (fun v => mFr d 103 8 loc (v :: st) h P)) ∧
  (∀ (d : Nat) (loc : List (Option Value)) (b : Nat) (a0 : Nat) (h : MH) (P : MP), mFr d 103 8 loc ((.ref a0) :: .ref b :: []) h P = if mrcv h b 2 = true then mRun d 20 [.ref b, .ref a0] h (fun v h' => mFr d 103 11 loc (v.toList ++ []) h' P) else False) ∧
  (∀ (d : Nat) (x : Nat) (st : List Value) (h : MH) (P : MP), mFr d 103 11 [some (.ref x)] st h P = mFr d 103 12 [some (.ref x)] (.ref x :: st) h P) ∧
  (∀ (d : Nat) (loc : List (Option Value)) (a : Nat) (st : List Value) (h : MH) (P : MP), mFr d 103 12 loc (.ref a :: st) h P = pget h a 8 7 (fun v => mFr d 103 15 loc (v :: st) h P)) ∧
  (∀ (d : Nat) (x : Nat) (st : List Value) (h : MH) (P : MP), mFr d 103 15 [some (.ref x)] st h P = mFr d 103 16 [some (.ref x)] (.ref x :: st) h P) ∧
  (∀ (d : Nat) (loc : List (Option Value)) (a : Nat) (st : List Value) (h : MH) (P : MP), mFr d 103 16 loc (.ref a :: st) h P = pget h a 8 5 (fun v => mFr d 103 19 loc (v :: st) h P)) ∧
  (∀ (d : Nat) (loc : List (Option Value)) (b : Nat) (a0 : Nat) (h : MH) (P : MP), mFr d 103 19 loc ((.ref a0) :: .ref b :: []) h P = if mrcv h b 0 = true then mRun d 3 [.ref b, .ref a0] h (fun v h' => mFr d 103 22 loc (v.toList ++ []) h' P) else False) ∧
  (∀ (d : Nat) (x : Nat) (st : List Value) (h : MH) (P : MP), mFr d 103 22 [some (.ref x)] st h P = mFr d 103 23 [some (.ref x)] (.ref x :: st) h P) ∧
  (∀ (d : Nat) (loc : List (Option Value)) (st : List Value) (h : MH) (P : MP), mFr d 103 23 loc st h P = mFr d 103 24 loc (.int 1 :: st) h P) ∧
  (∀ (d : Nat) (loc : List (Option Value)) (a : Nat) (x : Int32) (st : List Value) (h : MH) (P : MP), mFr d 103 24 loc (.int x :: .ref a :: st) h P = pput h a 8 8 (.int x) (fun h' => mFr d 103 27 loc (st) h' P)) ∧
  (∀ (d : Nat) (x : Nat) (st : List Value) (h : MH) (P : MP), mFr d 103 27 [some (.ref x)] st h P = mFr d 103 28 [some (.ref x)] (.ref x :: st) h P) ∧
  (∀ (d : Nat) (loc : List (Option Value)) (a : Nat) (st : List Value) (h : MH) (P : MP), mFr d 103 28 loc (.ref a :: st) h P = pget h a 8 5 (fun v => mFr d 103 31 loc (v :: st) h P)) ∧
  (∀ (d : Nat) (loc : List (Option Value)) (a : Nat) (st : List Value) (h : MH) (P : MP), mFr d 103 31 loc (.ref a :: st) h P = pget h a 0 1 (fun v => mFr d 103 34 loc (v :: st) h P)) ∧
  (∀ (d : Nat) (loc : List (Option Value)) (x : Int32) (h : MH) (P : MP), mFr d 103 34 loc [.int x] h P = P (some (.int x)) h) := ⟨fun _ _ _ _ _ => (mFr_S mq103 h103_0).trans rfl,
  fun _ _ _ _ _ _ => F_get mq103 h103_1 (Or.inl (rfl : _ = some (104, 0, 8, 6))),
  fun _ _ _ _ _ => (mFr_S mq103 h103_4).trans rfl,
  fun _ _ _ _ _ _ => F_get mq103 h103_5 (Or.inl (rfl : _ = some (100, 0, 8, 4))),
  fun _ _ b a0 _ _ => F_callV (as := [.ref a0]) (rest := []) mq103 (Or.inl h103_8) (rfl : _ = some (206, 6, 20, 1)) (Or.inl ⟨h103_8, by decide⟩) (by rfl) (by rfl) (by rfl) (Nat.le_of_ble_eq_true rfl),
  fun _ _ _ _ _ => (mFr_S mq103 h103_11).trans rfl,
  fun _ _ _ _ _ _ => F_get mq103 h103_12 (Or.inl (rfl : _ = some (29, 0, 8, 7))),
  fun _ _ _ _ _ => (mFr_S mq103 h103_15).trans rfl,
  fun _ _ _ _ _ _ => F_get mq103 h103_16 (Or.inl (rfl : _ = some (25, 0, 8, 5))),
  fun _ _ b a0 _ _ => F_callV (as := [.ref a0]) (rest := []) mq103 (Or.inl h103_19) (rfl : _ = some (292, 6, 3, 1)) (Or.inl ⟨h103_19, by decide⟩) (by rfl) (by rfl) (by rfl) (Nat.le_of_ble_eq_true rfl),
  fun _ _ _ _ _ => (mFr_S mq103 h103_22).trans rfl,
  fun _ _ _ _ _ => (mFr_S mq103 h103_23).trans rfl,
  fun _ _ _ _ _ _ _ => F_put mq103 h103_24 (Or.inl ⟨(rfl : _ = some (295, 0, 8, 8)), Or.inl rfl⟩),
  fun _ _ _ _ _ => (mFr_S mq103 h103_27).trans rfl,
  fun _ _ _ _ _ _ => F_get mq103 h103_28 (Or.inl (rfl : _ = some (25, 0, 8, 5))),
  fun _ _ _ _ _ _ => F_get mq103 h103_31 (Or.inr (rfl : _ = some (226, 1, 0, 1))),
  fun _ _ _ _ _ => F_ret mq103 h103_34 rfl rfl⟩
theorem B103 : ∀ (d : Nat) (b : Nat) (h : MH) (P : MP), mRun (d + 1) 103 [.ref b] h P = mFr d 103 0 [some (.ref b)] [] h P := fun _ _ _ _ => mRun_S mq103 (Nat.le_of_ble_eq_true rfl)
-- 104: PuncturesAreViews.back()I
def q104 : MI := (yX8_back, cX8_back, 1, (some .int), 8, 0)
theorem mq104 : mtab[104]? = some q104 := rfl
theorem h104_0 : mfetch q104.2.1 0 = some (.aload_n 0) := by decide +kernel
theorem h104_1 : mfetch q104.2.1 1 = some (.getfield 295) := by decide +kernel
theorem h104_4 : mfetch q104.2.1 4 = some (.ifCond .ne 6) := by decide +kernel
theorem h104_7 : mfetch q104.2.1 7 = some (.bipush (-3)) := by decide +kernel
theorem h104_9 : mfetch q104.2.1 9 = some (.ireturn) := by decide +kernel
theorem h104_10 : mfetch q104.2.1 10 = some (.aload_n 0) := by decide +kernel
theorem h104_11 : mfetch q104.2.1 11 = some (.getfield 100) := by decide +kernel
theorem h104_14 : mfetch q104.2.1 14 = some (.aload_n 0) := by decide +kernel
theorem h104_15 : mfetch q104.2.1 15 = some (.getfield 104) := by decide +kernel
theorem h104_18 : mfetch q104.2.1 18 = some (.invokevirtual 206) := by decide +kernel
theorem h104_21 : mfetch q104.2.1 21 = some (.aload_n 0) := by decide +kernel
theorem h104_22 : mfetch q104.2.1 22 = some (.getfield 25) := by decide +kernel
theorem h104_25 : mfetch q104.2.1 25 = some (.aload_n 0) := by decide +kernel
theorem h104_26 : mfetch q104.2.1 26 = some (.getfield 29) := by decide +kernel
theorem h104_29 : mfetch q104.2.1 29 = some (.invokevirtual 292) := by decide +kernel
theorem h104_32 : mfetch q104.2.1 32 = some (.aload_n 0) := by decide +kernel
theorem h104_33 : mfetch q104.2.1 33 = some (.getfield 25) := by decide +kernel
theorem h104_36 : mfetch q104.2.1 36 = some (.getfield 226) := by decide +kernel
theorem h104_39 : mfetch q104.2.1 39 = some (.ireturn) := by decide +kernel
theorem E104_0 : (∀ (d : Nat) (x : Nat) (st : List Value) (h : MH) (P : MP), mFr d 104 0 [some (.ref x)] st h P = mFr d 104 1 [some (.ref x)] (.ref x :: st) h P) ∧
  (∀ (d : Nat) (loc : List (Option Value)) (a : Nat) (st : List Value) (h : MH) (P : MP), mFr d 104 1 loc (.ref a :: st) h P = pget h a 8 8 (fun v => mFr d 104 4 loc (v :: st) h P)) ∧
  (∀ (d : Nat) (loc : List (Option Value)) (x : Int32) (st : List Value) (h : MH) (P : MP), mFr d 104 4 loc (.int x :: st) h P = if x = 0 then mFr d 104 7 loc (st) h P else mFr d 104 10 loc (st) h P) := ⟨fun _ _ _ _ _ => (mFr_S mq104 h104_0).trans rfl,
  fun _ _ _ _ _ _ => F_get mq104 h104_1 (Or.inl (rfl : _ = some (295, 0, 8, 8))),
  fun _ _ _ _ _ _ => (F_ifz 10 mq104 h104_4 (by decide)).trans mif_ne⟩
theorem E104_7 : (∀ (d : Nat) (loc : List (Option Value)) (st : List Value) (h : MH) (P : MP), mFr d 104 7 loc st h P = mFr d 104 9 loc (.int (-3) :: st) h P) ∧
  (∀ (d : Nat) (loc : List (Option Value)) (x : Int32) (h : MH) (P : MP), mFr d 104 9 loc [.int x] h P = P (some (.int x)) h) := ⟨fun _ _ _ _ _ => (mFr_S mq104 h104_7).trans rfl,
  fun _ _ _ _ _ => F_ret mq104 h104_9 rfl rfl⟩
theorem E104_10 : (∀ (d : Nat) (x : Nat) (st : List Value) (h : MH) (P : MP), mFr d 104 10 [some (.ref x)] st h P = mFr d 104 11 [some (.ref x)] (.ref x :: st) h P) ∧
  (∀ (d : Nat) (loc : List (Option Value)) (a : Nat) (st : List Value) (h : MH) (P : MP), mFr d 104 11 loc (.ref a :: st) h P = pget h a 8 4 (fun v => mFr d 104 14 loc (v :: st) h P)) ∧
  (∀ (d : Nat) (x : Nat) (st : List Value) (h : MH) (P : MP), mFr d 104 14 [some (.ref x)] st h P = mFr d 104 15 [some (.ref x)] (.ref x :: st) h P) ∧
  (∀ (d : Nat) (loc : List (Option Value)) (a : Nat) (st : List Value) (h : MH) (P : MP), mFr d 104 15 loc (.ref a :: st) h P = pget h a 8 6 (fun v => mFr d 104 18 loc (v :: st) h P)) ∧
  (∀ (d : Nat) (loc : List (Option Value)) (b : Nat) (a0 : Nat) (h : MH) (P : MP), mFr d 104 18 loc ((.ref a0) :: .ref b :: []) h P = if mrcv h b 2 = true then mRun d 20 [.ref b, .ref a0] h (fun v h' => mFr d 104 21 loc (v.toList ++ []) h' P) else False) ∧
  (∀ (d : Nat) (x : Nat) (st : List Value) (h : MH) (P : MP), mFr d 104 21 [some (.ref x)] st h P = mFr d 104 22 [some (.ref x)] (.ref x :: st) h P) ∧
  (∀ (d : Nat) (loc : List (Option Value)) (a : Nat) (st : List Value) (h : MH) (P : MP), mFr d 104 22 loc (.ref a :: st) h P = pget h a 8 5 (fun v => mFr d 104 25 loc (v :: st) h P)) ∧
  (∀ (d : Nat) (x : Nat) (st : List Value) (h : MH) (P : MP), mFr d 104 25 [some (.ref x)] st h P = mFr d 104 26 [some (.ref x)] (.ref x :: st) h P) ∧
  (∀ (d : Nat) (loc : List (Option Value)) (a : Nat) (st : List Value) (h : MH) (P : MP), mFr d 104 26 loc (.ref a :: st) h P = pget h a 8 7 (fun v => mFr d 104 29 loc (v :: st) h P)) ∧
  (∀ (d : Nat) (loc : List (Option Value)) (b : Nat) (a0 : Nat) (h : MH) (P : MP), mFr d 104 29 loc ((.ref a0) :: .ref b :: []) h P = if mrcv h b 0 = true then mRun d 3 [.ref b, .ref a0] h (fun v h' => mFr d 104 32 loc (v.toList ++ []) h' P) else False) ∧
  (∀ (d : Nat) (x : Nat) (st : List Value) (h : MH) (P : MP), mFr d 104 32 [some (.ref x)] st h P = mFr d 104 33 [some (.ref x)] (.ref x :: st) h P) ∧
  (∀ (d : Nat) (loc : List (Option Value)) (a : Nat) (st : List Value) (h : MH) (P : MP), mFr d 104 33 loc (.ref a :: st) h P = pget h a 8 5 (fun v => mFr d 104 36 loc (v :: st) h P)) ∧
  (∀ (d : Nat) (loc : List (Option Value)) (a : Nat) (st : List Value) (h : MH) (P : MP), mFr d 104 36 loc (.ref a :: st) h P = pget h a 0 1 (fun v => mFr d 104 39 loc (v :: st) h P)) ∧
  (∀ (d : Nat) (loc : List (Option Value)) (x : Int32) (h : MH) (P : MP), mFr d 104 39 loc [.int x] h P = P (some (.int x)) h) := ⟨fun _ _ _ _ _ => (mFr_S mq104 h104_10).trans rfl,
  fun _ _ _ _ _ _ => F_get mq104 h104_11 (Or.inl (rfl : _ = some (100, 0, 8, 4))),
  fun _ _ _ _ _ => (mFr_S mq104 h104_14).trans rfl,
  fun _ _ _ _ _ _ => F_get mq104 h104_15 (Or.inl (rfl : _ = some (104, 0, 8, 6))),
  fun _ _ b a0 _ _ => F_callV (as := [.ref a0]) (rest := []) mq104 (Or.inl h104_18) (rfl : _ = some (206, 6, 20, 1)) (Or.inl ⟨h104_18, by decide⟩) (by rfl) (by rfl) (by rfl) (Nat.le_of_ble_eq_true rfl),
  fun _ _ _ _ _ => (mFr_S mq104 h104_21).trans rfl,
  fun _ _ _ _ _ _ => F_get mq104 h104_22 (Or.inl (rfl : _ = some (25, 0, 8, 5))),
  fun _ _ _ _ _ => (mFr_S mq104 h104_25).trans rfl,
  fun _ _ _ _ _ _ => F_get mq104 h104_26 (Or.inl (rfl : _ = some (29, 0, 8, 7))),
  fun _ _ b a0 _ _ => F_callV (as := [.ref a0]) (rest := []) mq104 (Or.inl h104_29) (rfl : _ = some (292, 6, 3, 1)) (Or.inl ⟨h104_29, by decide⟩) (by rfl) (by rfl) (by rfl) (Nat.le_of_ble_eq_true rfl),
  fun _ _ _ _ _ => (mFr_S mq104 h104_32).trans rfl,
  fun _ _ _ _ _ _ => F_get mq104 h104_33 (Or.inl (rfl : _ = some (25, 0, 8, 5))),
  fun _ _ _ _ _ _ => F_get mq104 h104_36 (Or.inr (rfl : _ = some (226, 1, 0, 1))),
  fun _ _ _ _ _ => F_ret mq104 h104_39 rfl rfl⟩
theorem B104 : ∀ (d : Nat) (b : Nat) (h : MH) (P : MP), mRun (d + 1) 104 [.ref b] h P = mFr d 104 0 [some (.ref b)] [] h P := fun _ _ _ _ => mRun_S mq104 (Nat.le_of_ble_eq_true rfl)
-- 105: PuncturesAreViews.count(I)I
def q105 : MI := (yX8_count, cX8_count, 2, (some .int), 8, 1)
theorem mq105 : mtab[105]? = some q105 := rfl
theorem h105_0 : mfetch q105.2.1 0 = some (.iload_n 1) := by decide +kernel
theorem h105_1 : mfetch q105.2.1 1 = some (.tableswitch 87 0 5 #[39, 47, 55, 63, 68, 76]) := by decide +kernel
theorem h105_40 : mfetch q105.2.1 40 = some (.aload_n 0) := by decide +kernel
theorem h105_41 : mfetch q105.2.1 41 = some (.getfield 25) := by decide +kernel
theorem h105_44 : mfetch q105.2.1 44 = some (.getfield 226) := by decide +kernel
theorem h105_47 : mfetch q105.2.1 47 = some (.ireturn) := by decide +kernel
theorem h105_48 : mfetch q105.2.1 48 = some (.aload_n 0) := by decide +kernel
theorem h105_49 : mfetch q105.2.1 49 = some (.getfield 25) := by decide +kernel
theorem h105_52 : mfetch q105.2.1 52 = some (.invokevirtual 191) := by decide +kernel
theorem h105_55 : mfetch q105.2.1 55 = some (.ireturn) := by decide +kernel
theorem h105_56 : mfetch q105.2.1 56 = some (.aload_n 0) := by decide +kernel
theorem h105_57 : mfetch q105.2.1 57 = some (.getfield 25) := by decide +kernel
theorem h105_60 : mfetch q105.2.1 60 = some (.invokevirtual 239) := by decide +kernel
theorem h105_63 : mfetch q105.2.1 63 = some (.ireturn) := by decide +kernel
theorem h105_64 : mfetch q105.2.1 64 = some (.aload_n 0) := by decide +kernel
theorem h105_65 : mfetch q105.2.1 65 = some (.getfield 92) := by decide +kernel
theorem h105_68 : mfetch q105.2.1 68 = some (.ireturn) := by decide +kernel
theorem h105_69 : mfetch q105.2.1 69 = some (.aload_n 0) := by decide +kernel
theorem h105_70 : mfetch q105.2.1 70 = some (.getfield 18) := by decide +kernel
theorem h105_73 : mfetch q105.2.1 73 = some (.getfield 88) := by decide +kernel
theorem h105_76 : mfetch q105.2.1 76 = some (.ireturn) := by decide +kernel
theorem h105_77 : mfetch q105.2.1 77 = some (.aload_n 0) := by decide +kernel
theorem h105_78 : mfetch q105.2.1 78 = some (.getfield 100) := by decide +kernel
theorem h105_81 : mfetch q105.2.1 81 = some (.getfield 175) := by decide +kernel
theorem h105_84 : mfetch q105.2.1 84 = some (.getfield 179) := by decide +kernel
theorem h105_87 : mfetch q105.2.1 87 = some (.ireturn) := by decide +kernel
theorem h105_88 : mfetch q105.2.1 88 = some (.bipush (-2)) := by decide +kernel
theorem h105_90 : mfetch q105.2.1 90 = some (.ireturn) := by decide +kernel
theorem E105_0 : (∀ (d : Nat) (l0 : Option Value) (x : Int32) (st : List Value) (h : MH) (P : MP), mFr d 105 0 [l0, some (.int x)] st h P = mFr d 105 1 [l0, some (.int x)] (.int x :: st) h P) ∧
  (∀ (d : Nat) (loc : List (Option Value)) (x : Int32) (st : List Value) (h : MH) (P : MP), mFr d 105 1 loc (.int x :: st) h P = if x = 0 then mFr d 105 40 loc (st) h P else if x = 1 then mFr d 105 48 loc (st) h P else if x = 2 then mFr d 105 56 loc (st) h P else if x = 3 then mFr d 105 64 loc (st) h P else if x = 4 then mFr d 105 69 loc (st) h P else if x = 5 then mFr d 105 77 loc (st) h P else mFr d 105 88 loc (st) h P) := ⟨fun _ _ _ _ _ _ => (mFr_S mq105 h105_0).trans rfl,
  fun _ _ _ _ _ _ => F_table 88 [(0, 40), (1, 48), (2, 56), (3, 64), (4, 69), (5, 77)] mq105 h105_1 (by decide) (by decide +kernel) (by decide)⟩
theorem E105_40 : (∀ (d : Nat) (l1 : Option Value) (x : Nat) (st : List Value) (h : MH) (P : MP), mFr d 105 40 [some (.ref x), l1] st h P = mFr d 105 41 [some (.ref x), l1] (.ref x :: st) h P) ∧
  (∀ (d : Nat) (loc : List (Option Value)) (a : Nat) (st : List Value) (h : MH) (P : MP), mFr d 105 41 loc (.ref a :: st) h P = pget h a 8 5 (fun v => mFr d 105 44 loc (v :: st) h P)) ∧
  (∀ (d : Nat) (loc : List (Option Value)) (a : Nat) (st : List Value) (h : MH) (P : MP), mFr d 105 44 loc (.ref a :: st) h P = pget h a 0 1 (fun v => mFr d 105 47 loc (v :: st) h P)) ∧
  (∀ (d : Nat) (loc : List (Option Value)) (x : Int32) (h : MH) (P : MP), mFr d 105 47 loc [.int x] h P = P (some (.int x)) h) := ⟨fun _ _ _ _ _ _ => (mFr_S mq105 h105_40).trans rfl,
  fun _ _ _ _ _ _ => F_get mq105 h105_41 (Or.inl (rfl : _ = some (25, 0, 8, 5))),
  fun _ _ _ _ _ _ => F_get mq105 h105_44 (Or.inr (rfl : _ = some (226, 1, 0, 1))),
  fun _ _ _ _ _ => F_ret mq105 h105_47 rfl rfl⟩
theorem E105_48 : (∀ (d : Nat) (l1 : Option Value) (x : Nat) (st : List Value) (h : MH) (P : MP), mFr d 105 48 [some (.ref x), l1] st h P = mFr d 105 49 [some (.ref x), l1] (.ref x :: st) h P) ∧
  (∀ (d : Nat) (loc : List (Option Value)) (a : Nat) (st : List Value) (h : MH) (P : MP), mFr d 105 49 loc (.ref a :: st) h P = pget h a 8 5 (fun v => mFr d 105 52 loc (v :: st) h P)) ∧
  (∀ (d : Nat) (loc : List (Option Value)) (b : Nat) (h : MH) (P : MP), mFr d 105 52 loc (.ref b :: []) h P = if mrcv h b 0 = true then mRun d 5 [.ref b] h (fun v h' => mFr d 105 55 loc (v.toList ++ []) h' P) else False) ∧
  (∀ (d : Nat) (loc : List (Option Value)) (x : Int32) (h : MH) (P : MP), mFr d 105 55 loc [.int x] h P = P (some (.int x)) h) := ⟨fun _ _ _ _ _ _ => (mFr_S mq105 h105_48).trans rfl,
  fun _ _ _ _ _ _ => F_get mq105 h105_49 (Or.inl (rfl : _ = some (25, 0, 8, 5))),
  fun _ _ b _ _ => F_callV (as := []) (rest := []) mq105 (Or.inl h105_52) (rfl : _ = some (191, 6, 5, 1)) (Or.inl ⟨h105_52, by decide⟩) (by rfl) (by rfl) (by rfl) (Nat.le_of_ble_eq_true rfl),
  fun _ _ _ _ _ => F_ret mq105 h105_55 rfl rfl⟩
theorem E105_56 : (∀ (d : Nat) (l1 : Option Value) (x : Nat) (st : List Value) (h : MH) (P : MP), mFr d 105 56 [some (.ref x), l1] st h P = mFr d 105 57 [some (.ref x), l1] (.ref x :: st) h P) ∧
  (∀ (d : Nat) (loc : List (Option Value)) (a : Nat) (st : List Value) (h : MH) (P : MP), mFr d 105 57 loc (.ref a :: st) h P = pget h a 8 5 (fun v => mFr d 105 60 loc (v :: st) h P)) ∧
  (∀ (d : Nat) (loc : List (Option Value)) (b : Nat) (h : MH) (P : MP), mFr d 105 60 loc (.ref b :: []) h P = if mrcv h b 0 = true then mRun d 6 [.ref b] h (fun v h' => mFr d 105 63 loc (v.toList ++ []) h' P) else False) ∧
  (∀ (d : Nat) (loc : List (Option Value)) (x : Int32) (h : MH) (P : MP), mFr d 105 63 loc [.int x] h P = P (some (.int x)) h) := ⟨fun _ _ _ _ _ _ => (mFr_S mq105 h105_56).trans rfl,
  fun _ _ _ _ _ _ => F_get mq105 h105_57 (Or.inl (rfl : _ = some (25, 0, 8, 5))),
  fun _ _ b _ _ => F_callV (as := []) (rest := []) mq105 (Or.inl h105_60) (rfl : _ = some (239, 6, 6, 1)) (Or.inl ⟨h105_60, by decide⟩) (by rfl) (by rfl) (by rfl) (Nat.le_of_ble_eq_true rfl),
  fun _ _ _ _ _ => F_ret mq105 h105_63 rfl rfl⟩
theorem E105_64 : (∀ (d : Nat) (l1 : Option Value) (x : Nat) (st : List Value) (h : MH) (P : MP), mFr d 105 64 [some (.ref x), l1] st h P = mFr d 105 65 [some (.ref x), l1] (.ref x :: st) h P) ∧
  (∀ (d : Nat) (loc : List (Option Value)) (a : Nat) (st : List Value) (h : MH) (P : MP), mFr d 105 65 loc (.ref a :: st) h P = pget h a 8 3 (fun v => mFr d 105 68 loc (v :: st) h P)) ∧
  (∀ (d : Nat) (loc : List (Option Value)) (x : Int32) (h : MH) (P : MP), mFr d 105 68 loc [.int x] h P = P (some (.int x)) h) := ⟨fun _ _ _ _ _ _ => (mFr_S mq105 h105_64).trans rfl,
  fun _ _ _ _ _ _ => F_get mq105 h105_65 (Or.inl (rfl : _ = some (92, 0, 8, 3))),
  fun _ _ _ _ _ => F_ret mq105 h105_68 rfl rfl⟩
theorem E105_69 : (∀ (d : Nat) (l1 : Option Value) (x : Nat) (st : List Value) (h : MH) (P : MP), mFr d 105 69 [some (.ref x), l1] st h P = mFr d 105 70 [some (.ref x), l1] (.ref x :: st) h P) ∧
  (∀ (d : Nat) (loc : List (Option Value)) (a : Nat) (st : List Value) (h : MH) (P : MP), mFr d 105 70 loc (.ref a :: st) h P = pget h a 8 1 (fun v => mFr d 105 73 loc (v :: st) h P)) ∧
  (∀ (d : Nat) (loc : List (Option Value)) (a : Nat) (st : List Value) (h : MH) (P : MP), mFr d 105 73 loc (.ref a :: st) h P = pget h a 4 1 (fun v => mFr d 105 76 loc (v :: st) h P)) ∧
  (∀ (d : Nat) (loc : List (Option Value)) (x : Int32) (h : MH) (P : MP), mFr d 105 76 loc [.int x] h P = P (some (.int x)) h) := ⟨fun _ _ _ _ _ _ => (mFr_S mq105 h105_69).trans rfl,
  fun _ _ _ _ _ _ => F_get mq105 h105_70 (Or.inl (rfl : _ = some (18, 0, 8, 1))),
  fun _ _ _ _ _ _ => F_get mq105 h105_73 (Or.inr (rfl : _ = some (88, 1, 4, 1))),
  fun _ _ _ _ _ => F_ret mq105 h105_76 rfl rfl⟩
theorem E105_77 : (∀ (d : Nat) (l1 : Option Value) (x : Nat) (st : List Value) (h : MH) (P : MP), mFr d 105 77 [some (.ref x), l1] st h P = mFr d 105 78 [some (.ref x), l1] (.ref x :: st) h P) ∧
  (∀ (d : Nat) (loc : List (Option Value)) (a : Nat) (st : List Value) (h : MH) (P : MP), mFr d 105 78 loc (.ref a :: st) h P = pget h a 8 4 (fun v => mFr d 105 81 loc (v :: st) h P)) ∧
  (∀ (d : Nat) (loc : List (Option Value)) (a : Nat) (st : List Value) (h : MH) (P : MP), mFr d 105 81 loc (.ref a :: st) h P = pget h a 2 2 (fun v => mFr d 105 84 loc (v :: st) h P)) ∧
  (∀ (d : Nat) (loc : List (Option Value)) (a : Nat) (st : List Value) (h : MH) (P : MP), mFr d 105 84 loc (.ref a :: st) h P = pget h a 5 0 (fun v => mFr d 105 87 loc (v :: st) h P)) ∧
  (∀ (d : Nat) (loc : List (Option Value)) (x : Int32) (h : MH) (P : MP), mFr d 105 87 loc [.int x] h P = P (some (.int x)) h) := ⟨fun _ _ _ _ _ _ => (mFr_S mq105 h105_77).trans rfl,
  fun _ _ _ _ _ _ => F_get mq105 h105_78 (Or.inl (rfl : _ = some (100, 0, 8, 4))),
  fun _ _ _ _ _ _ => F_get mq105 h105_81 (Or.inr (rfl : _ = some (175, 1, 2, 2))),
  fun _ _ _ _ _ _ => F_get mq105 h105_84 (Or.inr (rfl : _ = some (179, 1, 5, 0))),
  fun _ _ _ _ _ => F_ret mq105 h105_87 rfl rfl⟩
theorem E105_88 : (∀ (d : Nat) (loc : List (Option Value)) (st : List Value) (h : MH) (P : MP), mFr d 105 88 loc st h P = mFr d 105 90 loc (.int (-2) :: st) h P) ∧
  (∀ (d : Nat) (loc : List (Option Value)) (x : Int32) (h : MH) (P : MP), mFr d 105 90 loc [.int x] h P = P (some (.int x)) h) := ⟨fun _ _ _ _ _ => (mFr_S mq105 h105_88).trans rfl,
  fun _ _ _ _ _ => F_ret mq105 h105_90 rfl rfl⟩
theorem B105 : ∀ (d : Nat) (b : Nat) (a0 : Int32) (h : MH) (P : MP), mRun (d + 1) 105 [.ref b, .int a0] h P = mFr d 105 0 [some (.ref b), some (.int a0)] [] h P := fun _ _ _ _ _ => mRun_S mq105 (Nat.le_of_ble_eq_true rfl)
-- 106: PuncturesAreViews.sheet(III)I
def q106 : MI := (yX8_sheet, cX8_sheet, 5, (some .int), 8, 3)
theorem mq106 : mtab[106]? = some q106 := rfl
theorem h106_0 : mfetch q106.2.1 0 = some (.aload_n 0) := by decide +kernel
theorem h106_1 : mfetch q106.2.1 1 = some (.iload_n 1) := by decide +kernel
theorem h106_2 : mfetch q106.2.1 2 = some (.invokevirtual 247) := by decide +kernel
theorem h106_5 : mfetch q106.2.1 5 = some (.astore 4) := by decide +kernel
theorem h106_7 : mfetch q106.2.1 7 = some (.aload 4) := by decide +kernel
theorem h106_9 : mfetch q106.2.1 9 = some (.ifnull 13) := by decide +kernel
theorem h106_12 : mfetch q106.2.1 12 = some (.iload_n 2) := by decide +kernel
theorem h106_13 : mfetch q106.2.1 13 = some (.iconst (-1)) := by decide +kernel
theorem h106_14 : mfetch q106.2.1 14 = some (.if_icmp .lt 8) := by decide +kernel
theorem h106_17 : mfetch q106.2.1 17 = some (.iload_n 2) := by decide +kernel
theorem h106_18 : mfetch q106.2.1 18 = some (.iconst 2) := by decide +kernel
theorem h106_19 : mfetch q106.2.1 19 = some (.if_icmp .le 6) := by decide +kernel
theorem h106_22 : mfetch q106.2.1 22 = some (.bipush (-2)) := by decide +kernel
theorem h106_24 : mfetch q106.2.1 24 = some (.ireturn) := by decide +kernel
theorem h106_25 : mfetch q106.2.1 25 = some (.iload_n 2) := by decide +kernel
theorem h106_26 : mfetch q106.2.1 26 = some (.iconst (-1)) := by decide +kernel
theorem h106_27 : mfetch q106.2.1 27 = some (.if_icmp .ne 12) := by decide +kernel
theorem h106_30 : mfetch q106.2.1 30 = some (.aload 4) := by decide +kernel
theorem h106_32 : mfetch q106.2.1 32 = some (.iconst (-1)) := by decide +kernel
theorem h106_33 : mfetch q106.2.1 33 = some (.iconst 0) := by decide +kernel
theorem h106_34 : mfetch q106.2.1 34 = some (.invokevirtual 275) := by decide +kernel
theorem h106_37 : mfetch q106.2.1 37 = some (.iconst 1) := by decide +kernel
theorem h106_38 : mfetch q106.2.1 38 = some (.ireturn) := by decide +kernel
theorem h106_39 : mfetch q106.2.1 39 = some (.iload_n 3) := by decide +kernel
theorem h106_40 : mfetch q106.2.1 40 = some (.bipush 40) := by decide +kernel
theorem h106_42 : mfetch q106.2.1 42 = some (.if_icmp .le 6) := by decide +kernel
theorem h106_45 : mfetch q106.2.1 45 = some (.bipush (-2)) := by decide +kernel
theorem h106_47 : mfetch q106.2.1 47 = some (.ireturn) := by decide +kernel
theorem h106_48 : mfetch q106.2.1 48 = some (.iload_n 3) := by decide +kernel
theorem h106_49 : mfetch q106.2.1 49 = some (.ifCond .ge 6) := by decide +kernel
theorem h106_52 : mfetch q106.2.1 52 = some (.bipush (-14)) := by decide +kernel
theorem h106_54 : mfetch q106.2.1 54 = some (.ireturn) := by decide +kernel
theorem h106_55 : mfetch q106.2.1 55 = some (.aload 4) := by decide +kernel
theorem h106_57 : mfetch q106.2.1 57 = some (.iload_n 2) := by decide +kernel
theorem h106_58 : mfetch q106.2.1 58 = some (.iload_n 3) := by decide +kernel
theorem h106_59 : mfetch q106.2.1 59 = some (.invokevirtual 275) := by decide +kernel
theorem h106_62 : mfetch q106.2.1 62 = some (.iconst 1) := by decide +kernel
theorem h106_63 : mfetch q106.2.1 63 = some (.ireturn) := by decide +kernel
theorem E106_0 : (∀ (d : Nat) (l1 : Option Value) (l2 : Option Value) (l3 : Option Value) (l4 : Option Value) (x : Nat) (st : List Value) (h : MH) (P : MP), mFr d 106 0 [some (.ref x), l1, l2, l3, l4] st h P = mFr d 106 1 [some (.ref x), l1, l2, l3, l4] (.ref x :: st) h P) ∧
  (∀ (d : Nat) (l0 : Option Value) (l2 : Option Value) (l3 : Option Value) (l4 : Option Value) (x : Int32) (st : List Value) (h : MH) (P : MP), mFr d 106 1 [l0, some (.int x), l2, l3, l4] st h P = mFr d 106 2 [l0, some (.int x), l2, l3, l4] (.int x :: st) h P) ∧
  (∀ (d : Nat) (loc : List (Option Value)) (b : Nat) (a0 : Int32) (h : MH) (P : MP), mFr d 106 2 loc ((.int a0) :: .ref b :: []) h P = if mrcv h b 8 = true then mRun d 112 [.ref b, .int a0] h (fun v h' => mFr d 106 5 loc (v.toList ++ []) h' P) else False) ∧
  (∀ (d : Nat) (l0 : Option Value) (l1 : Option Value) (l2 : Option Value) (l3 : Option Value) (l4 : Option Value) (x : Nat) (st : List Value) (h : MH) (P : MP), mnl l3 = true → mFr d 106 5 [l0, l1, l2, l3, l4] (.ref x :: st) h P = mFr d 106 7 [l0, l1, l2, l3, some (.ref x)] (st) h P) ∧
  (∀ (d : Nat) (l0 : Option Value) (l1 : Option Value) (l2 : Option Value) (l3 : Option Value) (l4 : Option Value) (st : List Value) (h : MH) (P : MP), mnl l3 = true → mFr d 106 5 [l0, l1, l2, l3, l4] (.null :: st) h P = mFr d 106 7 [l0, l1, l2, l3, some .null] (st) h P) ∧
  (∀ (d : Nat) (l0 : Option Value) (l1 : Option Value) (l2 : Option Value) (l3 : Option Value) (x : Nat) (st : List Value) (h : MH) (P : MP), mFr d 106 7 [l0, l1, l2, l3, some (.ref x)] st h P = mFr d 106 9 [l0, l1, l2, l3, some (.ref x)] (.ref x :: st) h P) ∧
  (∀ (d : Nat) (l0 : Option Value) (l1 : Option Value) (l2 : Option Value) (l3 : Option Value) (st : List Value) (h : MH) (P : MP), mFr d 106 7 [l0, l1, l2, l3, some .null] st h P = mFr d 106 9 [l0, l1, l2, l3, some .null] (.null :: st) h P) ∧
  (∀ (d : Nat) (loc : List (Option Value)) (x : Nat) (st : List Value) (h : MH) (P : MP), mFr d 106 9 loc (.ref x :: st) h P = if x < 900 then mFr d 106 12 loc (st) h P else False) ∧
  (∀ (d : Nat) (loc : List (Option Value)) (st : List Value) (h : MH) (P : MP), mFr d 106 9 loc (.null :: st) h P = mFr d 106 22 loc (st) h P) := ⟨fun _ _ _ _ _ _ _ _ _ => (mFr_S mq106 h106_0).trans rfl,
  fun _ _ _ _ _ _ _ _ _ => (mFr_S mq106 h106_1).trans rfl,
  fun _ _ b a0 _ _ => F_callV (as := [.int a0]) (rest := []) mq106 (Or.inl h106_2) (rfl : _ = some (247, 6, 112, 0)) (Or.inl ⟨h106_2, by decide⟩) (by rfl) (by rfl) (by rfl) (Nat.le_of_ble_eq_true rfl),
  fun _ _ _ _ _ _ _ _ _ _ hm => (mFr_S mq106 h106_5).trans (by simp only [mgo.eq_1, mstep, mi1, ml1, mast, mst, mst2, mprev, List.length_cons, List.length_nil, List.getElem?_cons_succ, List.getElem?_cons_zero, hm]; rfl),
  fun _ _ _ _ _ _ _ _ _ hm => (mFr_S mq106 h106_5).trans (by simp only [mgo.eq_1, mstep, mi1, ml1, mast, mst, mst2, mprev, List.length_cons, List.length_nil, List.getElem?_cons_succ, List.getElem?_cons_zero, hm]; rfl),
  fun _ _ _ _ _ _ _ _ _ => (mFr_S mq106 h106_7).trans rfl,
  fun _ _ _ _ _ _ _ _ => (mFr_S mq106 h106_7).trans rfl,
  fun _ _ _ _ _ _ => F_ifnullR mq106 h106_9,
  fun _ _ _ _ _ => F_ifnullN 22 mq106 h106_9 (by decide)⟩
theorem E106_12 : (∀ (d : Nat) (l0 : Option Value) (l1 : Option Value) (l3 : Option Value) (l4 : Option Value) (x : Int32) (st : List Value) (h : MH) (P : MP), mFr d 106 12 [l0, l1, some (.int x), l3, l4] st h P = mFr d 106 13 [l0, l1, some (.int x), l3, l4] (.int x :: st) h P) ∧
  (∀ (d : Nat) (loc : List (Option Value)) (st : List Value) (h : MH) (P : MP), mFr d 106 13 loc st h P = mFr d 106 14 loc (.int (-1) :: st) h P) ∧
  (∀ (d : Nat) (loc : List (Option Value)) (x y : Int32) (st : List Value) (h : MH) (P : MP), mFr d 106 14 loc (.int y :: .int x :: st) h P = if x < y then mFr d 106 22 loc (st) h P else mFr d 106 17 loc (st) h P) := ⟨fun _ _ _ _ _ _ _ _ _ => (mFr_S mq106 h106_12).trans rfl,
  fun _ _ _ _ _ => (mFr_S mq106 h106_13).trans rfl,
  fun _ _ _ _ _ _ _ => (F_icmp 22 mq106 h106_14 (by decide)).trans mif_lt⟩
theorem E106_17 : (∀ (d : Nat) (l0 : Option Value) (l1 : Option Value) (l3 : Option Value) (l4 : Option Value) (x : Int32) (st : List Value) (h : MH) (P : MP), mFr d 106 17 [l0, l1, some (.int x), l3, l4] st h P = mFr d 106 18 [l0, l1, some (.int x), l3, l4] (.int x :: st) h P) ∧
  (∀ (d : Nat) (loc : List (Option Value)) (st : List Value) (h : MH) (P : MP), mFr d 106 18 loc st h P = mFr d 106 19 loc (.int 2 :: st) h P) ∧
  (∀ (d : Nat) (loc : List (Option Value)) (x y : Int32) (st : List Value) (h : MH) (P : MP), mFr d 106 19 loc (.int y :: .int x :: st) h P = if y < x then mFr d 106 22 loc (st) h P else mFr d 106 25 loc (st) h P) := ⟨fun _ _ _ _ _ _ _ _ _ => (mFr_S mq106 h106_17).trans rfl,
  fun _ _ _ _ _ => (mFr_S mq106 h106_18).trans rfl,
  fun _ _ _ _ _ _ _ => (F_icmp 25 mq106 h106_19 (by decide)).trans mif_le⟩
theorem E106_22 : (∀ (d : Nat) (loc : List (Option Value)) (st : List Value) (h : MH) (P : MP), mFr d 106 22 loc st h P = mFr d 106 24 loc (.int (-2) :: st) h P) ∧
  (∀ (d : Nat) (loc : List (Option Value)) (x : Int32) (h : MH) (P : MP), mFr d 106 24 loc [.int x] h P = P (some (.int x)) h) := ⟨fun _ _ _ _ _ => (mFr_S mq106 h106_22).trans rfl,
  fun _ _ _ _ _ => F_ret mq106 h106_24 rfl rfl⟩
theorem E106_25 : (∀ (d : Nat) (l0 : Option Value) (l1 : Option Value) (l3 : Option Value) (l4 : Option Value) (x : Int32) (st : List Value) (h : MH) (P : MP), mFr d 106 25 [l0, l1, some (.int x), l3, l4] st h P = mFr d 106 26 [l0, l1, some (.int x), l3, l4] (.int x :: st) h P) ∧
  (∀ (d : Nat) (loc : List (Option Value)) (st : List Value) (h : MH) (P : MP), mFr d 106 26 loc st h P = mFr d 106 27 loc (.int (-1) :: st) h P) ∧
  (∀ (d : Nat) (loc : List (Option Value)) (x y : Int32) (st : List Value) (h : MH) (P : MP), mFr d 106 27 loc (.int y :: .int x :: st) h P = if x = y then mFr d 106 30 loc (st) h P else mFr d 106 39 loc (st) h P) := ⟨fun _ _ _ _ _ _ _ _ _ => (mFr_S mq106 h106_25).trans rfl,
  fun _ _ _ _ _ => (mFr_S mq106 h106_26).trans rfl,
  fun _ _ _ _ _ _ _ => (F_icmp 39 mq106 h106_27 (by decide)).trans mif_ne⟩
theorem E106_30 : (∀ (d : Nat) (l0 : Option Value) (l1 : Option Value) (l2 : Option Value) (l3 : Option Value) (x : Nat) (st : List Value) (h : MH) (P : MP), mFr d 106 30 [l0, l1, l2, l3, some (.ref x)] st h P = mFr d 106 32 [l0, l1, l2, l3, some (.ref x)] (.ref x :: st) h P) ∧
  (∀ (d : Nat) (l0 : Option Value) (l1 : Option Value) (l2 : Option Value) (l3 : Option Value) (st : List Value) (h : MH) (P : MP), mFr d 106 30 [l0, l1, l2, l3, some .null] st h P = mFr d 106 32 [l0, l1, l2, l3, some .null] (.null :: st) h P) ∧
  (∀ (d : Nat) (loc : List (Option Value)) (st : List Value) (h : MH) (P : MP), mFr d 106 32 loc st h P = mFr d 106 33 loc (.int (-1) :: st) h P) ∧
  (∀ (d : Nat) (loc : List (Option Value)) (st : List Value) (h : MH) (P : MP), mFr d 106 33 loc st h P = mFr d 106 34 loc (.int 0 :: st) h P) ∧
  (∀ (d : Nat) (loc : List (Option Value)) (b : Nat) (a0 : Int32) (a1 : Int32) (h : MH) (P : MP), mFr d 106 34 loc ((.int a1) :: (.int a0) :: .ref b :: []) h P = if mrcv h b 3 = true then mRun d 22 [.ref b, .int a0, .int a1] h (fun v h' => mFr d 106 37 loc (v.toList ++ []) h' P) else False) ∧
  (∀ (d : Nat) (loc : List (Option Value)) (st : List Value) (h : MH) (P : MP), mFr d 106 37 loc st h P = mFr d 106 38 loc (.int 1 :: st) h P) ∧
  (∀ (d : Nat) (loc : List (Option Value)) (x : Int32) (h : MH) (P : MP), mFr d 106 38 loc [.int x] h P = P (some (.int x)) h) := ⟨fun _ _ _ _ _ _ _ _ _ => (mFr_S mq106 h106_30).trans rfl,
  fun _ _ _ _ _ _ _ _ => (mFr_S mq106 h106_30).trans rfl,
  fun _ _ _ _ _ => (mFr_S mq106 h106_32).trans rfl,
  fun _ _ _ _ _ => (mFr_S mq106 h106_33).trans rfl,
  fun _ _ b a0 a1 _ _ => F_callV (as := [.int a0, .int a1]) (rest := []) mq106 (Or.inl h106_34) (rfl : _ = some (275, 6, 22, 1)) (Or.inl ⟨h106_34, by decide⟩) (by rfl) (by rfl) (by rfl) (Nat.le_of_ble_eq_true rfl),
  fun _ _ _ _ _ => (mFr_S mq106 h106_37).trans rfl,
  fun _ _ _ _ _ => F_ret mq106 h106_38 rfl rfl⟩
theorem E106_39 : (∀ (d : Nat) (l0 : Option Value) (l1 : Option Value) (l2 : Option Value) (l4 : Option Value) (x : Int32) (st : List Value) (h : MH) (P : MP), mFr d 106 39 [l0, l1, l2, some (.int x), l4] st h P = mFr d 106 40 [l0, l1, l2, some (.int x), l4] (.int x :: st) h P) ∧
  (∀ (d : Nat) (loc : List (Option Value)) (st : List Value) (h : MH) (P : MP), mFr d 106 40 loc st h P = mFr d 106 42 loc (.int 40 :: st) h P) ∧
  (∀ (d : Nat) (loc : List (Option Value)) (x y : Int32) (st : List Value) (h : MH) (P : MP), mFr d 106 42 loc (.int y :: .int x :: st) h P = if y < x then mFr d 106 45 loc (st) h P else mFr d 106 48 loc (st) h P) := ⟨fun _ _ _ _ _ _ _ _ _ => (mFr_S mq106 h106_39).trans rfl,
  fun _ _ _ _ _ => (mFr_S mq106 h106_40).trans rfl,
  fun _ _ _ _ _ _ _ => (F_icmp 48 mq106 h106_42 (by decide)).trans mif_le⟩
theorem E106_45 : (∀ (d : Nat) (loc : List (Option Value)) (st : List Value) (h : MH) (P : MP), mFr d 106 45 loc st h P = mFr d 106 47 loc (.int (-2) :: st) h P) ∧
  (∀ (d : Nat) (loc : List (Option Value)) (x : Int32) (h : MH) (P : MP), mFr d 106 47 loc [.int x] h P = P (some (.int x)) h) := ⟨fun _ _ _ _ _ => (mFr_S mq106 h106_45).trans rfl,
  fun _ _ _ _ _ => F_ret mq106 h106_47 rfl rfl⟩
theorem E106_48 : (∀ (d : Nat) (l0 : Option Value) (l1 : Option Value) (l2 : Option Value) (l4 : Option Value) (x : Int32) (st : List Value) (h : MH) (P : MP), mFr d 106 48 [l0, l1, l2, some (.int x), l4] st h P = mFr d 106 49 [l0, l1, l2, some (.int x), l4] (.int x :: st) h P) ∧
  (∀ (d : Nat) (loc : List (Option Value)) (x : Int32) (st : List Value) (h : MH) (P : MP), mFr d 106 49 loc (.int x :: st) h P = if x < 0 then mFr d 106 52 loc (st) h P else mFr d 106 55 loc (st) h P) := ⟨fun _ _ _ _ _ _ _ _ _ => (mFr_S mq106 h106_48).trans rfl,
  fun _ _ _ _ _ _ => (F_ifz 55 mq106 h106_49 (by decide)).trans mif_ge⟩
theorem E106_52 : (∀ (d : Nat) (loc : List (Option Value)) (st : List Value) (h : MH) (P : MP), mFr d 106 52 loc st h P = mFr d 106 54 loc (.int (-14) :: st) h P) ∧
  (∀ (d : Nat) (loc : List (Option Value)) (x : Int32) (h : MH) (P : MP), mFr d 106 54 loc [.int x] h P = P (some (.int x)) h) := ⟨fun _ _ _ _ _ => (mFr_S mq106 h106_52).trans rfl,
  fun _ _ _ _ _ => F_ret mq106 h106_54 rfl rfl⟩
theorem E106_55 : (∀ (d : Nat) (l0 : Option Value) (l1 : Option Value) (l2 : Option Value) (l3 : Option Value) (x : Nat) (st : List Value) (h : MH) (P : MP), mFr d 106 55 [l0, l1, l2, l3, some (.ref x)] st h P = mFr d 106 57 [l0, l1, l2, l3, some (.ref x)] (.ref x :: st) h P) ∧
  (∀ (d : Nat) (l0 : Option Value) (l1 : Option Value) (l2 : Option Value) (l3 : Option Value) (st : List Value) (h : MH) (P : MP), mFr d 106 55 [l0, l1, l2, l3, some .null] st h P = mFr d 106 57 [l0, l1, l2, l3, some .null] (.null :: st) h P) ∧
  (∀ (d : Nat) (l0 : Option Value) (l1 : Option Value) (l3 : Option Value) (l4 : Option Value) (x : Int32) (st : List Value) (h : MH) (P : MP), mFr d 106 57 [l0, l1, some (.int x), l3, l4] st h P = mFr d 106 58 [l0, l1, some (.int x), l3, l4] (.int x :: st) h P) ∧
  (∀ (d : Nat) (l0 : Option Value) (l1 : Option Value) (l2 : Option Value) (l4 : Option Value) (x : Int32) (st : List Value) (h : MH) (P : MP), mFr d 106 58 [l0, l1, l2, some (.int x), l4] st h P = mFr d 106 59 [l0, l1, l2, some (.int x), l4] (.int x :: st) h P) ∧
  (∀ (d : Nat) (loc : List (Option Value)) (b : Nat) (a0 : Int32) (a1 : Int32) (h : MH) (P : MP), mFr d 106 59 loc ((.int a1) :: (.int a0) :: .ref b :: []) h P = if mrcv h b 3 = true then mRun d 22 [.ref b, .int a0, .int a1] h (fun v h' => mFr d 106 62 loc (v.toList ++ []) h' P) else False) ∧
  (∀ (d : Nat) (loc : List (Option Value)) (st : List Value) (h : MH) (P : MP), mFr d 106 62 loc st h P = mFr d 106 63 loc (.int 1 :: st) h P) ∧
  (∀ (d : Nat) (loc : List (Option Value)) (x : Int32) (h : MH) (P : MP), mFr d 106 63 loc [.int x] h P = P (some (.int x)) h) := ⟨fun _ _ _ _ _ _ _ _ _ => (mFr_S mq106 h106_55).trans rfl,
  fun _ _ _ _ _ _ _ _ => (mFr_S mq106 h106_55).trans rfl,
  fun _ _ _ _ _ _ _ _ _ => (mFr_S mq106 h106_57).trans rfl,
  fun _ _ _ _ _ _ _ _ _ => (mFr_S mq106 h106_58).trans rfl,
  fun _ _ b a0 a1 _ _ => F_callV (as := [.int a0, .int a1]) (rest := []) mq106 (Or.inl h106_59) (rfl : _ = some (275, 6, 22, 1)) (Or.inl ⟨h106_59, by decide⟩) (by rfl) (by rfl) (by rfl) (Nat.le_of_ble_eq_true rfl),
  fun _ _ _ _ _ => (mFr_S mq106 h106_62).trans rfl,
  fun _ _ _ _ _ => F_ret mq106 h106_63 rfl rfl⟩
theorem B106 : ∀ (d : Nat) (b : Nat) (a0 : Int32) (a1 : Int32) (a2 : Int32) (h : MH) (P : MP), mRun (d + 1) 106 [.ref b, .int a0, .int a1, .int a2] h P = mFr d 106 0 [some (.ref b), some (.int a0), some (.int a1), some (.int a2), none] [] h P := fun _ _ _ _ _ _ _ => mRun_S mq106 (Nat.le_of_ble_eq_true rfl)
-- 107: PuncturesAreViews.cell(III)I
def q107 : MI := (yX8_cell, cX8_cell, 5, (some .int), 8, 3)
theorem mq107 : mtab[107]? = some q107 := rfl
theorem h107_0 : mfetch q107.2.1 0 = some (.aload_n 0) := by decide +kernel
theorem h107_1 : mfetch q107.2.1 1 = some (.iload_n 1) := by decide +kernel
theorem h107_2 : mfetch q107.2.1 2 = some (.invokevirtual 247) := by decide +kernel
theorem h107_5 : mfetch q107.2.1 5 = some (.astore 4) := by decide +kernel
theorem h107_7 : mfetch q107.2.1 7 = some (.aload 4) := by decide +kernel
theorem h107_9 : mfetch q107.2.1 9 = some (.ifnonnull 6) := by decide +kernel
theorem h107_12 : mfetch q107.2.1 12 = some (.bipush (-2)) := by decide +kernel
theorem h107_14 : mfetch q107.2.1 14 = some (.ireturn) := by decide +kernel
theorem h107_15 : mfetch q107.2.1 15 = some (.aload 4) := by decide +kernel
theorem h107_17 : mfetch q107.2.1 17 = some (.getfield 254) := by decide +kernel
theorem h107_20 : mfetch q107.2.1 20 = some (.iconst (-1)) := by decide +kernel
theorem h107_21 : mfetch q107.2.1 21 = some (.if_icmp .ne 6) := by decide +kernel
theorem h107_24 : mfetch q107.2.1 24 = some (.bipush (-11)) := by decide +kernel
theorem h107_26 : mfetch q107.2.1 26 = some (.ireturn) := by decide +kernel
theorem h107_27 : mfetch q107.2.1 27 = some (.aload 4) := by decide +kernel
theorem h107_29 : mfetch q107.2.1 29 = some (.iload_n 2) := by decide +kernel
theorem h107_30 : mfetch q107.2.1 30 = some (.iconst 1) := by decide +kernel
theorem h107_31 : mfetch q107.2.1 31 = some (.invokevirtual 299) := by decide +kernel
theorem h107_34 : mfetch q107.2.1 34 = some (.ifCond .ne 6) := by decide +kernel
theorem h107_37 : mfetch q107.2.1 37 = some (.bipush (-12)) := by decide +kernel
theorem h107_39 : mfetch q107.2.1 39 = some (.ireturn) := by decide +kernel
theorem h107_40 : mfetch q107.2.1 40 = some (.aload 4) := by decide +kernel
theorem h107_42 : mfetch q107.2.1 42 = some (.iload_n 2) := by decide +kernel
theorem h107_43 : mfetch q107.2.1 43 = some (.iload_n 3) := by decide +kernel
theorem h107_44 : mfetch q107.2.1 44 = some (.invokevirtual 277) := by decide +kernel
theorem h107_47 : mfetch q107.2.1 47 = some (.iconst 1) := by decide +kernel
theorem h107_48 : mfetch q107.2.1 48 = some (.ireturn) := by decide +kernel
theorem E107_0 : (∀ (d : Nat) (l1 : Option Value) (l2 : Option Value) (l3 : Option Value) (l4 : Option Value) (x : Nat) (st : List Value) (h : MH) (P : MP), mFr d 107 0 [some (.ref x), l1, l2, l3, l4] st h P = mFr d 107 1 [some (.ref x), l1, l2, l3, l4] (.ref x :: st) h P) ∧
  (∀ (d : Nat) (l0 : Option Value) (l2 : Option Value) (l3 : Option Value) (l4 : Option Value) (x : Int32) (st : List Value) (h : MH) (P : MP), mFr d 107 1 [l0, some (.int x), l2, l3, l4] st h P = mFr d 107 2 [l0, some (.int x), l2, l3, l4] (.int x :: st) h P) ∧
  (∀ (d : Nat) (loc : List (Option Value)) (b : Nat) (a0 : Int32) (h : MH) (P : MP), mFr d 107 2 loc ((.int a0) :: .ref b :: []) h P = if mrcv h b 8 = true then mRun d 112 [.ref b, .int a0] h (fun v h' => mFr d 107 5 loc (v.toList ++ []) h' P) else False) ∧
  (∀ (d : Nat) (l0 : Option Value) (l1 : Option Value) (l2 : Option Value) (l3 : Option Value) (l4 : Option Value) (x : Nat) (st : List Value) (h : MH) (P : MP), mnl l3 = true → mFr d 107 5 [l0, l1, l2, l3, l4] (.ref x :: st) h P = mFr d 107 7 [l0, l1, l2, l3, some (.ref x)] (st) h P) ∧
  (∀ (d : Nat) (l0 : Option Value) (l1 : Option Value) (l2 : Option Value) (l3 : Option Value) (l4 : Option Value) (st : List Value) (h : MH) (P : MP), mnl l3 = true → mFr d 107 5 [l0, l1, l2, l3, l4] (.null :: st) h P = mFr d 107 7 [l0, l1, l2, l3, some .null] (st) h P) ∧
  (∀ (d : Nat) (l0 : Option Value) (l1 : Option Value) (l2 : Option Value) (l3 : Option Value) (x : Nat) (st : List Value) (h : MH) (P : MP), mFr d 107 7 [l0, l1, l2, l3, some (.ref x)] st h P = mFr d 107 9 [l0, l1, l2, l3, some (.ref x)] (.ref x :: st) h P) ∧
  (∀ (d : Nat) (l0 : Option Value) (l1 : Option Value) (l2 : Option Value) (l3 : Option Value) (st : List Value) (h : MH) (P : MP), mFr d 107 7 [l0, l1, l2, l3, some .null] st h P = mFr d 107 9 [l0, l1, l2, l3, some .null] (.null :: st) h P) ∧
  (∀ (d : Nat) (loc : List (Option Value)) (x : Nat) (st : List Value) (h : MH) (P : MP), mFr d 107 9 loc (.ref x :: st) h P = if x < 900 then mFr d 107 15 loc (st) h P else False) ∧
  (∀ (d : Nat) (loc : List (Option Value)) (st : List Value) (h : MH) (P : MP), mFr d 107 9 loc (.null :: st) h P = mFr d 107 12 loc (st) h P) := ⟨fun _ _ _ _ _ _ _ _ _ => (mFr_S mq107 h107_0).trans rfl,
  fun _ _ _ _ _ _ _ _ _ => (mFr_S mq107 h107_1).trans rfl,
  fun _ _ b a0 _ _ => F_callV (as := [.int a0]) (rest := []) mq107 (Or.inl h107_2) (rfl : _ = some (247, 6, 112, 0)) (Or.inl ⟨h107_2, by decide⟩) (by rfl) (by rfl) (by rfl) (Nat.le_of_ble_eq_true rfl),
  fun _ _ _ _ _ _ _ _ _ _ hm => (mFr_S mq107 h107_5).trans (by simp only [mgo.eq_1, mstep, mi1, ml1, mast, mst, mst2, mprev, List.length_cons, List.length_nil, List.getElem?_cons_succ, List.getElem?_cons_zero, hm]; rfl),
  fun _ _ _ _ _ _ _ _ _ hm => (mFr_S mq107 h107_5).trans (by simp only [mgo.eq_1, mstep, mi1, ml1, mast, mst, mst2, mprev, List.length_cons, List.length_nil, List.getElem?_cons_succ, List.getElem?_cons_zero, hm]; rfl),
  fun _ _ _ _ _ _ _ _ _ => (mFr_S mq107 h107_7).trans rfl,
  fun _ _ _ _ _ _ _ _ => (mFr_S mq107 h107_7).trans rfl,
  fun _ _ _ _ _ _ => F_ifnonnullR 15 mq107 h107_9 (by decide),
  fun _ _ _ _ _ => (mFr_S mq107 h107_9).trans rfl⟩
theorem E107_12 : (∀ (d : Nat) (loc : List (Option Value)) (st : List Value) (h : MH) (P : MP), mFr d 107 12 loc st h P = mFr d 107 14 loc (.int (-2) :: st) h P) ∧
  (∀ (d : Nat) (loc : List (Option Value)) (x : Int32) (h : MH) (P : MP), mFr d 107 14 loc [.int x] h P = P (some (.int x)) h) := ⟨fun _ _ _ _ _ => (mFr_S mq107 h107_12).trans rfl,
  fun _ _ _ _ _ => F_ret mq107 h107_14 rfl rfl⟩
theorem E107_15 : (∀ (d : Nat) (l0 : Option Value) (l1 : Option Value) (l2 : Option Value) (l3 : Option Value) (x : Nat) (st : List Value) (h : MH) (P : MP), mFr d 107 15 [l0, l1, l2, l3, some (.ref x)] st h P = mFr d 107 17 [l0, l1, l2, l3, some (.ref x)] (.ref x :: st) h P) ∧
  (∀ (d : Nat) (l0 : Option Value) (l1 : Option Value) (l2 : Option Value) (l3 : Option Value) (st : List Value) (h : MH) (P : MP), mFr d 107 15 [l0, l1, l2, l3, some .null] st h P = mFr d 107 17 [l0, l1, l2, l3, some .null] (.null :: st) h P) ∧
  (∀ (d : Nat) (loc : List (Option Value)) (a : Nat) (st : List Value) (h : MH) (P : MP), mFr d 107 17 loc (.ref a :: st) h P = pget h a 3 1 (fun v => mFr d 107 20 loc (v :: st) h P)) ∧
  (∀ (d : Nat) (loc : List (Option Value)) (st : List Value) (h : MH) (P : MP), mFr d 107 20 loc st h P = mFr d 107 21 loc (.int (-1) :: st) h P) ∧
  (∀ (d : Nat) (loc : List (Option Value)) (x y : Int32) (st : List Value) (h : MH) (P : MP), mFr d 107 21 loc (.int y :: .int x :: st) h P = if x = y then mFr d 107 24 loc (st) h P else mFr d 107 27 loc (st) h P) := ⟨fun _ _ _ _ _ _ _ _ _ => (mFr_S mq107 h107_15).trans rfl,
  fun _ _ _ _ _ _ _ _ => (mFr_S mq107 h107_15).trans rfl,
  fun _ _ _ _ _ _ => F_get mq107 h107_17 (Or.inr (rfl : _ = some (254, 1, 3, 1))),
  fun _ _ _ _ _ => (mFr_S mq107 h107_20).trans rfl,
  fun _ _ _ _ _ _ _ => (F_icmp 27 mq107 h107_21 (by decide)).trans mif_ne⟩
theorem E107_24 : (∀ (d : Nat) (loc : List (Option Value)) (st : List Value) (h : MH) (P : MP), mFr d 107 24 loc st h P = mFr d 107 26 loc (.int (-11) :: st) h P) ∧
  (∀ (d : Nat) (loc : List (Option Value)) (x : Int32) (h : MH) (P : MP), mFr d 107 26 loc [.int x] h P = P (some (.int x)) h) := ⟨fun _ _ _ _ _ => (mFr_S mq107 h107_24).trans rfl,
  fun _ _ _ _ _ => F_ret mq107 h107_26 rfl rfl⟩
theorem E107_27 : (∀ (d : Nat) (l0 : Option Value) (l1 : Option Value) (l2 : Option Value) (l3 : Option Value) (x : Nat) (st : List Value) (h : MH) (P : MP), mFr d 107 27 [l0, l1, l2, l3, some (.ref x)] st h P = mFr d 107 29 [l0, l1, l2, l3, some (.ref x)] (.ref x :: st) h P) ∧
  (∀ (d : Nat) (l0 : Option Value) (l1 : Option Value) (l2 : Option Value) (l3 : Option Value) (st : List Value) (h : MH) (P : MP), mFr d 107 27 [l0, l1, l2, l3, some .null] st h P = mFr d 107 29 [l0, l1, l2, l3, some .null] (.null :: st) h P) ∧
  (∀ (d : Nat) (l0 : Option Value) (l1 : Option Value) (l3 : Option Value) (l4 : Option Value) (x : Int32) (st : List Value) (h : MH) (P : MP), mFr d 107 29 [l0, l1, some (.int x), l3, l4] st h P = mFr d 107 30 [l0, l1, some (.int x), l3, l4] (.int x :: st) h P) ∧
  (∀ (d : Nat) (loc : List (Option Value)) (st : List Value) (h : MH) (P : MP), mFr d 107 30 loc st h P = mFr d 107 31 loc (.int 1 :: st) h P) ∧
  (∀ (d : Nat) (loc : List (Option Value)) (b : Nat) (a0 : Int32) (a1 : Int32) (h : MH) (P : MP), mFr d 107 31 loc ((.int a1) :: (.int a0) :: .ref b :: []) h P = if mrcv h b 3 = true then mRun d 23 [.ref b, .int a0, .int a1] h (fun v h' => mFr d 107 34 loc (v.toList ++ []) h' P) else False) ∧
  (∀ (d : Nat) (loc : List (Option Value)) (x : Int32) (st : List Value) (h : MH) (P : MP), mFr d 107 34 loc (.int x :: st) h P = if x = 0 then mFr d 107 37 loc (st) h P else mFr d 107 40 loc (st) h P) := ⟨fun _ _ _ _ _ _ _ _ _ => (mFr_S mq107 h107_27).trans rfl,
  fun _ _ _ _ _ _ _ _ => (mFr_S mq107 h107_27).trans rfl,
  fun _ _ _ _ _ _ _ _ _ => (mFr_S mq107 h107_29).trans rfl,
  fun _ _ _ _ _ => (mFr_S mq107 h107_30).trans rfl,
  fun _ _ b a0 a1 _ _ => F_callV (as := [.int a0, .int a1]) (rest := []) mq107 (Or.inl h107_31) (rfl : _ = some (299, 6, 23, 1)) (Or.inl ⟨h107_31, by decide⟩) (by rfl) (by rfl) (by rfl) (Nat.le_of_ble_eq_true rfl),
  fun _ _ _ _ _ _ => (F_ifz 40 mq107 h107_34 (by decide)).trans mif_ne⟩
theorem E107_37 : (∀ (d : Nat) (loc : List (Option Value)) (st : List Value) (h : MH) (P : MP), mFr d 107 37 loc st h P = mFr d 107 39 loc (.int (-12) :: st) h P) ∧
  (∀ (d : Nat) (loc : List (Option Value)) (x : Int32) (h : MH) (P : MP), mFr d 107 39 loc [.int x] h P = P (some (.int x)) h) := ⟨fun _ _ _ _ _ => (mFr_S mq107 h107_37).trans rfl,
  fun _ _ _ _ _ => F_ret mq107 h107_39 rfl rfl⟩
theorem E107_40 : (∀ (d : Nat) (l0 : Option Value) (l1 : Option Value) (l2 : Option Value) (l3 : Option Value) (x : Nat) (st : List Value) (h : MH) (P : MP), mFr d 107 40 [l0, l1, l2, l3, some (.ref x)] st h P = mFr d 107 42 [l0, l1, l2, l3, some (.ref x)] (.ref x :: st) h P) ∧
  (∀ (d : Nat) (l0 : Option Value) (l1 : Option Value) (l2 : Option Value) (l3 : Option Value) (st : List Value) (h : MH) (P : MP), mFr d 107 40 [l0, l1, l2, l3, some .null] st h P = mFr d 107 42 [l0, l1, l2, l3, some .null] (.null :: st) h P) ∧
  (∀ (d : Nat) (l0 : Option Value) (l1 : Option Value) (l3 : Option Value) (l4 : Option Value) (x : Int32) (st : List Value) (h : MH) (P : MP), mFr d 107 42 [l0, l1, some (.int x), l3, l4] st h P = mFr d 107 43 [l0, l1, some (.int x), l3, l4] (.int x :: st) h P) ∧
  (∀ (d : Nat) (l0 : Option Value) (l1 : Option Value) (l2 : Option Value) (l4 : Option Value) (x : Int32) (st : List Value) (h : MH) (P : MP), mFr d 107 43 [l0, l1, l2, some (.int x), l4] st h P = mFr d 107 44 [l0, l1, l2, some (.int x), l4] (.int x :: st) h P) ∧
  (∀ (d : Nat) (loc : List (Option Value)) (b : Nat) (a0 : Int32) (a1 : Int32) (h : MH) (P : MP), mFr d 107 44 loc ((.int a1) :: (.int a0) :: .ref b :: []) h P = if mrcv h b 3 = true then mRun d 25 [.ref b, .int a0, .int a1] h (fun v h' => mFr d 107 47 loc (v.toList ++ []) h' P) else False) ∧
  (∀ (d : Nat) (loc : List (Option Value)) (st : List Value) (h : MH) (P : MP), mFr d 107 47 loc st h P = mFr d 107 48 loc (.int 1 :: st) h P) ∧
  (∀ (d : Nat) (loc : List (Option Value)) (x : Int32) (h : MH) (P : MP), mFr d 107 48 loc [.int x] h P = P (some (.int x)) h) := ⟨fun _ _ _ _ _ _ _ _ _ => (mFr_S mq107 h107_40).trans rfl,
  fun _ _ _ _ _ _ _ _ => (mFr_S mq107 h107_40).trans rfl,
  fun _ _ _ _ _ _ _ _ _ => (mFr_S mq107 h107_42).trans rfl,
  fun _ _ _ _ _ _ _ _ _ => (mFr_S mq107 h107_43).trans rfl,
  fun _ _ b a0 a1 _ _ => F_callV (as := [.int a0, .int a1]) (rest := []) mq107 (Or.inl h107_44) (rfl : _ = some (277, 6, 25, 1)) (Or.inl ⟨h107_44, by decide⟩) (by rfl) (by rfl) (by rfl) (Nat.le_of_ble_eq_true rfl),
  fun _ _ _ _ _ => (mFr_S mq107 h107_47).trans rfl,
  fun _ _ _ _ _ => F_ret mq107 h107_48 rfl rfl⟩
theorem B107 : ∀ (d : Nat) (b : Nat) (a0 : Int32) (a1 : Int32) (a2 : Int32) (h : MH) (P : MP), mRun (d + 1) 107 [.ref b, .int a0, .int a1, .int a2] h P = mFr d 107 0 [some (.ref b), some (.int a0), some (.int a1), some (.int a2), none] [] h P := fun _ _ _ _ _ _ _ => mRun_S mq107 (Nat.le_of_ble_eq_true rfl)
-- 108: PuncturesAreViews.copy(IIIII)I
def q108 : MI := (yX8_copy, cX8_copy, 8, (some .int), 8, 5)
theorem mq108 : mtab[108]? = some q108 := rfl
theorem h108_0 : mfetch q108.2.1 0 = some (.aload_n 0) := by decide +kernel
theorem h108_1 : mfetch q108.2.1 1 = some (.iload_n 1) := by decide +kernel
theorem h108_2 : mfetch q108.2.1 2 = some (.invokevirtual 247) := by decide +kernel
theorem h108_5 : mfetch q108.2.1 5 = some (.astore 6) := by decide +kernel
theorem h108_7 : mfetch q108.2.1 7 = some (.aload_n 0) := by decide +kernel
theorem h108_8 : mfetch q108.2.1 8 = some (.iload_n 3) := by decide +kernel
theorem h108_9 : mfetch q108.2.1 9 = some (.invokevirtual 247) := by decide +kernel
theorem h108_12 : mfetch q108.2.1 12 = some (.astore 7) := by decide +kernel
theorem h108_14 : mfetch q108.2.1 14 = some (.aload 6) := by decide +kernel
theorem h108_16 : mfetch q108.2.1 16 = some (.ifnull 8) := by decide +kernel
theorem h108_19 : mfetch q108.2.1 19 = some (.aload 7) := by decide +kernel
theorem h108_21 : mfetch q108.2.1 21 = some (.ifnonnull 6) := by decide +kernel
theorem h108_24 : mfetch q108.2.1 24 = some (.bipush (-2)) := by decide +kernel
theorem h108_26 : mfetch q108.2.1 26 = some (.ireturn) := by decide +kernel
theorem h108_27 : mfetch q108.2.1 27 = some (.aload 6) := by decide +kernel
theorem h108_29 : mfetch q108.2.1 29 = some (.getfield 254) := by decide +kernel
theorem h108_32 : mfetch q108.2.1 32 = some (.iconst (-1)) := by decide +kernel
theorem h108_33 : mfetch q108.2.1 33 = some (.if_icmp .eq 12) := by decide +kernel
theorem h108_36 : mfetch q108.2.1 36 = some (.aload 7) := by decide +kernel
theorem h108_38 : mfetch q108.2.1 38 = some (.getfield 254) := by decide +kernel
theorem h108_41 : mfetch q108.2.1 41 = some (.iconst (-1)) := by decide +kernel
theorem h108_42 : mfetch q108.2.1 42 = some (.if_icmp .ne 6) := by decide +kernel
theorem h108_45 : mfetch q108.2.1 45 = some (.bipush (-11)) := by decide +kernel
theorem h108_47 : mfetch q108.2.1 47 = some (.ireturn) := by decide +kernel
theorem h108_48 : mfetch q108.2.1 48 = some (.aload 6) := by decide +kernel
theorem h108_50 : mfetch q108.2.1 50 = some (.getfield 254) := by decide +kernel
theorem h108_53 : mfetch q108.2.1 53 = some (.aload 7) := by decide +kernel
theorem h108_55 : mfetch q108.2.1 55 = some (.getfield 254) := by decide +kernel
theorem h108_58 : mfetch q108.2.1 58 = some (.if_icmp .eq 6) := by decide +kernel
theorem h108_61 : mfetch q108.2.1 61 = some (.bipush (-13)) := by decide +kernel
theorem h108_63 : mfetch q108.2.1 63 = some (.ireturn) := by decide +kernel
theorem h108_64 : mfetch q108.2.1 64 = some (.aload 6) := by decide +kernel
theorem h108_66 : mfetch q108.2.1 66 = some (.iload_n 2) := by decide +kernel
theorem h108_67 : mfetch q108.2.1 67 = some (.iload 5) := by decide +kernel
theorem h108_69 : mfetch q108.2.1 69 = some (.invokevirtual 299) := by decide +kernel
theorem h108_72 : mfetch q108.2.1 72 = some (.ifCond .eq 15) := by decide +kernel
theorem h108_75 : mfetch q108.2.1 75 = some (.aload 7) := by decide +kernel
theorem h108_77 : mfetch q108.2.1 77 = some (.iload 4) := by decide +kernel
theorem h108_79 : mfetch q108.2.1 79 = some (.iload 5) := by decide +kernel
theorem h108_81 : mfetch q108.2.1 81 = some (.invokevirtual 299) := by decide +kernel
theorem h108_84 : mfetch q108.2.1 84 = some (.ifCond .ne 6) := by decide +kernel
theorem h108_87 : mfetch q108.2.1 87 = some (.bipush (-12)) := by decide +kernel
theorem h108_89 : mfetch q108.2.1 89 = some (.ireturn) := by decide +kernel
theorem h108_90 : mfetch q108.2.1 90 = some (.aload 6) := by decide +kernel
theorem h108_92 : mfetch q108.2.1 92 = some (.getfield 303) := by decide +kernel
theorem h108_95 : mfetch q108.2.1 95 = some (.iload_n 2) := by decide +kernel
theorem h108_96 : mfetch q108.2.1 96 = some (.aload 7) := by decide +kernel
theorem h108_98 : mfetch q108.2.1 98 = some (.getfield 303) := by decide +kernel
theorem h108_101 : mfetch q108.2.1 101 = some (.iload 4) := by decide +kernel
theorem h108_103 : mfetch q108.2.1 103 = some (.iload 5) := by decide +kernel
theorem h108_105 : mfetch q108.2.1 105 = some (.invokestatic 306) := by decide +kernel
theorem h108_108 : mfetch q108.2.1 108 = some (.iload 5) := by decide +kernel
theorem h108_110 : mfetch q108.2.1 110 = some (.ireturn) := by decide +kernel
theorem E108_0 : (∀ (d : Nat) (l1 : Option Value) (l2 : Option Value) (l3 : Option Value) (l4 : Option Value) (l5 : Option Value) (l6 : Option Value) (l7 : Option Value) (x : Nat) (st : List Value) (h : MH) (P : MP), mFr d 108 0 [some (.ref x), l1, l2, l3, l4, l5, l6, l7] st h P = mFr d 108 1 [some (.ref x), l1, l2, l3, l4, l5, l6, l7] (.ref x :: st) h P) ∧
  (∀ (d : Nat) (l0 : Option Value) (l2 : Option Value) (l3 : Option Value) (l4 : Option Value) (l5 : Option Value) (l6 : Option Value) (l7 : Option Value) (x : Int32) (st : List Value) (h : MH) (P : MP), mFr d 108 1 [l0, some (.int x), l2, l3, l4, l5, l6, l7] st h P = mFr d 108 2 [l0, some (.int x), l2, l3, l4, l5, l6, l7] (.int x :: st) h P) ∧
  (∀ (d : Nat) (loc : List (Option Value)) (b : Nat) (a0 : Int32) (h : MH) (P : MP), mFr d 108 2 loc ((.int a0) :: .ref b :: []) h P = if mrcv h b 8 = true then mRun d 112 [.ref b, .int a0] h (fun v h' => mFr d 108 5 loc (v.toList ++ []) h' P) else False) ∧
  (∀ (d : Nat) (l0 : Option Value) (l1 : Option Value) (l2 : Option Value) (l3 : Option Value) (l4 : Option Value) (l5 : Option Value) (l6 : Option Value) (l7 : Option Value) (x : Nat) (st : List Value) (h : MH) (P : MP), mnl l5 = true → mFr d 108 5 [l0, l1, l2, l3, l4, l5, l6, l7] (.ref x :: st) h P = mFr d 108 7 [l0, l1, l2, l3, l4, l5, some (.ref x), l7] (st) h P) ∧
  (∀ (d : Nat) (l0 : Option Value) (l1 : Option Value) (l2 : Option Value) (l3 : Option Value) (l4 : Option Value) (l5 : Option Value) (l6 : Option Value) (l7 : Option Value) (st : List Value) (h : MH) (P : MP), mnl l5 = true → mFr d 108 5 [l0, l1, l2, l3, l4, l5, l6, l7] (.null :: st) h P = mFr d 108 7 [l0, l1, l2, l3, l4, l5, some .null, l7] (st) h P) ∧
  (∀ (d : Nat) (l1 : Option Value) (l2 : Option Value) (l3 : Option Value) (l4 : Option Value) (l5 : Option Value) (l6 : Option Value) (l7 : Option Value) (x : Nat) (st : List Value) (h : MH) (P : MP), mFr d 108 7 [some (.ref x), l1, l2, l3, l4, l5, l6, l7] st h P = mFr d 108 8 [some (.ref x), l1, l2, l3, l4, l5, l6, l7] (.ref x :: st) h P) ∧
  (∀ (d : Nat) (l0 : Option Value) (l1 : Option Value) (l2 : Option Value) (l4 : Option Value) (l5 : Option Value) (l6 : Option Value) (l7 : Option Value) (x : Int32) (st : List Value) (h : MH) (P : MP), mFr d 108 8 [l0, l1, l2, some (.int x), l4, l5, l6, l7] st h P = mFr d 108 9 [l0, l1, l2, some (.int x), l4, l5, l6, l7] (.int x :: st) h P) ∧
  (∀ (d : Nat) (loc : List (Option Value)) (b : Nat) (a0 : Int32) (h : MH) (P : MP), mFr d 108 9 loc ((.int a0) :: .ref b :: []) h P = if mrcv h b 8 = true then mRun d 112 [.ref b, .int a0] h (fun v h' => mFr d 108 12 loc (v.toList ++ []) h' P) else False) ∧
  (∀ (d : Nat) (l0 : Option Value) (l1 : Option Value) (l2 : Option Value) (l3 : Option Value) (l4 : Option Value) (l5 : Option Value) (l6 : Option Value) (l7 : Option Value) (x : Nat) (st : List Value) (h : MH) (P : MP), mnl l6 = true → mFr d 108 12 [l0, l1, l2, l3, l4, l5, l6, l7] (.ref x :: st) h P = mFr d 108 14 [l0, l1, l2, l3, l4, l5, l6, some (.ref x)] (st) h P) ∧
  (∀ (d : Nat) (l0 : Option Value) (l1 : Option Value) (l2 : Option Value) (l3 : Option Value) (l4 : Option Value) (l5 : Option Value) (l6 : Option Value) (l7 : Option Value) (st : List Value) (h : MH) (P : MP), mnl l6 = true → mFr d 108 12 [l0, l1, l2, l3, l4, l5, l6, l7] (.null :: st) h P = mFr d 108 14 [l0, l1, l2, l3, l4, l5, l6, some .null] (st) h P) ∧
  (∀ (d : Nat) (l0 : Option Value) (l1 : Option Value) (l2 : Option Value) (l3 : Option Value) (l4 : Option Value) (l5 : Option Value) (l7 : Option Value) (x : Nat) (st : List Value) (h : MH) (P : MP), mFr d 108 14 [l0, l1, l2, l3, l4, l5, some (.ref x), l7] st h P = mFr d 108 16 [l0, l1, l2, l3, l4, l5, some (.ref x), l7] (.ref x :: st) h P) ∧
  (∀ (d : Nat) (l0 : Option Value) (l1 : Option Value) (l2 : Option Value) (l3 : Option Value) (l4 : Option Value) (l5 : Option Value) (l7 : Option Value) (st : List Value) (h : MH) (P : MP), mFr d 108 14 [l0, l1, l2, l3, l4, l5, some .null, l7] st h P = mFr d 108 16 [l0, l1, l2, l3, l4, l5, some .null, l7] (.null :: st) h P) ∧
  (∀ (d : Nat) (loc : List (Option Value)) (x : Nat) (st : List Value) (h : MH) (P : MP), mFr d 108 16 loc (.ref x :: st) h P = if x < 900 then mFr d 108 19 loc (st) h P else False) ∧
  (∀ (d : Nat) (loc : List (Option Value)) (st : List Value) (h : MH) (P : MP), mFr d 108 16 loc (.null :: st) h P = mFr d 108 24 loc (st) h P) := ⟨fun _ _ _ _ _ _ _ _ _ _ _ _ => (mFr_S mq108 h108_0).trans rfl,
  fun _ _ _ _ _ _ _ _ _ _ _ _ => (mFr_S mq108 h108_1).trans rfl,
  fun _ _ b a0 _ _ => F_callV (as := [.int a0]) (rest := []) mq108 (Or.inl h108_2) (rfl : _ = some (247, 6, 112, 0)) (Or.inl ⟨h108_2, by decide⟩) (by rfl) (by rfl) (by rfl) (Nat.le_of_ble_eq_true rfl),
  fun _ _ _ _ _ _ _ _ _ _ _ _ _ hm => (mFr_S mq108 h108_5).trans (by simp only [mgo.eq_1, mstep, mi1, ml1, mast, mst, mst2, mprev, List.length_cons, List.length_nil, List.getElem?_cons_succ, List.getElem?_cons_zero, hm]; rfl),
  fun _ _ _ _ _ _ _ _ _ _ _ _ hm => (mFr_S mq108 h108_5).trans (by simp only [mgo.eq_1, mstep, mi1, ml1, mast, mst, mst2, mprev, List.length_cons, List.length_nil, List.getElem?_cons_succ, List.getElem?_cons_zero, hm]; rfl),
  fun _ _ _ _ _ _ _ _ _ _ _ _ => (mFr_S mq108 h108_7).trans rfl,
  fun _ _ _ _ _ _ _ _ _ _ _ _ => (mFr_S mq108 h108_8).trans rfl,
  fun _ _ b a0 _ _ => F_callV (as := [.int a0]) (rest := []) mq108 (Or.inl h108_9) (rfl : _ = some (247, 6, 112, 0)) (Or.inl ⟨h108_9, by decide⟩) (by rfl) (by rfl) (by rfl) (Nat.le_of_ble_eq_true rfl),
  fun _ _ _ _ _ _ _ _ _ _ _ _ _ hm => (mFr_S mq108 h108_12).trans (by simp only [mgo.eq_1, mstep, mi1, ml1, mast, mst, mst2, mprev, List.length_cons, List.length_nil, List.getElem?_cons_succ, List.getElem?_cons_zero, hm]; rfl),
  fun _ _ _ _ _ _ _ _ _ _ _ _ hm => (mFr_S mq108 h108_12).trans (by simp only [mgo.eq_1, mstep, mi1, ml1, mast, mst, mst2, mprev, List.length_cons, List.length_nil, List.getElem?_cons_succ, List.getElem?_cons_zero, hm]; rfl),
  fun _ _ _ _ _ _ _ _ _ _ _ _ => (mFr_S mq108 h108_14).trans rfl,
  fun _ _ _ _ _ _ _ _ _ _ _ => (mFr_S mq108 h108_14).trans rfl,
  fun _ _ _ _ _ _ => F_ifnullR mq108 h108_16,
  fun _ _ _ _ _ => F_ifnullN 24 mq108 h108_16 (by decide)⟩
theorem E108_19 : (∀ (d : Nat) (l0 : Option Value) (l1 : Option Value) (l2 : Option Value) (l3 : Option Value) (l4 : Option Value) (l5 : Option Value) (l6 : Option Value) (x : Nat) (st : List Value) (h : MH) (P : MP), mFr d 108 19 [l0, l1, l2, l3, l4, l5, l6, some (.ref x)] st h P = mFr d 108 21 [l0, l1, l2, l3, l4, l5, l6, some (.ref x)] (.ref x :: st) h P) ∧
  (∀ (d : Nat) (l0 : Option Value) (l1 : Option Value) (l2 : Option Value) (l3 : Option Value) (l4 : Option Value) (l5 : Option Value) (l6 : Option Value) (st : List Value) (h : MH) (P : MP), mFr d 108 19 [l0, l1, l2, l3, l4, l5, l6, some .null] st h P = mFr d 108 21 [l0, l1, l2, l3, l4, l5, l6, some .null] (.null :: st) h P) ∧
  (∀ (d : Nat) (loc : List (Option Value)) (x : Nat) (st : List Value) (h : MH) (P : MP), mFr d 108 21 loc (.ref x :: st) h P = if x < 900 then mFr d 108 27 loc (st) h P else False) ∧
  (∀ (d : Nat) (loc : List (Option Value)) (st : List Value) (h : MH) (P : MP), mFr d 108 21 loc (.null :: st) h P = mFr d 108 24 loc (st) h P) := ⟨fun _ _ _ _ _ _ _ _ _ _ _ _ => (mFr_S mq108 h108_19).trans rfl,
  fun _ _ _ _ _ _ _ _ _ _ _ => (mFr_S mq108 h108_19).trans rfl,
  fun _ _ _ _ _ _ => F_ifnonnullR 27 mq108 h108_21 (by decide),
  fun _ _ _ _ _ => (mFr_S mq108 h108_21).trans rfl⟩
theorem E108_24 : (∀ (d : Nat) (loc : List (Option Value)) (st : List Value) (h : MH) (P : MP), mFr d 108 24 loc st h P = mFr d 108 26 loc (.int (-2) :: st) h P) ∧
  (∀ (d : Nat) (loc : List (Option Value)) (x : Int32) (h : MH) (P : MP), mFr d 108 26 loc [.int x] h P = P (some (.int x)) h) := ⟨fun _ _ _ _ _ => (mFr_S mq108 h108_24).trans rfl,
  fun _ _ _ _ _ => F_ret mq108 h108_26 rfl rfl⟩
theorem E108_27 : (∀ (d : Nat) (l0 : Option Value) (l1 : Option Value) (l2 : Option Value) (l3 : Option Value) (l4 : Option Value) (l5 : Option Value) (l7 : Option Value) (x : Nat) (st : List Value) (h : MH) (P : MP), mFr d 108 27 [l0, l1, l2, l3, l4, l5, some (.ref x), l7] st h P = mFr d 108 29 [l0, l1, l2, l3, l4, l5, some (.ref x), l7] (.ref x :: st) h P) ∧
  (∀ (d : Nat) (l0 : Option Value) (l1 : Option Value) (l2 : Option Value) (l3 : Option Value) (l4 : Option Value) (l5 : Option Value) (l7 : Option Value) (st : List Value) (h : MH) (P : MP), mFr d 108 27 [l0, l1, l2, l3, l4, l5, some .null, l7] st h P = mFr d 108 29 [l0, l1, l2, l3, l4, l5, some .null, l7] (.null :: st) h P) ∧
  (∀ (d : Nat) (loc : List (Option Value)) (a : Nat) (st : List Value) (h : MH) (P : MP), mFr d 108 29 loc (.ref a :: st) h P = pget h a 3 1 (fun v => mFr d 108 32 loc (v :: st) h P)) ∧
  (∀ (d : Nat) (loc : List (Option Value)) (st : List Value) (h : MH) (P : MP), mFr d 108 32 loc st h P = mFr d 108 33 loc (.int (-1) :: st) h P) ∧
  (∀ (d : Nat) (loc : List (Option Value)) (x y : Int32) (st : List Value) (h : MH) (P : MP), mFr d 108 33 loc (.int y :: .int x :: st) h P = if x = y then mFr d 108 45 loc (st) h P else mFr d 108 36 loc (st) h P) := ⟨fun _ _ _ _ _ _ _ _ _ _ _ _ => (mFr_S mq108 h108_27).trans rfl,
  fun _ _ _ _ _ _ _ _ _ _ _ => (mFr_S mq108 h108_27).trans rfl,
  fun _ _ _ _ _ _ => F_get mq108 h108_29 (Or.inr (rfl : _ = some (254, 1, 3, 1))),
  fun _ _ _ _ _ => (mFr_S mq108 h108_32).trans rfl,
  fun _ _ _ _ _ _ _ => (F_icmp 45 mq108 h108_33 (by decide)).trans mif_eq⟩
theorem E108_36 : (∀ (d : Nat) (l0 : Option Value) (l1 : Option Value) (l2 : Option Value) (l3 : Option Value) (l4 : Option Value) (l5 : Option Value) (l6 : Option Value) (x : Nat) (st : List Value) (h : MH) (P : MP), mFr d 108 36 [l0, l1, l2, l3, l4, l5, l6, some (.ref x)] st h P = mFr d 108 38 [l0, l1, l2, l3, l4, l5, l6, some (.ref x)] (.ref x :: st) h P) ∧
  (∀ (d : Nat) (l0 : Option Value) (l1 : Option Value) (l2 : Option Value) (l3 : Option Value) (l4 : Option Value) (l5 : Option Value) (l6 : Option Value) (st : List Value) (h : MH) (P : MP), mFr d 108 36 [l0, l1, l2, l3, l4, l5, l6, some .null] st h P = mFr d 108 38 [l0, l1, l2, l3, l4, l5, l6, some .null] (.null :: st) h P) ∧
  (∀ (d : Nat) (loc : List (Option Value)) (a : Nat) (st : List Value) (h : MH) (P : MP), mFr d 108 38 loc (.ref a :: st) h P = pget h a 3 1 (fun v => mFr d 108 41 loc (v :: st) h P)) ∧
  (∀ (d : Nat) (loc : List (Option Value)) (st : List Value) (h : MH) (P : MP), mFr d 108 41 loc st h P = mFr d 108 42 loc (.int (-1) :: st) h P) ∧
  (∀ (d : Nat) (loc : List (Option Value)) (x y : Int32) (st : List Value) (h : MH) (P : MP), mFr d 108 42 loc (.int y :: .int x :: st) h P = if x = y then mFr d 108 45 loc (st) h P else mFr d 108 48 loc (st) h P) := ⟨fun _ _ _ _ _ _ _ _ _ _ _ _ => (mFr_S mq108 h108_36).trans rfl,
  fun _ _ _ _ _ _ _ _ _ _ _ => (mFr_S mq108 h108_36).trans rfl,
  fun _ _ _ _ _ _ => F_get mq108 h108_38 (Or.inr (rfl : _ = some (254, 1, 3, 1))),
  fun _ _ _ _ _ => (mFr_S mq108 h108_41).trans rfl,
  fun _ _ _ _ _ _ _ => (F_icmp 48 mq108 h108_42 (by decide)).trans mif_ne⟩
theorem E108_45 : (∀ (d : Nat) (loc : List (Option Value)) (st : List Value) (h : MH) (P : MP), mFr d 108 45 loc st h P = mFr d 108 47 loc (.int (-11) :: st) h P) ∧
  (∀ (d : Nat) (loc : List (Option Value)) (x : Int32) (h : MH) (P : MP), mFr d 108 47 loc [.int x] h P = P (some (.int x)) h) := ⟨fun _ _ _ _ _ => (mFr_S mq108 h108_45).trans rfl,
  fun _ _ _ _ _ => F_ret mq108 h108_47 rfl rfl⟩
theorem E108_48 : (∀ (d : Nat) (l0 : Option Value) (l1 : Option Value) (l2 : Option Value) (l3 : Option Value) (l4 : Option Value) (l5 : Option Value) (l7 : Option Value) (x : Nat) (st : List Value) (h : MH) (P : MP), mFr d 108 48 [l0, l1, l2, l3, l4, l5, some (.ref x), l7] st h P = mFr d 108 50 [l0, l1, l2, l3, l4, l5, some (.ref x), l7] (.ref x :: st) h P) ∧
  (∀ (d : Nat) (l0 : Option Value) (l1 : Option Value) (l2 : Option Value) (l3 : Option Value) (l4 : Option Value) (l5 : Option Value) (l7 : Option Value) (st : List Value) (h : MH) (P : MP), mFr d 108 48 [l0, l1, l2, l3, l4, l5, some .null, l7] st h P = mFr d 108 50 [l0, l1, l2, l3, l4, l5, some .null, l7] (.null :: st) h P) ∧
  (∀ (d : Nat) (loc : List (Option Value)) (a : Nat) (st : List Value) (h : MH) (P : MP), mFr d 108 50 loc (.ref a :: st) h P = pget h a 3 1 (fun v => mFr d 108 53 loc (v :: st) h P)) ∧
  (∀ (d : Nat) (l0 : Option Value) (l1 : Option Value) (l2 : Option Value) (l3 : Option Value) (l4 : Option Value) (l5 : Option Value) (l6 : Option Value) (x : Nat) (st : List Value) (h : MH) (P : MP), mFr d 108 53 [l0, l1, l2, l3, l4, l5, l6, some (.ref x)] st h P = mFr d 108 55 [l0, l1, l2, l3, l4, l5, l6, some (.ref x)] (.ref x :: st) h P) ∧
  (∀ (d : Nat) (l0 : Option Value) (l1 : Option Value) (l2 : Option Value) (l3 : Option Value) (l4 : Option Value) (l5 : Option Value) (l6 : Option Value) (st : List Value) (h : MH) (P : MP), mFr d 108 53 [l0, l1, l2, l3, l4, l5, l6, some .null] st h P = mFr d 108 55 [l0, l1, l2, l3, l4, l5, l6, some .null] (.null :: st) h P) ∧
  (∀ (d : Nat) (loc : List (Option Value)) (a : Nat) (st : List Value) (h : MH) (P : MP), mFr d 108 55 loc (.ref a :: st) h P = pget h a 3 1 (fun v => mFr d 108 58 loc (v :: st) h P)) ∧
  (∀ (d : Nat) (loc : List (Option Value)) (x y : Int32) (st : List Value) (h : MH) (P : MP), mFr d 108 58 loc (.int y :: .int x :: st) h P = if x = y then mFr d 108 64 loc (st) h P else mFr d 108 61 loc (st) h P) := ⟨fun _ _ _ _ _ _ _ _ _ _ _ _ => (mFr_S mq108 h108_48).trans rfl,
  fun _ _ _ _ _ _ _ _ _ _ _ => (mFr_S mq108 h108_48).trans rfl,
  fun _ _ _ _ _ _ => F_get mq108 h108_50 (Or.inr (rfl : _ = some (254, 1, 3, 1))),
  fun _ _ _ _ _ _ _ _ _ _ _ _ => (mFr_S mq108 h108_53).trans rfl,
  fun _ _ _ _ _ _ _ _ _ _ _ => (mFr_S mq108 h108_53).trans rfl,
  fun _ _ _ _ _ _ => F_get mq108 h108_55 (Or.inr (rfl : _ = some (254, 1, 3, 1))),
  fun _ _ _ _ _ _ _ => (F_icmp 64 mq108 h108_58 (by decide)).trans mif_eq⟩
theorem E108_61 : (∀ (d : Nat) (loc : List (Option Value)) (st : List Value) (h : MH) (P : MP), mFr d 108 61 loc st h P = mFr d 108 63 loc (.int (-13) :: st) h P) ∧
  (∀ (d : Nat) (loc : List (Option Value)) (x : Int32) (h : MH) (P : MP), mFr d 108 63 loc [.int x] h P = P (some (.int x)) h) := ⟨fun _ _ _ _ _ => (mFr_S mq108 h108_61).trans rfl,
  fun _ _ _ _ _ => F_ret mq108 h108_63 rfl rfl⟩
theorem E108_64 : (∀ (d : Nat) (l0 : Option Value) (l1 : Option Value) (l2 : Option Value) (l3 : Option Value) (l4 : Option Value) (l5 : Option Value) (l7 : Option Value) (x : Nat) (st : List Value) (h : MH) (P : MP), mFr d 108 64 [l0, l1, l2, l3, l4, l5, some (.ref x), l7] st h P = mFr d 108 66 [l0, l1, l2, l3, l4, l5, some (.ref x), l7] (.ref x :: st) h P) ∧
  (∀ (d : Nat) (l0 : Option Value) (l1 : Option Value) (l2 : Option Value) (l3 : Option Value) (l4 : Option Value) (l5 : Option Value) (l7 : Option Value) (st : List Value) (h : MH) (P : MP), mFr d 108 64 [l0, l1, l2, l3, l4, l5, some .null, l7] st h P = mFr d 108 66 [l0, l1, l2, l3, l4, l5, some .null, l7] (.null :: st) h P) ∧
  (∀ (d : Nat) (l0 : Option Value) (l1 : Option Value) (l3 : Option Value) (l4 : Option Value) (l5 : Option Value) (l6 : Option Value) (l7 : Option Value) (x : Int32) (st : List Value) (h : MH) (P : MP), mFr d 108 66 [l0, l1, some (.int x), l3, l4, l5, l6, l7] st h P = mFr d 108 67 [l0, l1, some (.int x), l3, l4, l5, l6, l7] (.int x :: st) h P) ∧
  (∀ (d : Nat) (l0 : Option Value) (l1 : Option Value) (l2 : Option Value) (l3 : Option Value) (l4 : Option Value) (l6 : Option Value) (l7 : Option Value) (x : Int32) (st : List Value) (h : MH) (P : MP), mFr d 108 67 [l0, l1, l2, l3, l4, some (.int x), l6, l7] st h P = mFr d 108 69 [l0, l1, l2, l3, l4, some (.int x), l6, l7] (.int x :: st) h P) ∧
  (∀ (d : Nat) (loc : List (Option Value)) (b : Nat) (a0 : Int32) (a1 : Int32) (h : MH) (P : MP), mFr d 108 69 loc ((.int a1) :: (.int a0) :: .ref b :: []) h P = if mrcv h b 3 = true then mRun d 23 [.ref b, .int a0, .int a1] h (fun v h' => mFr d 108 72 loc (v.toList ++ []) h' P) else False) ∧
  (∀ (d : Nat) (loc : List (Option Value)) (x : Int32) (st : List Value) (h : MH) (P : MP), mFr d 108 72 loc (.int x :: st) h P = if x = 0 then mFr d 108 87 loc (st) h P else mFr d 108 75 loc (st) h P) := ⟨fun _ _ _ _ _ _ _ _ _ _ _ _ => (mFr_S mq108 h108_64).trans rfl,
  fun _ _ _ _ _ _ _ _ _ _ _ => (mFr_S mq108 h108_64).trans rfl,
  fun _ _ _ _ _ _ _ _ _ _ _ _ => (mFr_S mq108 h108_66).trans rfl,
  fun _ _ _ _ _ _ _ _ _ _ _ _ => (mFr_S mq108 h108_67).trans rfl,
  fun _ _ b a0 a1 _ _ => F_callV (as := [.int a0, .int a1]) (rest := []) mq108 (Or.inl h108_69) (rfl : _ = some (299, 6, 23, 1)) (Or.inl ⟨h108_69, by decide⟩) (by rfl) (by rfl) (by rfl) (Nat.le_of_ble_eq_true rfl),
  fun _ _ _ _ _ _ => (F_ifz 87 mq108 h108_72 (by decide)).trans mif_eq⟩
theorem E108_75 : (∀ (d : Nat) (l0 : Option Value) (l1 : Option Value) (l2 : Option Value) (l3 : Option Value) (l4 : Option Value) (l5 : Option Value) (l6 : Option Value) (x : Nat) (st : List Value) (h : MH) (P : MP), mFr d 108 75 [l0, l1, l2, l3, l4, l5, l6, some (.ref x)] st h P = mFr d 108 77 [l0, l1, l2, l3, l4, l5, l6, some (.ref x)] (.ref x :: st) h P) ∧
  (∀ (d : Nat) (l0 : Option Value) (l1 : Option Value) (l2 : Option Value) (l3 : Option Value) (l4 : Option Value) (l5 : Option Value) (l6 : Option Value) (st : List Value) (h : MH) (P : MP), mFr d 108 75 [l0, l1, l2, l3, l4, l5, l6, some .null] st h P = mFr d 108 77 [l0, l1, l2, l3, l4, l5, l6, some .null] (.null :: st) h P) ∧
  (∀ (d : Nat) (l0 : Option Value) (l1 : Option Value) (l2 : Option Value) (l3 : Option Value) (l5 : Option Value) (l6 : Option Value) (l7 : Option Value) (x : Int32) (st : List Value) (h : MH) (P : MP), mFr d 108 77 [l0, l1, l2, l3, some (.int x), l5, l6, l7] st h P = mFr d 108 79 [l0, l1, l2, l3, some (.int x), l5, l6, l7] (.int x :: st) h P) ∧
  (∀ (d : Nat) (l0 : Option Value) (l1 : Option Value) (l2 : Option Value) (l3 : Option Value) (l4 : Option Value) (l6 : Option Value) (l7 : Option Value) (x : Int32) (st : List Value) (h : MH) (P : MP), mFr d 108 79 [l0, l1, l2, l3, l4, some (.int x), l6, l7] st h P = mFr d 108 81 [l0, l1, l2, l3, l4, some (.int x), l6, l7] (.int x :: st) h P) ∧
  (∀ (d : Nat) (loc : List (Option Value)) (b : Nat) (a0 : Int32) (a1 : Int32) (h : MH) (P : MP), mFr d 108 81 loc ((.int a1) :: (.int a0) :: .ref b :: []) h P = if mrcv h b 3 = true then mRun d 23 [.ref b, .int a0, .int a1] h (fun v h' => mFr d 108 84 loc (v.toList ++ []) h' P) else False) ∧
  (∀ (d : Nat) (loc : List (Option Value)) (x : Int32) (st : List Value) (h : MH) (P : MP), mFr d 108 84 loc (.int x :: st) h P = if x = 0 then mFr d 108 87 loc (st) h P else mFr d 108 90 loc (st) h P) := ⟨fun _ _ _ _ _ _ _ _ _ _ _ _ => (mFr_S mq108 h108_75).trans rfl,
  fun _ _ _ _ _ _ _ _ _ _ _ => (mFr_S mq108 h108_75).trans rfl,
  fun _ _ _ _ _ _ _ _ _ _ _ _ => (mFr_S mq108 h108_77).trans rfl,
  fun _ _ _ _ _ _ _ _ _ _ _ _ => (mFr_S mq108 h108_79).trans rfl,
  fun _ _ b a0 a1 _ _ => F_callV (as := [.int a0, .int a1]) (rest := []) mq108 (Or.inl h108_81) (rfl : _ = some (299, 6, 23, 1)) (Or.inl ⟨h108_81, by decide⟩) (by rfl) (by rfl) (by rfl) (Nat.le_of_ble_eq_true rfl),
  fun _ _ _ _ _ _ => (F_ifz 90 mq108 h108_84 (by decide)).trans mif_ne⟩
theorem E108_87 : (∀ (d : Nat) (loc : List (Option Value)) (st : List Value) (h : MH) (P : MP), mFr d 108 87 loc st h P = mFr d 108 89 loc (.int (-12) :: st) h P) ∧
  (∀ (d : Nat) (loc : List (Option Value)) (x : Int32) (h : MH) (P : MP), mFr d 108 89 loc [.int x] h P = P (some (.int x)) h) := ⟨fun _ _ _ _ _ => (mFr_S mq108 h108_87).trans rfl,
  fun _ _ _ _ _ => F_ret mq108 h108_89 rfl rfl⟩
theorem E108_90 : (∀ (d : Nat) (l0 : Option Value) (l1 : Option Value) (l2 : Option Value) (l3 : Option Value) (l4 : Option Value) (l5 : Option Value) (l7 : Option Value) (x : Nat) (st : List Value) (h : MH) (P : MP), mFr d 108 90 [l0, l1, l2, l3, l4, l5, some (.ref x), l7] st h P = mFr d 108 92 [l0, l1, l2, l3, l4, l5, some (.ref x), l7] (.ref x :: st) h P) ∧
  (∀ (d : Nat) (l0 : Option Value) (l1 : Option Value) (l2 : Option Value) (l3 : Option Value) (l4 : Option Value) (l5 : Option Value) (l7 : Option Value) (st : List Value) (h : MH) (P : MP), mFr d 108 90 [l0, l1, l2, l3, l4, l5, some .null, l7] st h P = mFr d 108 92 [l0, l1, l2, l3, l4, l5, some .null, l7] (.null :: st) h P) ∧
  (∀ (d : Nat) (loc : List (Option Value)) (a : Nat) (st : List Value) (h : MH) (P : MP), mFr d 108 92 loc (.ref a :: st) h P = pget h a 3 0 (fun v => mFr d 108 95 loc (v :: st) h P)) ∧
  (∀ (d : Nat) (l0 : Option Value) (l1 : Option Value) (l3 : Option Value) (l4 : Option Value) (l5 : Option Value) (l6 : Option Value) (l7 : Option Value) (x : Int32) (st : List Value) (h : MH) (P : MP), mFr d 108 95 [l0, l1, some (.int x), l3, l4, l5, l6, l7] st h P = mFr d 108 96 [l0, l1, some (.int x), l3, l4, l5, l6, l7] (.int x :: st) h P) ∧
  (∀ (d : Nat) (l0 : Option Value) (l1 : Option Value) (l2 : Option Value) (l3 : Option Value) (l4 : Option Value) (l5 : Option Value) (l6 : Option Value) (x : Nat) (st : List Value) (h : MH) (P : MP), mFr d 108 96 [l0, l1, l2, l3, l4, l5, l6, some (.ref x)] st h P = mFr d 108 98 [l0, l1, l2, l3, l4, l5, l6, some (.ref x)] (.ref x :: st) h P) ∧
  (∀ (d : Nat) (l0 : Option Value) (l1 : Option Value) (l2 : Option Value) (l3 : Option Value) (l4 : Option Value) (l5 : Option Value) (l6 : Option Value) (st : List Value) (h : MH) (P : MP), mFr d 108 96 [l0, l1, l2, l3, l4, l5, l6, some .null] st h P = mFr d 108 98 [l0, l1, l2, l3, l4, l5, l6, some .null] (.null :: st) h P) ∧
  (∀ (d : Nat) (loc : List (Option Value)) (a : Nat) (st : List Value) (h : MH) (P : MP), mFr d 108 98 loc (.ref a :: st) h P = pget h a 3 0 (fun v => mFr d 108 101 loc (v :: st) h P)) ∧
  (∀ (d : Nat) (l0 : Option Value) (l1 : Option Value) (l2 : Option Value) (l3 : Option Value) (l5 : Option Value) (l6 : Option Value) (l7 : Option Value) (x : Int32) (st : List Value) (h : MH) (P : MP), mFr d 108 101 [l0, l1, l2, l3, some (.int x), l5, l6, l7] st h P = mFr d 108 103 [l0, l1, l2, l3, some (.int x), l5, l6, l7] (.int x :: st) h P) ∧
  (∀ (d : Nat) (l0 : Option Value) (l1 : Option Value) (l2 : Option Value) (l3 : Option Value) (l4 : Option Value) (l6 : Option Value) (l7 : Option Value) (x : Int32) (st : List Value) (h : MH) (P : MP), mFr d 108 103 [l0, l1, l2, l3, l4, some (.int x), l6, l7] st h P = mFr d 108 105 [l0, l1, l2, l3, l4, some (.int x), l6, l7] (.int x :: st) h P) ∧
  (∀ (d : Nat) (loc : List (Option Value)) (a b : Nat) (sp dp n : Int32) (h : MH) (P : MP), mFr d 108 105 loc [.int n, .int dp, .ref b, .int sp, .ref a] h P = pcopy h a sp b dp n (fun h' => mFr d 108 108 loc ([]) h' P)) ∧
  (∀ (d : Nat) (l0 : Option Value) (l1 : Option Value) (l2 : Option Value) (l3 : Option Value) (l4 : Option Value) (l6 : Option Value) (l7 : Option Value) (x : Int32) (st : List Value) (h : MH) (P : MP), mFr d 108 108 [l0, l1, l2, l3, l4, some (.int x), l6, l7] st h P = mFr d 108 110 [l0, l1, l2, l3, l4, some (.int x), l6, l7] (.int x :: st) h P) ∧
  (∀ (d : Nat) (loc : List (Option Value)) (x : Int32) (h : MH) (P : MP), mFr d 108 110 loc [.int x] h P = P (some (.int x)) h) := ⟨fun _ _ _ _ _ _ _ _ _ _ _ _ => (mFr_S mq108 h108_90).trans rfl,
  fun _ _ _ _ _ _ _ _ _ _ _ => (mFr_S mq108 h108_90).trans rfl,
  fun _ _ _ _ _ _ => F_get mq108 h108_92 (Or.inr (rfl : _ = some (303, 1, 3, 0))),
  fun _ _ _ _ _ _ _ _ _ _ _ _ => (mFr_S mq108 h108_95).trans rfl,
  fun _ _ _ _ _ _ _ _ _ _ _ _ => (mFr_S mq108 h108_96).trans rfl,
  fun _ _ _ _ _ _ _ _ _ _ _ => (mFr_S mq108 h108_96).trans rfl,
  fun _ _ _ _ _ _ => F_get mq108 h108_98 (Or.inr (rfl : _ = some (303, 1, 3, 0))),
  fun _ _ _ _ _ _ _ _ _ _ _ _ => (mFr_S mq108 h108_101).trans rfl,
  fun _ _ _ _ _ _ _ _ _ _ _ _ => (mFr_S mq108 h108_103).trans rfl,
  fun _ _ _ _ _ _ _ _ _ => F_copy mq108 h108_105 (rfl : _ = some (306, 8, 0, 0)) (Nat.zero_le _),
  fun _ _ _ _ _ _ _ _ _ _ _ _ => (mFr_S mq108 h108_108).trans rfl,
  fun _ _ _ _ _ => F_ret mq108 h108_110 rfl rfl⟩
theorem B108 : ∀ (d : Nat) (b : Nat) (a0 : Int32) (a1 : Int32) (a2 : Int32) (a3 : Int32) (a4 : Int32) (h : MH) (P : MP), mRun (d + 1) 108 [.ref b, .int a0, .int a1, .int a2, .int a3, .int a4] h P = mFr d 108 0 [some (.ref b), some (.int a0), some (.int a1), some (.int a2), some (.int a3), some (.int a4), none, none] [] h P := fun _ _ _ _ _ _ _ _ _ => mRun_S mq108 (Nat.le_of_ble_eq_true rfl)
-- 109: PuncturesAreViews.riders(IIII)I loops at [65]
def q109 : MI := (yX8_riders, cX8_riders, 9, (some .int), 8, 4)
theorem mq109 : mtab[109]? = some q109 := rfl
theorem h109_0 : mfetch q109.2.1 0 = some (.aload_n 0) := by decide +kernel
theorem h109_1 : mfetch q109.2.1 1 = some (.iload_n 1) := by decide +kernel
theorem h109_2 : mfetch q109.2.1 2 = some (.invokevirtual 247) := by decide +kernel
theorem h109_5 : mfetch q109.2.1 5 = some (.astore 5) := by decide +kernel
theorem h109_7 : mfetch q109.2.1 7 = some (.aload 5) := by decide +kernel
theorem h109_9 : mfetch q109.2.1 9 = some (.ifnull 23) := by decide +kernel
theorem h109_12 : mfetch q109.2.1 12 = some (.iload_n 2) := by decide +kernel
theorem h109_13 : mfetch q109.2.1 13 = some (.ifCond .lt 19) := by decide +kernel
theorem h109_16 : mfetch q109.2.1 16 = some (.iload_n 2) := by decide +kernel
theorem h109_17 : mfetch q109.2.1 17 = some (.iconst 2) := by decide +kernel
theorem h109_18 : mfetch q109.2.1 18 = some (.if_icmp .gt 14) := by decide +kernel
theorem h109_21 : mfetch q109.2.1 21 = some (.iload 4) := by decide +kernel
theorem h109_23 : mfetch q109.2.1 23 = some (.ifCond .lt 9) := by decide +kernel
theorem h109_26 : mfetch q109.2.1 26 = some (.iload 4) := by decide +kernel
theorem h109_28 : mfetch q109.2.1 28 = some (.iconst 5) := by decide +kernel
theorem h109_29 : mfetch q109.2.1 29 = some (.if_icmp .le 6) := by decide +kernel
theorem h109_32 : mfetch q109.2.1 32 = some (.bipush (-2)) := by decide +kernel
theorem h109_34 : mfetch q109.2.1 34 = some (.ireturn) := by decide +kernel
theorem h109_35 : mfetch q109.2.1 35 = some (.aload 5) := by decide +kernel
theorem h109_37 : mfetch q109.2.1 37 = some (.getfield 254) := by decide +kernel
theorem h109_40 : mfetch q109.2.1 40 = some (.iconst (-1)) := by decide +kernel
theorem h109_41 : mfetch q109.2.1 41 = some (.if_icmp .ne 6) := by decide +kernel
theorem h109_44 : mfetch q109.2.1 44 = some (.bipush (-11)) := by decide +kernel
theorem h109_46 : mfetch q109.2.1 46 = some (.ireturn) := by decide +kernel
theorem h109_47 : mfetch q109.2.1 47 = some (.aload 5) := by decide +kernel
theorem h109_49 : mfetch q109.2.1 49 = some (.getfield 254) := by decide +kernel
theorem h109_52 : mfetch q109.2.1 52 = some (.iload_n 2) := by decide +kernel
theorem h109_53 : mfetch q109.2.1 53 = some (.if_icmp .eq 6) := by decide +kernel
theorem h109_56 : mfetch q109.2.1 56 = some (.bipush (-13)) := by decide +kernel
theorem h109_58 : mfetch q109.2.1 58 = some (.ireturn) := by decide +kernel
theorem h109_59 : mfetch q109.2.1 59 = some (.iconst 0) := by decide +kernel
theorem h109_60 : mfetch q109.2.1 60 = some (.istore 6) := by decide +kernel
theorem h109_62 : mfetch q109.2.1 62 = some (.iconst 0) := by decide +kernel
theorem h109_63 : mfetch q109.2.1 63 = some (.istore 7) := by decide +kernel
theorem h109_65 : mfetch q109.2.1 65 = some (.iload 7) := by decide +kernel
theorem h109_67 : mfetch q109.2.1 67 = some (.iload 4) := by decide +kernel
theorem h109_69 : mfetch q109.2.1 69 = some (.if_icmp .ge 66) := by decide +kernel
theorem h109_72 : mfetch q109.2.1 72 = some (.iload_n 3) := by decide +kernel
theorem h109_73 : mfetch q109.2.1 73 = some (.iconst 3) := by decide +kernel
theorem h109_74 : mfetch q109.2.1 74 = some (.iload 7) := by decide +kernel
theorem h109_76 : mfetch q109.2.1 76 = some (.imul) := by decide +kernel
theorem h109_77 : mfetch q109.2.1 77 = some (.iadd) := by decide +kernel
theorem h109_78 : mfetch q109.2.1 78 = some (.istore 8) := by decide +kernel
theorem h109_80 : mfetch q109.2.1 80 = some (.aload 5) := by decide +kernel
theorem h109_82 : mfetch q109.2.1 82 = some (.iload 8) := by decide +kernel
theorem h109_84 : mfetch q109.2.1 84 = some (.iconst 3) := by decide +kernel
theorem h109_85 : mfetch q109.2.1 85 = some (.invokevirtual 299) := by decide +kernel
theorem h109_88 : mfetch q109.2.1 88 = some (.ifCond .ne 6) := by decide +kernel
theorem h109_91 : mfetch q109.2.1 91 = some (.bipush (-12)) := by decide +kernel
theorem h109_93 : mfetch q109.2.1 93 = some (.ireturn) := by decide +kernel
theorem h109_94 : mfetch q109.2.1 94 = some (.aload_n 0) := by decide +kernel
theorem h109_95 : mfetch q109.2.1 95 = some (.aload 5) := by decide +kernel
theorem h109_97 : mfetch q109.2.1 97 = some (.iload 8) := by decide +kernel
theorem h109_99 : mfetch q109.2.1 99 = some (.invokevirtual 269) := by decide +kernel
theorem h109_102 : mfetch q109.2.1 102 = some (.aload 5) := by decide +kernel
theorem h109_104 : mfetch q109.2.1 104 = some (.iload 8) := by decide +kernel
theorem h109_106 : mfetch q109.2.1 106 = some (.iconst 1) := by decide +kernel
theorem h109_107 : mfetch q109.2.1 107 = some (.iadd) := by decide +kernel
theorem h109_108 : mfetch q109.2.1 108 = some (.invokevirtual 269) := by decide +kernel
theorem h109_111 : mfetch q109.2.1 111 = some (.aload 5) := by decide +kernel
theorem h109_113 : mfetch q109.2.1 113 = some (.iload 8) := by decide +kernel
theorem h109_115 : mfetch q109.2.1 115 = some (.iconst 2) := by decide +kernel
theorem h109_116 : mfetch q109.2.1 116 = some (.iadd) := by decide +kernel
theorem h109_117 : mfetch q109.2.1 117 = some (.invokevirtual 269) := by decide +kernel
theorem h109_120 : mfetch q109.2.1 120 = some (.invokevirtual 312) := by decide +kernel
theorem h109_123 : mfetch q109.2.1 123 = some (.ifCond .lt 6) := by decide +kernel
theorem h109_126 : mfetch q109.2.1 126 = some (.iinc 6 1) := by decide +kernel
theorem h109_129 : mfetch q109.2.1 129 = some (.iinc 7 1) := by decide +kernel
theorem h109_132 : mfetch q109.2.1 132 = some (.goto (-67)) := by decide +kernel
theorem h109_135 : mfetch q109.2.1 135 = some (.iload 6) := by decide +kernel
theorem h109_137 : mfetch q109.2.1 137 = some (.ireturn) := by decide +kernel
theorem E109_0 : (∀ (d : Nat) (l1 : Option Value) (l2 : Option Value) (l3 : Option Value) (l4 : Option Value) (l5 : Option Value) (l6 : Option Value) (l7 : Option Value) (l8 : Option Value) (x : Nat) (st : List Value) (h : MH) (P : MP), mFr d 109 0 [some (.ref x), l1, l2, l3, l4, l5, l6, l7, l8] st h P = mFr d 109 1 [some (.ref x), l1, l2, l3, l4, l5, l6, l7, l8] (.ref x :: st) h P) ∧
  (∀ (d : Nat) (l0 : Option Value) (l2 : Option Value) (l3 : Option Value) (l4 : Option Value) (l5 : Option Value) (l6 : Option Value) (l7 : Option Value) (l8 : Option Value) (x : Int32) (st : List Value) (h : MH) (P : MP), mFr d 109 1 [l0, some (.int x), l2, l3, l4, l5, l6, l7, l8] st h P = mFr d 109 2 [l0, some (.int x), l2, l3, l4, l5, l6, l7, l8] (.int x :: st) h P) ∧
  (∀ (d : Nat) (loc : List (Option Value)) (b : Nat) (a0 : Int32) (h : MH) (P : MP), mFr d 109 2 loc ((.int a0) :: .ref b :: []) h P = if mrcv h b 8 = true then mRun d 112 [.ref b, .int a0] h (fun v h' => mFr d 109 5 loc (v.toList ++ []) h' P) else False) ∧
  (∀ (d : Nat) (l0 : Option Value) (l1 : Option Value) (l2 : Option Value) (l3 : Option Value) (l4 : Option Value) (l5 : Option Value) (l6 : Option Value) (l7 : Option Value) (l8 : Option Value) (x : Nat) (st : List Value) (h : MH) (P : MP), mnl l4 = true → mFr d 109 5 [l0, l1, l2, l3, l4, l5, l6, l7, l8] (.ref x :: st) h P = mFr d 109 7 [l0, l1, l2, l3, l4, some (.ref x), l6, l7, l8] (st) h P) ∧
  (∀ (d : Nat) (l0 : Option Value) (l1 : Option Value) (l2 : Option Value) (l3 : Option Value) (l4 : Option Value) (l5 : Option Value) (l6 : Option Value) (l7 : Option Value) (l8 : Option Value) (st : List Value) (h : MH) (P : MP), mnl l4 = true → mFr d 109 5 [l0, l1, l2, l3, l4, l5, l6, l7, l8] (.null :: st) h P = mFr d 109 7 [l0, l1, l2, l3, l4, some .null, l6, l7, l8] (st) h P) ∧
  (∀ (d : Nat) (l0 : Option Value) (l1 : Option Value) (l2 : Option Value) (l3 : Option Value) (l4 : Option Value) (l6 : Option Value) (l7 : Option Value) (l8 : Option Value) (x : Nat) (st : List Value) (h : MH) (P : MP), mFr d 109 7 [l0, l1, l2, l3, l4, some (.ref x), l6, l7, l8] st h P = mFr d 109 9 [l0, l1, l2, l3, l4, some (.ref x), l6, l7, l8] (.ref x :: st) h P) ∧
  (∀ (d : Nat) (l0 : Option Value) (l1 : Option Value) (l2 : Option Value) (l3 : Option Value) (l4 : Option Value) (l6 : Option Value) (l7 : Option Value) (l8 : Option Value) (st : List Value) (h : MH) (P : MP), mFr d 109 7 [l0, l1, l2, l3, l4, some .null, l6, l7, l8] st h P = mFr d 109 9 [l0, l1, l2, l3, l4, some .null, l6, l7, l8] (.null :: st) h P) ∧
  (∀ (d : Nat) (loc : List (Option Value)) (x : Nat) (st : List Value) (h : MH) (P : MP), mFr d 109 9 loc (.ref x :: st) h P = if x < 900 then mFr d 109 12 loc (st) h P else False) ∧
  (∀ (d : Nat) (loc : List (Option Value)) (st : List Value) (h : MH) (P : MP), mFr d 109 9 loc (.null :: st) h P = mFr d 109 32 loc (st) h P) := ⟨fun _ _ _ _ _ _ _ _ _ _ _ _ _ => (mFr_S mq109 h109_0).trans rfl,
  fun _ _ _ _ _ _ _ _ _ _ _ _ _ => (mFr_S mq109 h109_1).trans rfl,
  fun _ _ b a0 _ _ => F_callV (as := [.int a0]) (rest := []) mq109 (Or.inl h109_2) (rfl : _ = some (247, 6, 112, 0)) (Or.inl ⟨h109_2, by decide⟩) (by rfl) (by rfl) (by rfl) (Nat.le_of_ble_eq_true rfl),
  fun _ _ _ _ _ _ _ _ _ _ _ _ _ _ hm => (mFr_S mq109 h109_5).trans (by simp only [mgo.eq_1, mstep, mi1, ml1, mast, mst, mst2, mprev, List.length_cons, List.length_nil, List.getElem?_cons_succ, List.getElem?_cons_zero, hm]; rfl),
  fun _ _ _ _ _ _ _ _ _ _ _ _ _ hm => (mFr_S mq109 h109_5).trans (by simp only [mgo.eq_1, mstep, mi1, ml1, mast, mst, mst2, mprev, List.length_cons, List.length_nil, List.getElem?_cons_succ, List.getElem?_cons_zero, hm]; rfl),
  fun _ _ _ _ _ _ _ _ _ _ _ _ _ => (mFr_S mq109 h109_7).trans rfl,
  fun _ _ _ _ _ _ _ _ _ _ _ _ => (mFr_S mq109 h109_7).trans rfl,
  fun _ _ _ _ _ _ => F_ifnullR mq109 h109_9,
  fun _ _ _ _ _ => F_ifnullN 32 mq109 h109_9 (by decide)⟩
theorem E109_12 : (∀ (d : Nat) (l0 : Option Value) (l1 : Option Value) (l3 : Option Value) (l4 : Option Value) (l5 : Option Value) (l6 : Option Value) (l7 : Option Value) (l8 : Option Value) (x : Int32) (st : List Value) (h : MH) (P : MP), mFr d 109 12 [l0, l1, some (.int x), l3, l4, l5, l6, l7, l8] st h P = mFr d 109 13 [l0, l1, some (.int x), l3, l4, l5, l6, l7, l8] (.int x :: st) h P) ∧
  (∀ (d : Nat) (loc : List (Option Value)) (x : Int32) (st : List Value) (h : MH) (P : MP), mFr d 109 13 loc (.int x :: st) h P = if x < 0 then mFr d 109 32 loc (st) h P else mFr d 109 16 loc (st) h P) := ⟨fun _ _ _ _ _ _ _ _ _ _ _ _ _ => (mFr_S mq109 h109_12).trans rfl,
  fun _ _ _ _ _ _ => (F_ifz 32 mq109 h109_13 (by decide)).trans mif_lt⟩
theorem E109_16 : (∀ (d : Nat) (l0 : Option Value) (l1 : Option Value) (l3 : Option Value) (l4 : Option Value) (l5 : Option Value) (l6 : Option Value) (l7 : Option Value) (l8 : Option Value) (x : Int32) (st : List Value) (h : MH) (P : MP), mFr d 109 16 [l0, l1, some (.int x), l3, l4, l5, l6, l7, l8] st h P = mFr d 109 17 [l0, l1, some (.int x), l3, l4, l5, l6, l7, l8] (.int x :: st) h P) ∧
  (∀ (d : Nat) (loc : List (Option Value)) (st : List Value) (h : MH) (P : MP), mFr d 109 17 loc st h P = mFr d 109 18 loc (.int 2 :: st) h P) ∧
  (∀ (d : Nat) (loc : List (Option Value)) (x y : Int32) (st : List Value) (h : MH) (P : MP), mFr d 109 18 loc (.int y :: .int x :: st) h P = if y < x then mFr d 109 32 loc (st) h P else mFr d 109 21 loc (st) h P) := ⟨fun _ _ _ _ _ _ _ _ _ _ _ _ _ => (mFr_S mq109 h109_16).trans rfl,
  fun _ _ _ _ _ => (mFr_S mq109 h109_17).trans rfl,
  fun _ _ _ _ _ _ _ => (F_icmp 32 mq109 h109_18 (by decide)).trans mif_gt⟩
theorem E109_21 : (∀ (d : Nat) (l0 : Option Value) (l1 : Option Value) (l2 : Option Value) (l3 : Option Value) (l5 : Option Value) (l6 : Option Value) (l7 : Option Value) (l8 : Option Value) (x : Int32) (st : List Value) (h : MH) (P : MP), mFr d 109 21 [l0, l1, l2, l3, some (.int x), l5, l6, l7, l8] st h P = mFr d 109 23 [l0, l1, l2, l3, some (.int x), l5, l6, l7, l8] (.int x :: st) h P) ∧
  (∀ (d : Nat) (loc : List (Option Value)) (x : Int32) (st : List Value) (h : MH) (P : MP), mFr d 109 23 loc (.int x :: st) h P = if x < 0 then mFr d 109 32 loc (st) h P else mFr d 109 26 loc (st) h P) := ⟨fun _ _ _ _ _ _ _ _ _ _ _ _ _ => (mFr_S mq109 h109_21).trans rfl,
  fun _ _ _ _ _ _ => (F_ifz 32 mq109 h109_23 (by decide)).trans mif_lt⟩
theorem E109_26 : (∀ (d : Nat) (l0 : Option Value) (l1 : Option Value) (l2 : Option Value) (l3 : Option Value) (l5 : Option Value) (l6 : Option Value) (l7 : Option Value) (l8 : Option Value) (x : Int32) (st : List Value) (h : MH) (P : MP), mFr d 109 26 [l0, l1, l2, l3, some (.int x), l5, l6, l7, l8] st h P = mFr d 109 28 [l0, l1, l2, l3, some (.int x), l5, l6, l7, l8] (.int x :: st) h P) ∧
  (∀ (d : Nat) (loc : List (Option Value)) (st : List Value) (h : MH) (P : MP), mFr d 109 28 loc st h P = mFr d 109 29 loc (.int 5 :: st) h P) ∧
  (∀ (d : Nat) (loc : List (Option Value)) (x y : Int32) (st : List Value) (h : MH) (P : MP), mFr d 109 29 loc (.int y :: .int x :: st) h P = if y < x then mFr d 109 32 loc (st) h P else mFr d 109 35 loc (st) h P) := ⟨fun _ _ _ _ _ _ _ _ _ _ _ _ _ => (mFr_S mq109 h109_26).trans rfl,
  fun _ _ _ _ _ => (mFr_S mq109 h109_28).trans rfl,
  fun _ _ _ _ _ _ _ => (F_icmp 35 mq109 h109_29 (by decide)).trans mif_le⟩
theorem E109_32 : (∀ (d : Nat) (loc : List (Option Value)) (st : List Value) (h : MH) (P : MP), mFr d 109 32 loc st h P = mFr d 109 34 loc (.int (-2) :: st) h P) ∧
  (∀ (d : Nat) (loc : List (Option Value)) (x : Int32) (h : MH) (P : MP), mFr d 109 34 loc [.int x] h P = P (some (.int x)) h) := ⟨fun _ _ _ _ _ => (mFr_S mq109 h109_32).trans rfl,
  fun _ _ _ _ _ => F_ret mq109 h109_34 rfl rfl⟩
theorem E109_35 : (∀ (d : Nat) (l0 : Option Value) (l1 : Option Value) (l2 : Option Value) (l3 : Option Value) (l4 : Option Value) (l6 : Option Value) (l7 : Option Value) (l8 : Option Value) (x : Nat) (st : List Value) (h : MH) (P : MP), mFr d 109 35 [l0, l1, l2, l3, l4, some (.ref x), l6, l7, l8] st h P = mFr d 109 37 [l0, l1, l2, l3, l4, some (.ref x), l6, l7, l8] (.ref x :: st) h P) ∧
  (∀ (d : Nat) (l0 : Option Value) (l1 : Option Value) (l2 : Option Value) (l3 : Option Value) (l4 : Option Value) (l6 : Option Value) (l7 : Option Value) (l8 : Option Value) (st : List Value) (h : MH) (P : MP), mFr d 109 35 [l0, l1, l2, l3, l4, some .null, l6, l7, l8] st h P = mFr d 109 37 [l0, l1, l2, l3, l4, some .null, l6, l7, l8] (.null :: st) h P) ∧
  (∀ (d : Nat) (loc : List (Option Value)) (a : Nat) (st : List Value) (h : MH) (P : MP), mFr d 109 37 loc (.ref a :: st) h P = pget h a 3 1 (fun v => mFr d 109 40 loc (v :: st) h P)) ∧
  (∀ (d : Nat) (loc : List (Option Value)) (st : List Value) (h : MH) (P : MP), mFr d 109 40 loc st h P = mFr d 109 41 loc (.int (-1) :: st) h P) ∧
  (∀ (d : Nat) (loc : List (Option Value)) (x y : Int32) (st : List Value) (h : MH) (P : MP), mFr d 109 41 loc (.int y :: .int x :: st) h P = if x = y then mFr d 109 44 loc (st) h P else mFr d 109 47 loc (st) h P) := ⟨fun _ _ _ _ _ _ _ _ _ _ _ _ _ => (mFr_S mq109 h109_35).trans rfl,
  fun _ _ _ _ _ _ _ _ _ _ _ _ => (mFr_S mq109 h109_35).trans rfl,
  fun _ _ _ _ _ _ => F_get mq109 h109_37 (Or.inr (rfl : _ = some (254, 1, 3, 1))),
  fun _ _ _ _ _ => (mFr_S mq109 h109_40).trans rfl,
  fun _ _ _ _ _ _ _ => (F_icmp 47 mq109 h109_41 (by decide)).trans mif_ne⟩
theorem E109_44 : (∀ (d : Nat) (loc : List (Option Value)) (st : List Value) (h : MH) (P : MP), mFr d 109 44 loc st h P = mFr d 109 46 loc (.int (-11) :: st) h P) ∧
  (∀ (d : Nat) (loc : List (Option Value)) (x : Int32) (h : MH) (P : MP), mFr d 109 46 loc [.int x] h P = P (some (.int x)) h) := ⟨fun _ _ _ _ _ => (mFr_S mq109 h109_44).trans rfl,
  fun _ _ _ _ _ => F_ret mq109 h109_46 rfl rfl⟩
theorem E109_47 : (∀ (d : Nat) (l0 : Option Value) (l1 : Option Value) (l2 : Option Value) (l3 : Option Value) (l4 : Option Value) (l6 : Option Value) (l7 : Option Value) (l8 : Option Value) (x : Nat) (st : List Value) (h : MH) (P : MP), mFr d 109 47 [l0, l1, l2, l3, l4, some (.ref x), l6, l7, l8] st h P = mFr d 109 49 [l0, l1, l2, l3, l4, some (.ref x), l6, l7, l8] (.ref x :: st) h P) ∧
  (∀ (d : Nat) (l0 : Option Value) (l1 : Option Value) (l2 : Option Value) (l3 : Option Value) (l4 : Option Value) (l6 : Option Value) (l7 : Option Value) (l8 : Option Value) (st : List Value) (h : MH) (P : MP), mFr d 109 47 [l0, l1, l2, l3, l4, some .null, l6, l7, l8] st h P = mFr d 109 49 [l0, l1, l2, l3, l4, some .null, l6, l7, l8] (.null :: st) h P) ∧
  (∀ (d : Nat) (loc : List (Option Value)) (a : Nat) (st : List Value) (h : MH) (P : MP), mFr d 109 49 loc (.ref a :: st) h P = pget h a 3 1 (fun v => mFr d 109 52 loc (v :: st) h P)) ∧
  (∀ (d : Nat) (l0 : Option Value) (l1 : Option Value) (l3 : Option Value) (l4 : Option Value) (l5 : Option Value) (l6 : Option Value) (l7 : Option Value) (l8 : Option Value) (x : Int32) (st : List Value) (h : MH) (P : MP), mFr d 109 52 [l0, l1, some (.int x), l3, l4, l5, l6, l7, l8] st h P = mFr d 109 53 [l0, l1, some (.int x), l3, l4, l5, l6, l7, l8] (.int x :: st) h P) ∧
  (∀ (d : Nat) (loc : List (Option Value)) (x y : Int32) (st : List Value) (h : MH) (P : MP), mFr d 109 53 loc (.int y :: .int x :: st) h P = if x = y then mFr d 109 59 loc (st) h P else mFr d 109 56 loc (st) h P) := ⟨fun _ _ _ _ _ _ _ _ _ _ _ _ _ => (mFr_S mq109 h109_47).trans rfl,
  fun _ _ _ _ _ _ _ _ _ _ _ _ => (mFr_S mq109 h109_47).trans rfl,
  fun _ _ _ _ _ _ => F_get mq109 h109_49 (Or.inr (rfl : _ = some (254, 1, 3, 1))),
  fun _ _ _ _ _ _ _ _ _ _ _ _ _ => (mFr_S mq109 h109_52).trans rfl,
  fun _ _ _ _ _ _ _ => (F_icmp 59 mq109 h109_53 (by decide)).trans mif_eq⟩
theorem E109_56 : (∀ (d : Nat) (loc : List (Option Value)) (st : List Value) (h : MH) (P : MP), mFr d 109 56 loc st h P = mFr d 109 58 loc (.int (-13) :: st) h P) ∧
  (∀ (d : Nat) (loc : List (Option Value)) (x : Int32) (h : MH) (P : MP), mFr d 109 58 loc [.int x] h P = P (some (.int x)) h) := ⟨fun _ _ _ _ _ => (mFr_S mq109 h109_56).trans rfl,
  fun _ _ _ _ _ => F_ret mq109 h109_58 rfl rfl⟩
theorem E109_59 : (∀ (d : Nat) (loc : List (Option Value)) (st : List Value) (h : MH) (P : MP), mFr d 109 59 loc st h P = mFr d 109 60 loc (.int 0 :: st) h P) ∧
  (∀ (d : Nat) (l0 : Option Value) (l1 : Option Value) (l2 : Option Value) (l3 : Option Value) (l4 : Option Value) (l5 : Option Value) (l6 : Option Value) (l7 : Option Value) (l8 : Option Value) (x : Int32) (st : List Value) (h : MH) (P : MP), mnl l5 = true → mFr d 109 60 [l0, l1, l2, l3, l4, l5, l6, l7, l8] (.int x :: st) h P = mFr d 109 62 [l0, l1, l2, l3, l4, l5, some (.int x), l7, l8] (st) h P) ∧
  (∀ (d : Nat) (loc : List (Option Value)) (st : List Value) (h : MH) (P : MP), mFr d 109 62 loc st h P = mFr d 109 63 loc (.int 0 :: st) h P) ∧
  (∀ (d : Nat) (l0 : Option Value) (l1 : Option Value) (l2 : Option Value) (l3 : Option Value) (l4 : Option Value) (l5 : Option Value) (l6 : Option Value) (l7 : Option Value) (l8 : Option Value) (x : Int32) (st : List Value) (h : MH) (P : MP), mnl l6 = true → mFr d 109 63 [l0, l1, l2, l3, l4, l5, l6, l7, l8] (.int x :: st) h P = mFr d 109 65 [l0, l1, l2, l3, l4, l5, l6, some (.int x), l8] (st) h P) := ⟨fun _ _ _ _ _ => (mFr_S mq109 h109_59).trans rfl,
  fun _ _ _ _ _ _ _ _ _ _ _ _ _ _ hm => (mFr_S mq109 h109_60).trans (by simp only [mgo.eq_1, mstep, mi1, ml1, mast, mst, mst2, mprev, List.length_cons, List.length_nil, List.getElem?_cons_succ, List.getElem?_cons_zero, hm]; rfl),
  fun _ _ _ _ _ => (mFr_S mq109 h109_62).trans rfl,
  fun _ _ _ _ _ _ _ _ _ _ _ _ _ _ hm => (mFr_S mq109 h109_63).trans (by simp only [mgo.eq_1, mstep, mi1, ml1, mast, mst, mst2, mprev, List.length_cons, List.length_nil, List.getElem?_cons_succ, List.getElem?_cons_zero, hm]; rfl)⟩
theorem E109_65 : (∀ (d : Nat) (l0 : Option Value) (l1 : Option Value) (l2 : Option Value) (l3 : Option Value) (l4 : Option Value) (l5 : Option Value) (l6 : Option Value) (l8 : Option Value) (x : Int32) (st : List Value) (h : MH) (P : MP), mFr d 109 65 [l0, l1, l2, l3, l4, l5, l6, some (.int x), l8] st h P = mFr d 109 67 [l0, l1, l2, l3, l4, l5, l6, some (.int x), l8] (.int x :: st) h P) ∧
  (∀ (d : Nat) (l0 : Option Value) (l1 : Option Value) (l2 : Option Value) (l3 : Option Value) (l5 : Option Value) (l6 : Option Value) (l7 : Option Value) (l8 : Option Value) (x : Int32) (st : List Value) (h : MH) (P : MP), mFr d 109 67 [l0, l1, l2, l3, some (.int x), l5, l6, l7, l8] st h P = mFr d 109 69 [l0, l1, l2, l3, some (.int x), l5, l6, l7, l8] (.int x :: st) h P) ∧
  (∀ (d : Nat) (loc : List (Option Value)) (x y : Int32) (st : List Value) (h : MH) (P : MP), mFr d 109 69 loc (.int y :: .int x :: st) h P = if x < y then mFr d 109 72 loc (st) h P else mFr d 109 135 loc (st) h P) := ⟨fun _ _ _ _ _ _ _ _ _ _ _ _ _ => (mFr_S mq109 h109_65).trans rfl,
  fun _ _ _ _ _ _ _ _ _ _ _ _ _ => (mFr_S mq109 h109_67).trans rfl,
  fun _ _ _ _ _ _ _ => (F_icmp 135 mq109 h109_69 (by decide)).trans mif_ge⟩
theorem E109_72 : (∀ (d : Nat) (l0 : Option Value) (l1 : Option Value) (l2 : Option Value) (l4 : Option Value) (l5 : Option Value) (l6 : Option Value) (l7 : Option Value) (l8 : Option Value) (x : Int32) (st : List Value) (h : MH) (P : MP), mFr d 109 72 [l0, l1, l2, some (.int x), l4, l5, l6, l7, l8] st h P = mFr d 109 73 [l0, l1, l2, some (.int x), l4, l5, l6, l7, l8] (.int x :: st) h P) ∧
  (∀ (d : Nat) (loc : List (Option Value)) (st : List Value) (h : MH) (P : MP), mFr d 109 73 loc st h P = mFr d 109 74 loc (.int 3 :: st) h P) ∧
  (∀ (d : Nat) (l0 : Option Value) (l1 : Option Value) (l2 : Option Value) (l3 : Option Value) (l4 : Option Value) (l5 : Option Value) (l6 : Option Value) (l8 : Option Value) (x : Int32) (st : List Value) (h : MH) (P : MP), mFr d 109 74 [l0, l1, l2, l3, l4, l5, l6, some (.int x), l8] st h P = mFr d 109 76 [l0, l1, l2, l3, l4, l5, l6, some (.int x), l8] (.int x :: st) h P) ∧
  (∀ (d : Nat) (loc : List (Option Value)) (x y : Int32) (st : List Value) (h : MH) (P : MP), mFr d 109 76 loc (.int y :: .int x :: st) h P = mFr d 109 77 loc (.int (x * y) :: st) h P) ∧
  (∀ (d : Nat) (loc : List (Option Value)) (x y : Int32) (st : List Value) (h : MH) (P : MP), mFr d 109 77 loc (.int y :: .int x :: st) h P = mFr d 109 78 loc (.int (x + y) :: st) h P) ∧
  (∀ (d : Nat) (l0 : Option Value) (l1 : Option Value) (l2 : Option Value) (l3 : Option Value) (l4 : Option Value) (l5 : Option Value) (l6 : Option Value) (l7 : Option Value) (l8 : Option Value) (x : Int32) (st : List Value) (h : MH) (P : MP), mnl l7 = true → mFr d 109 78 [l0, l1, l2, l3, l4, l5, l6, l7, l8] (.int x :: st) h P = mFr d 109 80 [l0, l1, l2, l3, l4, l5, l6, l7, some (.int x)] (st) h P) ∧
  (∀ (d : Nat) (l0 : Option Value) (l1 : Option Value) (l2 : Option Value) (l3 : Option Value) (l4 : Option Value) (l6 : Option Value) (l7 : Option Value) (l8 : Option Value) (x : Nat) (st : List Value) (h : MH) (P : MP), mFr d 109 80 [l0, l1, l2, l3, l4, some (.ref x), l6, l7, l8] st h P = mFr d 109 82 [l0, l1, l2, l3, l4, some (.ref x), l6, l7, l8] (.ref x :: st) h P) ∧
  (∀ (d : Nat) (l0 : Option Value) (l1 : Option Value) (l2 : Option Value) (l3 : Option Value) (l4 : Option Value) (l6 : Option Value) (l7 : Option Value) (l8 : Option Value) (st : List Value) (h : MH) (P : MP), mFr d 109 80 [l0, l1, l2, l3, l4, some .null, l6, l7, l8] st h P = mFr d 109 82 [l0, l1, l2, l3, l4, some .null, l6, l7, l8] (.null :: st) h P) ∧
  (∀ (d : Nat) (l0 : Option Value) (l1 : Option Value) (l2 : Option Value) (l3 : Option Value) (l4 : Option Value) (l5 : Option Value) (l6 : Option Value) (l7 : Option Value) (x : Int32) (st : List Value) (h : MH) (P : MP), mFr d 109 82 [l0, l1, l2, l3, l4, l5, l6, l7, some (.int x)] st h P = mFr d 109 84 [l0, l1, l2, l3, l4, l5, l6, l7, some (.int x)] (.int x :: st) h P) ∧
  (∀ (d : Nat) (loc : List (Option Value)) (st : List Value) (h : MH) (P : MP), mFr d 109 84 loc st h P = mFr d 109 85 loc (.int 3 :: st) h P) ∧
  (∀ (d : Nat) (loc : List (Option Value)) (b : Nat) (a0 : Int32) (a1 : Int32) (h : MH) (P : MP), mFr d 109 85 loc ((.int a1) :: (.int a0) :: .ref b :: []) h P = if mrcv h b 3 = true then mRun d 23 [.ref b, .int a0, .int a1] h (fun v h' => mFr d 109 88 loc (v.toList ++ []) h' P) else False) ∧
  (∀ (d : Nat) (loc : List (Option Value)) (x : Int32) (st : List Value) (h : MH) (P : MP), mFr d 109 88 loc (.int x :: st) h P = if x = 0 then mFr d 109 91 loc (st) h P else mFr d 109 94 loc (st) h P) := ⟨fun _ _ _ _ _ _ _ _ _ _ _ _ _ => (mFr_S mq109 h109_72).trans rfl,
  fun _ _ _ _ _ => (mFr_S mq109 h109_73).trans rfl,
  fun _ _ _ _ _ _ _ _ _ _ _ _ _ => (mFr_S mq109 h109_74).trans rfl,
  fun _ _ _ _ _ _ _ => (mFr_S mq109 h109_76).trans rfl,
  fun _ _ _ _ _ _ _ => (mFr_S mq109 h109_77).trans rfl,
  fun _ _ _ _ _ _ _ _ _ _ _ _ _ _ hm => (mFr_S mq109 h109_78).trans (by simp only [mgo.eq_1, mstep, mi1, ml1, mast, mst, mst2, mprev, List.length_cons, List.length_nil, List.getElem?_cons_succ, List.getElem?_cons_zero, hm]; rfl),
  fun _ _ _ _ _ _ _ _ _ _ _ _ _ => (mFr_S mq109 h109_80).trans rfl,
  fun _ _ _ _ _ _ _ _ _ _ _ _ => (mFr_S mq109 h109_80).trans rfl,
  fun _ _ _ _ _ _ _ _ _ _ _ _ _ => (mFr_S mq109 h109_82).trans rfl,
  fun _ _ _ _ _ => (mFr_S mq109 h109_84).trans rfl,
  fun _ _ b a0 a1 _ _ => F_callV (as := [.int a0, .int a1]) (rest := []) mq109 (Or.inl h109_85) (rfl : _ = some (299, 6, 23, 1)) (Or.inl ⟨h109_85, by decide⟩) (by rfl) (by rfl) (by rfl) (Nat.le_of_ble_eq_true rfl),
  fun _ _ _ _ _ _ => (F_ifz 94 mq109 h109_88 (by decide)).trans mif_ne⟩
theorem E109_91 : (∀ (d : Nat) (loc : List (Option Value)) (st : List Value) (h : MH) (P : MP), mFr d 109 91 loc st h P = mFr d 109 93 loc (.int (-12) :: st) h P) ∧
  (∀ (d : Nat) (loc : List (Option Value)) (x : Int32) (h : MH) (P : MP), mFr d 109 93 loc [.int x] h P = P (some (.int x)) h) := ⟨fun _ _ _ _ _ => (mFr_S mq109 h109_91).trans rfl,
  fun _ _ _ _ _ => F_ret mq109 h109_93 rfl rfl⟩
theorem E109_94 : (∀ (d : Nat) (l1 : Option Value) (l2 : Option Value) (l3 : Option Value) (l4 : Option Value) (l5 : Option Value) (l6 : Option Value) (l7 : Option Value) (l8 : Option Value) (x : Nat) (st : List Value) (h : MH) (P : MP), mFr d 109 94 [some (.ref x), l1, l2, l3, l4, l5, l6, l7, l8] st h P = mFr d 109 95 [some (.ref x), l1, l2, l3, l4, l5, l6, l7, l8] (.ref x :: st) h P) ∧
  (∀ (d : Nat) (l0 : Option Value) (l1 : Option Value) (l2 : Option Value) (l3 : Option Value) (l4 : Option Value) (l6 : Option Value) (l7 : Option Value) (l8 : Option Value) (x : Nat) (st : List Value) (h : MH) (P : MP), mFr d 109 95 [l0, l1, l2, l3, l4, some (.ref x), l6, l7, l8] st h P = mFr d 109 97 [l0, l1, l2, l3, l4, some (.ref x), l6, l7, l8] (.ref x :: st) h P) ∧
  (∀ (d : Nat) (l0 : Option Value) (l1 : Option Value) (l2 : Option Value) (l3 : Option Value) (l4 : Option Value) (l6 : Option Value) (l7 : Option Value) (l8 : Option Value) (st : List Value) (h : MH) (P : MP), mFr d 109 95 [l0, l1, l2, l3, l4, some .null, l6, l7, l8] st h P = mFr d 109 97 [l0, l1, l2, l3, l4, some .null, l6, l7, l8] (.null :: st) h P) ∧
  (∀ (d : Nat) (l0 : Option Value) (l1 : Option Value) (l2 : Option Value) (l3 : Option Value) (l4 : Option Value) (l5 : Option Value) (l6 : Option Value) (l7 : Option Value) (x : Int32) (st : List Value) (h : MH) (P : MP), mFr d 109 97 [l0, l1, l2, l3, l4, l5, l6, l7, some (.int x)] st h P = mFr d 109 99 [l0, l1, l2, l3, l4, l5, l6, l7, some (.int x)] (.int x :: st) h P) ∧
  (∀ (d : Nat) (loc : List (Option Value)) (b : Nat) (a0 : Int32) (s0 : Nat) (h : MH) (P : MP), mFr d 109 99 loc ((.int a0) :: .ref b :: [.ref s0]) h P = if mrcv h b 3 = true then mRun d 24 [.ref b, .int a0] h (fun v h' => mFr d 109 102 loc (v.toList ++ [.ref s0]) h' P) else False) ∧
  (∀ (d : Nat) (l0 : Option Value) (l1 : Option Value) (l2 : Option Value) (l3 : Option Value) (l4 : Option Value) (l6 : Option Value) (l7 : Option Value) (l8 : Option Value) (x : Nat) (st : List Value) (h : MH) (P : MP), mFr d 109 102 [l0, l1, l2, l3, l4, some (.ref x), l6, l7, l8] st h P = mFr d 109 104 [l0, l1, l2, l3, l4, some (.ref x), l6, l7, l8] (.ref x :: st) h P) ∧
  (∀ (d : Nat) (l0 : Option Value) (l1 : Option Value) (l2 : Option Value) (l3 : Option Value) (l4 : Option Value) (l6 : Option Value) (l7 : Option Value) (l8 : Option Value) (st : List Value) (h : MH) (P : MP), mFr d 109 102 [l0, l1, l2, l3, l4, some .null, l6, l7, l8] st h P = mFr d 109 104 [l0, l1, l2, l3, l4, some .null, l6, l7, l8] (.null :: st) h P) ∧
  (∀ (d : Nat) (l0 : Option Value) (l1 : Option Value) (l2 : Option Value) (l3 : Option Value) (l4 : Option Value) (l5 : Option Value) (l6 : Option Value) (l7 : Option Value) (x : Int32) (st : List Value) (h : MH) (P : MP), mFr d 109 104 [l0, l1, l2, l3, l4, l5, l6, l7, some (.int x)] st h P = mFr d 109 106 [l0, l1, l2, l3, l4, l5, l6, l7, some (.int x)] (.int x :: st) h P) ∧
  (∀ (d : Nat) (loc : List (Option Value)) (st : List Value) (h : MH) (P : MP), mFr d 109 106 loc st h P = mFr d 109 107 loc (.int 1 :: st) h P) ∧
  (∀ (d : Nat) (loc : List (Option Value)) (x y : Int32) (st : List Value) (h : MH) (P : MP), mFr d 109 107 loc (.int y :: .int x :: st) h P = mFr d 109 108 loc (.int (x + y) :: st) h P) ∧
  (∀ (d : Nat) (loc : List (Option Value)) (b : Nat) (a0 : Int32) (s0 : Int32) (s1 : Nat) (h : MH) (P : MP), mFr d 109 108 loc ((.int a0) :: .ref b :: [.int s0, .ref s1]) h P = if mrcv h b 3 = true then mRun d 24 [.ref b, .int a0] h (fun v h' => mFr d 109 111 loc (v.toList ++ [.int s0, .ref s1]) h' P) else False) ∧
  (∀ (d : Nat) (l0 : Option Value) (l1 : Option Value) (l2 : Option Value) (l3 : Option Value) (l4 : Option Value) (l6 : Option Value) (l7 : Option Value) (l8 : Option Value) (x : Nat) (st : List Value) (h : MH) (P : MP), mFr d 109 111 [l0, l1, l2, l3, l4, some (.ref x), l6, l7, l8] st h P = mFr d 109 113 [l0, l1, l2, l3, l4, some (.ref x), l6, l7, l8] (.ref x :: st) h P) ∧
  (∀ (d : Nat) (l0 : Option Value) (l1 : Option Value) (l2 : Option Value) (l3 : Option Value) (l4 : Option Value) (l6 : Option Value) (l7 : Option Value) (l8 : Option Value) (st : List Value) (h : MH) (P : MP), mFr d 109 111 [l0, l1, l2, l3, l4, some .null, l6, l7, l8] st h P = mFr d 109 113 [l0, l1, l2, l3, l4, some .null, l6, l7, l8] (.null :: st) h P) ∧
  (∀ (d : Nat) (l0 : Option Value) (l1 : Option Value) (l2 : Option Value) (l3 : Option Value) (l4 : Option Value) (l5 : Option Value) (l6 : Option Value) (l7 : Option Value) (x : Int32) (st : List Value) (h : MH) (P : MP), mFr d 109 113 [l0, l1, l2, l3, l4, l5, l6, l7, some (.int x)] st h P = mFr d 109 115 [l0, l1, l2, l3, l4, l5, l6, l7, some (.int x)] (.int x :: st) h P) ∧
  (∀ (d : Nat) (loc : List (Option Value)) (st : List Value) (h : MH) (P : MP), mFr d 109 115 loc st h P = mFr d 109 116 loc (.int 2 :: st) h P) ∧
  (∀ (d : Nat) (loc : List (Option Value)) (x y : Int32) (st : List Value) (h : MH) (P : MP), mFr d 109 116 loc (.int y :: .int x :: st) h P = mFr d 109 117 loc (.int (x + y) :: st) h P) ∧
  (∀ (d : Nat) (loc : List (Option Value)) (b : Nat) (a0 : Int32) (s0 : Int32) (s1 : Int32) (s2 : Nat) (h : MH) (P : MP), mFr d 109 117 loc ((.int a0) :: .ref b :: [.int s0, .int s1, .ref s2]) h P = if mrcv h b 3 = true then mRun d 24 [.ref b, .int a0] h (fun v h' => mFr d 109 120 loc (v.toList ++ [.int s0, .int s1, .ref s2]) h' P) else False) ∧
  (∀ (d : Nat) (loc : List (Option Value)) (b : Nat) (a0 : Int32) (a1 : Int32) (a2 : Int32) (h : MH) (P : MP), mFr d 109 120 loc ((.int a2) :: (.int a1) :: (.int a0) :: .ref b :: []) h P = if mrcv h b 8 = true then mRun d 63 [.ref b, .int a0, .int a1, .int a2] h (fun v h' => mFr d 109 123 loc (v.toList ++ []) h' P) else False) ∧
  (∀ (d : Nat) (loc : List (Option Value)) (x : Int32) (st : List Value) (h : MH) (P : MP), mFr d 109 123 loc (.int x :: st) h P = if x < 0 then mFr d 109 129 loc (st) h P else mFr d 109 126 loc (st) h P) := ⟨fun _ _ _ _ _ _ _ _ _ _ _ _ _ => (mFr_S mq109 h109_94).trans rfl,
  fun _ _ _ _ _ _ _ _ _ _ _ _ _ => (mFr_S mq109 h109_95).trans rfl,
  fun _ _ _ _ _ _ _ _ _ _ _ _ => (mFr_S mq109 h109_95).trans rfl,
  fun _ _ _ _ _ _ _ _ _ _ _ _ _ => (mFr_S mq109 h109_97).trans rfl,
  fun _ _ b a0 s0 _ _ => F_callV (as := [.int a0]) (rest := [.ref s0]) mq109 (Or.inl h109_99) (rfl : _ = some (269, 6, 24, 1)) (Or.inl ⟨h109_99, by decide⟩) (by rfl) (by rfl) (by rfl) (Nat.le_of_ble_eq_true rfl),
  fun _ _ _ _ _ _ _ _ _ _ _ _ _ => (mFr_S mq109 h109_102).trans rfl,
  fun _ _ _ _ _ _ _ _ _ _ _ _ => (mFr_S mq109 h109_102).trans rfl,
  fun _ _ _ _ _ _ _ _ _ _ _ _ _ => (mFr_S mq109 h109_104).trans rfl,
  fun _ _ _ _ _ => (mFr_S mq109 h109_106).trans rfl,
  fun _ _ _ _ _ _ _ => (mFr_S mq109 h109_107).trans rfl,
  fun _ _ b a0 s0 s1 _ _ => F_callV (as := [.int a0]) (rest := [.int s0, .ref s1]) mq109 (Or.inl h109_108) (rfl : _ = some (269, 6, 24, 1)) (Or.inl ⟨h109_108, by decide⟩) (by rfl) (by rfl) (by rfl) (Nat.le_of_ble_eq_true rfl),
  fun _ _ _ _ _ _ _ _ _ _ _ _ _ => (mFr_S mq109 h109_111).trans rfl,
  fun _ _ _ _ _ _ _ _ _ _ _ _ => (mFr_S mq109 h109_111).trans rfl,
  fun _ _ _ _ _ _ _ _ _ _ _ _ _ => (mFr_S mq109 h109_113).trans rfl,
  fun _ _ _ _ _ => (mFr_S mq109 h109_115).trans rfl,
  fun _ _ _ _ _ _ _ => (mFr_S mq109 h109_116).trans rfl,
  fun _ _ b a0 s0 s1 s2 _ _ => F_callV (as := [.int a0]) (rest := [.int s0, .int s1, .ref s2]) mq109 (Or.inl h109_117) (rfl : _ = some (269, 6, 24, 1)) (Or.inl ⟨h109_117, by decide⟩) (by rfl) (by rfl) (by rfl) (Nat.le_of_ble_eq_true rfl),
  fun _ _ b a0 a1 a2 _ _ => F_callV (as := [.int a0, .int a1, .int a2]) (rest := []) mq109 (Or.inl h109_120) (rfl : _ = some (312, 6, 63, 0)) (Or.inl ⟨h109_120, by decide⟩) (by rfl) (by rfl) (by rfl) (Nat.le_of_ble_eq_true rfl),
  fun _ _ _ _ _ _ => (F_ifz 129 mq109 h109_123 (by decide)).trans mif_lt⟩
theorem E109_126 : (∀ (d : Nat) (l0 : Option Value) (l1 : Option Value) (l2 : Option Value) (l3 : Option Value) (l4 : Option Value) (l5 : Option Value) (l7 : Option Value) (l8 : Option Value) (x : Int32) (st : List Value) (h : MH) (P : MP), mnl l5 = true → mFr d 109 126 [l0, l1, l2, l3, l4, l5, some (.int x), l7, l8] st h P = mFr d 109 129 [l0, l1, l2, l3, l4, l5, some (.int (x + 1)), l7, l8] (st) h P) := fun _ _ _ _ _ _ _ _ _ _ _ _ _ hm => (mFr_S mq109 h109_126).trans (by simp only [mgo.eq_1, mstep, mld, mst, mprev, List.length_cons, List.length_nil, List.getElem?_cons_succ, List.getElem?_cons_zero, hm]; rfl)
theorem E109_129 : (∀ (d : Nat) (l0 : Option Value) (l1 : Option Value) (l2 : Option Value) (l3 : Option Value) (l4 : Option Value) (l5 : Option Value) (l6 : Option Value) (l8 : Option Value) (x : Int32) (st : List Value) (h : MH) (P : MP), mnl l6 = true → mFr d 109 129 [l0, l1, l2, l3, l4, l5, l6, some (.int x), l8] st h P = mFr d 109 132 [l0, l1, l2, l3, l4, l5, l6, some (.int (x + 1)), l8] (st) h P) ∧
  (∀ (d : Nat) (loc : List (Option Value)) (st : List Value) (h : MH) (P : MP), mFr d 109 132 loc st h P = mFr d 109 65 loc (st) h P) := ⟨fun _ _ _ _ _ _ _ _ _ _ _ _ _ hm => (mFr_S mq109 h109_129).trans (by simp only [mgo.eq_1, mstep, mld, mst, mprev, List.length_cons, List.length_nil, List.getElem?_cons_succ, List.getElem?_cons_zero, hm]; rfl),
  fun _ _ _ _ _ => F_goto 65 mq109 h109_132 (by decide)⟩
theorem E109_135 : (∀ (d : Nat) (l0 : Option Value) (l1 : Option Value) (l2 : Option Value) (l3 : Option Value) (l4 : Option Value) (l5 : Option Value) (l7 : Option Value) (l8 : Option Value) (x : Int32) (st : List Value) (h : MH) (P : MP), mFr d 109 135 [l0, l1, l2, l3, l4, l5, some (.int x), l7, l8] st h P = mFr d 109 137 [l0, l1, l2, l3, l4, l5, some (.int x), l7, l8] (.int x :: st) h P) ∧
  (∀ (d : Nat) (loc : List (Option Value)) (x : Int32) (h : MH) (P : MP), mFr d 109 137 loc [.int x] h P = P (some (.int x)) h) := ⟨fun _ _ _ _ _ _ _ _ _ _ _ _ _ => (mFr_S mq109 h109_135).trans rfl,
  fun _ _ _ _ _ => F_ret mq109 h109_137 rfl rfl⟩
theorem B109 : ∀ (d : Nat) (b : Nat) (a0 : Int32) (a1 : Int32) (a2 : Int32) (a3 : Int32) (h : MH) (P : MP), mRun (d + 1) 109 [.ref b, .int a0, .int a1, .int a2, .int a3] h P = mFr d 109 0 [some (.ref b), some (.int a0), some (.int a1), some (.int a2), some (.int a3), none, none, none, none] [] h P := fun _ _ _ _ _ _ _ _ => mRun_S mq109 (Nat.le_of_ble_eq_true rfl)
-- 110: PuncturesAreViews.taken(II)I
def q110 : MI := (yX8_taken, cX8_taken, 4, (some .int), 8, 2)
theorem mq110 : mtab[110]? = some q110 := rfl
theorem h110_0 : mfetch q110.2.1 0 = some (.iload_n 2) := by decide +kernel
theorem h110_1 : mfetch q110.2.1 1 = some (.ifCond .lt 9) := by decide +kernel
theorem h110_4 : mfetch q110.2.1 4 = some (.iload_n 2) := by decide +kernel
theorem h110_5 : mfetch q110.2.1 5 = some (.bipush 6) := by decide +kernel
theorem h110_7 : mfetch q110.2.1 7 = some (.if_icmp .lt 6) := by decide +kernel
theorem h110_10 : mfetch q110.2.1 10 = some (.bipush (-2)) := by decide +kernel
theorem h110_12 : mfetch q110.2.1 12 = some (.ireturn) := by decide +kernel
theorem h110_13 : mfetch q110.2.1 13 = some (.aload_n 0) := by decide +kernel
theorem h110_14 : mfetch q110.2.1 14 = some (.getfield 25) := by decide +kernel
theorem h110_17 : mfetch q110.2.1 17 = some (.iload_n 1) := by decide +kernel
theorem h110_18 : mfetch q110.2.1 18 = some (.invokevirtual 135) := by decide +kernel
theorem h110_21 : mfetch q110.2.1 21 = some (.astore_n 3) := by decide +kernel
theorem h110_22 : mfetch q110.2.1 22 = some (.aload_n 3) := by decide +kernel
theorem h110_23 : mfetch q110.2.1 23 = some (.ifnonnull 6) := by decide +kernel
theorem h110_26 : mfetch q110.2.1 26 = some (.bipush (-11)) := by decide +kernel
theorem h110_28 : mfetch q110.2.1 28 = some (.ireturn) := by decide +kernel
theorem h110_29 : mfetch q110.2.1 29 = some (.aload_n 3) := by decide +kernel
theorem h110_30 : mfetch q110.2.1 30 = some (.getfield 151) := by decide +kernel
theorem h110_33 : mfetch q110.2.1 33 = some (.iload_n 2) := by decide +kernel
theorem h110_34 : mfetch q110.2.1 34 = some (.invokestatic 315) := by decide +kernel
theorem h110_37 : mfetch q110.2.1 37 = some (.ifCond .eq 10) := by decide +kernel
theorem h110_40 : mfetch q110.2.1 40 = some (.aload_n 3) := by decide +kernel
theorem h110_41 : mfetch q110.2.1 41 = some (.getfield 139) := by decide +kernel
theorem h110_44 : mfetch q110.2.1 44 = some (.goto 5) := by decide +kernel
theorem h110_47 : mfetch q110.2.1 47 = some (.bipush (-13)) := by decide +kernel
theorem h110_49 : mfetch q110.2.1 49 = some (.ireturn) := by decide +kernel
theorem E110_0 : (∀ (d : Nat) (l0 : Option Value) (l1 : Option Value) (l3 : Option Value) (x : Int32) (st : List Value) (h : MH) (P : MP), mFr d 110 0 [l0, l1, some (.int x), l3] st h P = mFr d 110 1 [l0, l1, some (.int x), l3] (.int x :: st) h P) ∧
  (∀ (d : Nat) (loc : List (Option Value)) (x : Int32) (st : List Value) (h : MH) (P : MP), mFr d 110 1 loc (.int x :: st) h P = if x < 0 then mFr d 110 10 loc (st) h P else mFr d 110 4 loc (st) h P) := ⟨fun _ _ _ _ _ _ _ _ => (mFr_S mq110 h110_0).trans rfl,
  fun _ _ _ _ _ _ => (F_ifz 10 mq110 h110_1 (by decide)).trans mif_lt⟩
theorem E110_4 : (∀ (d : Nat) (l0 : Option Value) (l1 : Option Value) (l3 : Option Value) (x : Int32) (st : List Value) (h : MH) (P : MP), mFr d 110 4 [l0, l1, some (.int x), l3] st h P = mFr d 110 5 [l0, l1, some (.int x), l3] (.int x :: st) h P) ∧
  (∀ (d : Nat) (loc : List (Option Value)) (st : List Value) (h : MH) (P : MP), mFr d 110 5 loc st h P = mFr d 110 7 loc (.int 6 :: st) h P) ∧
  (∀ (d : Nat) (loc : List (Option Value)) (x y : Int32) (st : List Value) (h : MH) (P : MP), mFr d 110 7 loc (.int y :: .int x :: st) h P = if x < y then mFr d 110 13 loc (st) h P else mFr d 110 10 loc (st) h P) := ⟨fun _ _ _ _ _ _ _ _ => (mFr_S mq110 h110_4).trans rfl,
  fun _ _ _ _ _ => (mFr_S mq110 h110_5).trans rfl,
  fun _ _ _ _ _ _ _ => (F_icmp 13 mq110 h110_7 (by decide)).trans mif_lt⟩
theorem E110_10 : (∀ (d : Nat) (loc : List (Option Value)) (st : List Value) (h : MH) (P : MP), mFr d 110 10 loc st h P = mFr d 110 12 loc (.int (-2) :: st) h P) ∧
  (∀ (d : Nat) (loc : List (Option Value)) (x : Int32) (h : MH) (P : MP), mFr d 110 12 loc [.int x] h P = P (some (.int x)) h) := ⟨fun _ _ _ _ _ => (mFr_S mq110 h110_10).trans rfl,
  fun _ _ _ _ _ => F_ret mq110 h110_12 rfl rfl⟩
theorem E110_13 : (∀ (d : Nat) (l1 : Option Value) (l2 : Option Value) (l3 : Option Value) (x : Nat) (st : List Value) (h : MH) (P : MP), mFr d 110 13 [some (.ref x), l1, l2, l3] st h P = mFr d 110 14 [some (.ref x), l1, l2, l3] (.ref x :: st) h P) ∧
  (∀ (d : Nat) (loc : List (Option Value)) (a : Nat) (st : List Value) (h : MH) (P : MP), mFr d 110 14 loc (.ref a :: st) h P = pget h a 8 5 (fun v => mFr d 110 17 loc (v :: st) h P)) ∧
  (∀ (d : Nat) (l0 : Option Value) (l2 : Option Value) (l3 : Option Value) (x : Int32) (st : List Value) (h : MH) (P : MP), mFr d 110 17 [l0, some (.int x), l2, l3] st h P = mFr d 110 18 [l0, some (.int x), l2, l3] (.int x :: st) h P) ∧
  (∀ (d : Nat) (loc : List (Option Value)) (b : Nat) (a0 : Int32) (h : MH) (P : MP), mFr d 110 18 loc ((.int a0) :: .ref b :: []) h P = if mrcv h b 0 = true then mRun d 1 [.ref b, .int a0] h (fun v h' => mFr d 110 21 loc (v.toList ++ []) h' P) else False) ∧
  (∀ (d : Nat) (l0 : Option Value) (l1 : Option Value) (l2 : Option Value) (l3 : Option Value) (x : Nat) (st : List Value) (h : MH) (P : MP), mnl l2 = true → mFr d 110 21 [l0, l1, l2, l3] (.ref x :: st) h P = mFr d 110 22 [l0, l1, l2, some (.ref x)] (st) h P) ∧
  (∀ (d : Nat) (l0 : Option Value) (l1 : Option Value) (l2 : Option Value) (l3 : Option Value) (st : List Value) (h : MH) (P : MP), mnl l2 = true → mFr d 110 21 [l0, l1, l2, l3] (.null :: st) h P = mFr d 110 22 [l0, l1, l2, some .null] (st) h P) ∧
  (∀ (d : Nat) (l0 : Option Value) (l1 : Option Value) (l2 : Option Value) (x : Nat) (st : List Value) (h : MH) (P : MP), mFr d 110 22 [l0, l1, l2, some (.ref x)] st h P = mFr d 110 23 [l0, l1, l2, some (.ref x)] (.ref x :: st) h P) ∧
  (∀ (d : Nat) (l0 : Option Value) (l1 : Option Value) (l2 : Option Value) (st : List Value) (h : MH) (P : MP), mFr d 110 22 [l0, l1, l2, some .null] st h P = mFr d 110 23 [l0, l1, l2, some .null] (.null :: st) h P) ∧
  (∀ (d : Nat) (loc : List (Option Value)) (x : Nat) (st : List Value) (h : MH) (P : MP), mFr d 110 23 loc (.ref x :: st) h P = if x < 900 then mFr d 110 29 loc (st) h P else False) ∧
  (∀ (d : Nat) (loc : List (Option Value)) (st : List Value) (h : MH) (P : MP), mFr d 110 23 loc (.null :: st) h P = mFr d 110 26 loc (st) h P) := ⟨fun _ _ _ _ _ _ _ _ => (mFr_S mq110 h110_13).trans rfl,
  fun _ _ _ _ _ _ => F_get mq110 h110_14 (Or.inl (rfl : _ = some (25, 0, 8, 5))),
  fun _ _ _ _ _ _ _ _ => (mFr_S mq110 h110_17).trans rfl,
  fun _ _ b a0 _ _ => F_callV (as := [.int a0]) (rest := []) mq110 (Or.inl h110_18) (rfl : _ = some (135, 6, 1, 1)) (Or.inl ⟨h110_18, by decide⟩) (by rfl) (by rfl) (by rfl) (Nat.le_of_ble_eq_true rfl),
  fun _ _ _ _ _ _ _ _ _ hm => (mFr_S mq110 h110_21).trans (by simp only [mgo.eq_1, mstep, mi1, ml1, mast, mst, mst2, mprev, List.length_cons, List.length_nil, List.getElem?_cons_succ, List.getElem?_cons_zero, hm]; rfl),
  fun _ _ _ _ _ _ _ _ hm => (mFr_S mq110 h110_21).trans (by simp only [mgo.eq_1, mstep, mi1, ml1, mast, mst, mst2, mprev, List.length_cons, List.length_nil, List.getElem?_cons_succ, List.getElem?_cons_zero, hm]; rfl),
  fun _ _ _ _ _ _ _ _ => (mFr_S mq110 h110_22).trans rfl,
  fun _ _ _ _ _ _ _ => (mFr_S mq110 h110_22).trans rfl,
  fun _ _ _ _ _ _ => F_ifnonnullR 29 mq110 h110_23 (by decide),
  fun _ _ _ _ _ => (mFr_S mq110 h110_23).trans rfl⟩
theorem E110_26 : (∀ (d : Nat) (loc : List (Option Value)) (st : List Value) (h : MH) (P : MP), mFr d 110 26 loc st h P = mFr d 110 28 loc (.int (-11) :: st) h P) ∧
  (∀ (d : Nat) (loc : List (Option Value)) (x : Int32) (h : MH) (P : MP), mFr d 110 28 loc [.int x] h P = P (some (.int x)) h) := ⟨fun _ _ _ _ _ => (mFr_S mq110 h110_26).trans rfl,
  fun _ _ _ _ _ => F_ret mq110 h110_28 rfl rfl⟩
theorem E110_29 : (∀ (d : Nat) (l0 : Option Value) (l1 : Option Value) (l2 : Option Value) (x : Nat) (st : List Value) (h : MH) (P : MP), mFr d 110 29 [l0, l1, l2, some (.ref x)] st h P = mFr d 110 30 [l0, l1, l2, some (.ref x)] (.ref x :: st) h P) ∧
  (∀ (d : Nat) (l0 : Option Value) (l1 : Option Value) (l2 : Option Value) (st : List Value) (h : MH) (P : MP), mFr d 110 29 [l0, l1, l2, some .null] st h P = mFr d 110 30 [l0, l1, l2, some .null] (.null :: st) h P) ∧
  (∀ (d : Nat) (loc : List (Option Value)) (a : Nat) (st : List Value) (h : MH) (P : MP), mFr d 110 30 loc (.ref a :: st) h P = pget h a 1 0 (fun v => mFr d 110 33 loc (v :: st) h P)) ∧
  (∀ (d : Nat) (l0 : Option Value) (l1 : Option Value) (l3 : Option Value) (x : Int32) (st : List Value) (h : MH) (P : MP), mFr d 110 33 [l0, l1, some (.int x), l3] st h P = mFr d 110 34 [l0, l1, some (.int x), l3] (.int x :: st) h P) ∧
  (∀ (d : Nat) (loc : List (Option Value)) (a0 : Int32) (a1 : Int32) (h : MH) (P : MP), mFr d 110 34 loc ((.int a1) :: (.int a0) :: []) h P = mRun d 111 [.int a0, .int a1] h (fun v h' => mFr d 110 37 loc (v.toList ++ []) h' P)) ∧
  (∀ (d : Nat) (loc : List (Option Value)) (x : Int32) (st : List Value) (h : MH) (P : MP), mFr d 110 37 loc (.int x :: st) h P = if x = 0 then mFr d 110 47 loc (st) h P else mFr d 110 40 loc (st) h P) := ⟨fun _ _ _ _ _ _ _ _ => (mFr_S mq110 h110_29).trans rfl,
  fun _ _ _ _ _ _ _ => (mFr_S mq110 h110_29).trans rfl,
  fun _ _ _ _ _ _ => F_get mq110 h110_30 (Or.inr (rfl : _ = some (151, 1, 1, 0))),
  fun _ _ _ _ _ _ _ _ => (mFr_S mq110 h110_33).trans rfl,
  fun _ _ a0 a1 _ _ => F_callS (as := [.int a0, .int a1]) (rest := []) mq110 h110_34 (rfl : _ = some (315, 6, 111, 2)) (by decide) (by rfl) (by rfl) (by rfl) (Nat.le_of_ble_eq_true rfl),
  fun _ _ _ _ _ _ => (F_ifz 47 mq110 h110_37 (by decide)).trans mif_eq⟩
theorem E110_40 : (∀ (d : Nat) (l0 : Option Value) (l1 : Option Value) (l2 : Option Value) (x : Nat) (st : List Value) (h : MH) (P : MP), mFr d 110 40 [l0, l1, l2, some (.ref x)] st h P = mFr d 110 41 [l0, l1, l2, some (.ref x)] (.ref x :: st) h P) ∧
  (∀ (d : Nat) (l0 : Option Value) (l1 : Option Value) (l2 : Option Value) (st : List Value) (h : MH) (P : MP), mFr d 110 40 [l0, l1, l2, some .null] st h P = mFr d 110 41 [l0, l1, l2, some .null] (.null :: st) h P) ∧
  (∀ (d : Nat) (loc : List (Option Value)) (a : Nat) (st : List Value) (h : MH) (P : MP), mFr d 110 41 loc (.ref a :: st) h P = pget h a 1 1 (fun v => mFr d 110 44 loc (v :: st) h P)) ∧
  (∀ (d : Nat) (loc : List (Option Value)) (st : List Value) (h : MH) (P : MP), mFr d 110 44 loc st h P = mFr d 110 49 loc (st) h P) := ⟨fun _ _ _ _ _ _ _ _ => (mFr_S mq110 h110_40).trans rfl,
  fun _ _ _ _ _ _ _ => (mFr_S mq110 h110_40).trans rfl,
  fun _ _ _ _ _ _ => F_get mq110 h110_41 (Or.inr (rfl : _ = some (139, 1, 1, 1))),
  fun _ _ _ _ _ => F_goto 49 mq110 h110_44 (by decide)⟩
theorem E110_47 : (∀ (d : Nat) (loc : List (Option Value)) (st : List Value) (h : MH) (P : MP), mFr d 110 47 loc st h P = mFr d 110 49 loc (.int (-13) :: st) h P) := fun _ _ _ _ _ => (mFr_S mq110 h110_47).trans rfl
theorem E110_49 : (∀ (d : Nat) (loc : List (Option Value)) (x : Int32) (h : MH) (P : MP), mFr d 110 49 loc [.int x] h P = P (some (.int x)) h) := fun _ _ _ _ _ => F_ret mq110 h110_49 rfl rfl
theorem B110 : ∀ (d : Nat) (b : Nat) (a0 : Int32) (a1 : Int32) (h : MH) (P : MP), mRun (d + 1) 110 [.ref b, .int a0, .int a1] h P = mFr d 110 0 [some (.ref b), some (.int a0), some (.int a1), none] [] h P := fun _ _ _ _ _ _ => mRun_S mq110 (Nat.le_of_ble_eq_true rfl)
-- 111: PuncturesAreViews.isUnder(II)Z loops at [4]
def q111 : MI := (yX8_isUnder, cX8_isUnder, 4, (some .boolean), 8, 2)
theorem mq111 : mtab[111]? = some q111 := rfl
theorem h111_0 : mfetch q111.2.1 0 = some (.iload_n 0) := by decide +kernel
theorem h111_1 : mfetch q111.2.1 1 = some (.istore_n 2) := by decide +kernel
theorem h111_2 : mfetch q111.2.1 2 = some (.iconst 0) := by decide +kernel
theorem h111_3 : mfetch q111.2.1 3 = some (.istore_n 3) := by decide +kernel
theorem h111_4 : mfetch q111.2.1 4 = some (.iload_n 3) := by decide +kernel
theorem h111_5 : mfetch q111.2.1 5 = some (.bipush 6) := by decide +kernel
theorem h111_7 : mfetch q111.2.1 7 = some (.if_icmp .ge 34) := by decide +kernel
theorem h111_10 : mfetch q111.2.1 10 = some (.iload_n 2) := by decide +kernel
theorem h111_11 : mfetch q111.2.1 11 = some (.ifCond .lt 30) := by decide +kernel
theorem h111_14 : mfetch q111.2.1 14 = some (.iload_n 2) := by decide +kernel
theorem h111_15 : mfetch q111.2.1 15 = some (.getstatic 318) := by decide +kernel
theorem h111_18 : mfetch q111.2.1 18 = some (.arraylength) := by decide +kernel
theorem h111_19 : mfetch q111.2.1 19 = some (.if_icmp .ge 22) := by decide +kernel
theorem h111_22 : mfetch q111.2.1 22 = some (.iload_n 2) := by decide +kernel
theorem h111_23 : mfetch q111.2.1 23 = some (.iload_n 1) := by decide +kernel
theorem h111_24 : mfetch q111.2.1 24 = some (.if_icmp .ne 5) := by decide +kernel
theorem h111_27 : mfetch q111.2.1 27 = some (.iconst 1) := by decide +kernel
theorem h111_28 : mfetch q111.2.1 28 = some (.ireturn) := by decide +kernel
theorem h111_29 : mfetch q111.2.1 29 = some (.getstatic 318) := by decide +kernel
theorem h111_32 : mfetch q111.2.1 32 = some (.iload_n 2) := by decide +kernel
theorem h111_33 : mfetch q111.2.1 33 = some (.iaload) := by decide +kernel
theorem h111_34 : mfetch q111.2.1 34 = some (.istore_n 2) := by decide +kernel
theorem h111_35 : mfetch q111.2.1 35 = some (.iinc 3 1) := by decide +kernel
theorem h111_38 : mfetch q111.2.1 38 = some (.goto (-34)) := by decide +kernel
theorem h111_41 : mfetch q111.2.1 41 = some (.iconst 0) := by decide +kernel
theorem h111_42 : mfetch q111.2.1 42 = some (.ireturn) := by decide +kernel
theorem E111_0 : (∀ (d : Nat) (l1 : Option Value) (l2 : Option Value) (l3 : Option Value) (x : Int32) (st : List Value) (h : MH) (P : MP), mFr d 111 0 [some (.int x), l1, l2, l3] st h P = mFr d 111 1 [some (.int x), l1, l2, l3] (.int x :: st) h P) ∧
  (∀ (d : Nat) (l0 : Option Value) (l1 : Option Value) (l2 : Option Value) (l3 : Option Value) (x : Int32) (st : List Value) (h : MH) (P : MP), mnl l1 = true → mFr d 111 1 [l0, l1, l2, l3] (.int x :: st) h P = mFr d 111 2 [l0, l1, some (.int x), l3] (st) h P) ∧
  (∀ (d : Nat) (loc : List (Option Value)) (st : List Value) (h : MH) (P : MP), mFr d 111 2 loc st h P = mFr d 111 3 loc (.int 0 :: st) h P) ∧
  (∀ (d : Nat) (l0 : Option Value) (l1 : Option Value) (l2 : Option Value) (l3 : Option Value) (x : Int32) (st : List Value) (h : MH) (P : MP), mnl l2 = true → mFr d 111 3 [l0, l1, l2, l3] (.int x :: st) h P = mFr d 111 4 [l0, l1, l2, some (.int x)] (st) h P) := ⟨fun _ _ _ _ _ _ _ _ => (mFr_S mq111 h111_0).trans rfl,
  fun _ _ _ _ _ _ _ _ _ hm => (mFr_S mq111 h111_1).trans (by simp only [mgo.eq_1, mstep, mi1, ml1, mast, mst, mst2, mprev, List.length_cons, List.length_nil, List.getElem?_cons_succ, List.getElem?_cons_zero, hm]; rfl),
  fun _ _ _ _ _ => (mFr_S mq111 h111_2).trans rfl,
  fun _ _ _ _ _ _ _ _ _ hm => (mFr_S mq111 h111_3).trans (by simp only [mgo.eq_1, mstep, mi1, ml1, mast, mst, mst2, mprev, List.length_cons, List.length_nil, List.getElem?_cons_succ, List.getElem?_cons_zero, hm]; rfl)⟩
theorem E111_4 : (∀ (d : Nat) (l0 : Option Value) (l1 : Option Value) (l2 : Option Value) (x : Int32) (st : List Value) (h : MH) (P : MP), mFr d 111 4 [l0, l1, l2, some (.int x)] st h P = mFr d 111 5 [l0, l1, l2, some (.int x)] (.int x :: st) h P) ∧
  (∀ (d : Nat) (loc : List (Option Value)) (st : List Value) (h : MH) (P : MP), mFr d 111 5 loc st h P = mFr d 111 7 loc (.int 6 :: st) h P) ∧
  (∀ (d : Nat) (loc : List (Option Value)) (x y : Int32) (st : List Value) (h : MH) (P : MP), mFr d 111 7 loc (.int y :: .int x :: st) h P = if x < y then mFr d 111 10 loc (st) h P else mFr d 111 41 loc (st) h P) := ⟨fun _ _ _ _ _ _ _ _ => (mFr_S mq111 h111_4).trans rfl,
  fun _ _ _ _ _ => (mFr_S mq111 h111_5).trans rfl,
  fun _ _ _ _ _ _ _ => (F_icmp 41 mq111 h111_7 (by decide)).trans mif_ge⟩
theorem E111_10 : (∀ (d : Nat) (l0 : Option Value) (l1 : Option Value) (l3 : Option Value) (x : Int32) (st : List Value) (h : MH) (P : MP), mFr d 111 10 [l0, l1, some (.int x), l3] st h P = mFr d 111 11 [l0, l1, some (.int x), l3] (.int x :: st) h P) ∧
  (∀ (d : Nat) (loc : List (Option Value)) (x : Int32) (st : List Value) (h : MH) (P : MP), mFr d 111 11 loc (.int x :: st) h P = if x < 0 then mFr d 111 41 loc (st) h P else mFr d 111 14 loc (st) h P) := ⟨fun _ _ _ _ _ _ _ _ => (mFr_S mq111 h111_10).trans rfl,
  fun _ _ _ _ _ _ => (F_ifz 41 mq111 h111_11 (by decide)).trans mif_lt⟩
theorem E111_14 : (∀ (d : Nat) (l0 : Option Value) (l1 : Option Value) (l3 : Option Value) (x : Int32) (st : List Value) (h : MH) (P : MP), mFr d 111 14 [l0, l1, some (.int x), l3] st h P = mFr d 111 15 [l0, l1, some (.int x), l3] (.int x :: st) h P) ∧
  (∀ (d : Nat) (loc : List (Option Value)) (st : List Value) (h : MH) (P : MP), mFr d 111 15 loc st h P = mFr d 111 18 loc (.ref 1001 :: st) h P) ∧
  (∀ (d : Nat) (loc : List (Option Value)) (a : Nat) (st : List Value) (h : MH) (P : MP), mFr d 111 18 loc (.ref a :: st) h P = palen h a (fun n => mFr d 111 19 loc (.int (Int32.ofNat n) :: st) h P)) ∧
  (∀ (d : Nat) (loc : List (Option Value)) (x y : Int32) (st : List Value) (h : MH) (P : MP), mFr d 111 19 loc (.int y :: .int x :: st) h P = if x < y then mFr d 111 22 loc (st) h P else mFr d 111 41 loc (st) h P) := ⟨fun _ _ _ _ _ _ _ _ => (mFr_S mq111 h111_14).trans rfl,
  fun _ _ _ _ _ => (mFr_S mq111 h111_15).trans rfl,
  fun _ _ _ _ _ _ => F_alen mq111 h111_18,
  fun _ _ _ _ _ _ _ => (F_icmp 41 mq111 h111_19 (by decide)).trans mif_ge⟩
theorem E111_22 : (∀ (d : Nat) (l0 : Option Value) (l1 : Option Value) (l3 : Option Value) (x : Int32) (st : List Value) (h : MH) (P : MP), mFr d 111 22 [l0, l1, some (.int x), l3] st h P = mFr d 111 23 [l0, l1, some (.int x), l3] (.int x :: st) h P) ∧
  (∀ (d : Nat) (l0 : Option Value) (l2 : Option Value) (l3 : Option Value) (x : Int32) (st : List Value) (h : MH) (P : MP), mFr d 111 23 [l0, some (.int x), l2, l3] st h P = mFr d 111 24 [l0, some (.int x), l2, l3] (.int x :: st) h P) ∧
  (∀ (d : Nat) (loc : List (Option Value)) (x y : Int32) (st : List Value) (h : MH) (P : MP), mFr d 111 24 loc (.int y :: .int x :: st) h P = if x = y then mFr d 111 27 loc (st) h P else mFr d 111 29 loc (st) h P) := ⟨fun _ _ _ _ _ _ _ _ => (mFr_S mq111 h111_22).trans rfl,
  fun _ _ _ _ _ _ _ _ => (mFr_S mq111 h111_23).trans rfl,
  fun _ _ _ _ _ _ _ => (F_icmp 29 mq111 h111_24 (by decide)).trans mif_ne⟩
theorem E111_27 : (∀ (d : Nat) (loc : List (Option Value)) (st : List Value) (h : MH) (P : MP), mFr d 111 27 loc st h P = mFr d 111 28 loc (.int 1 :: st) h P) ∧
  (∀ (d : Nat) (loc : List (Option Value)) (h : MH) (P : MP), mFr d 111 28 loc [.int 0] h P = P (some (.int 0)) h) ∧
  (∀ (d : Nat) (loc : List (Option Value)) (h : MH) (P : MP), mFr d 111 28 loc [.int 1] h P = P (some (.int 1)) h) ∧
  (∀ (d : Nat) (loc : List (Option Value)) (c : Prop) [Decidable c] (h : MH) (P : MP), mFr d 111 28 loc [.int (if c then 1 else 0)] h P = P (some (.int (if c then 1 else 0))) h) := ⟨fun _ _ _ _ _ => (mFr_S mq111 h111_27).trans rfl,
  fun _ _ _ _ => F_ret mq111 h111_28 rfl (by decide),
  fun _ _ _ _ => F_ret mq111 h111_28 rfl (by decide),
  fun _ _ _ _ _ _ => F_ret mq111 h111_28 rfl (by split <;> decide)⟩
theorem E111_29 : (∀ (d : Nat) (loc : List (Option Value)) (st : List Value) (h : MH) (P : MP), mFr d 111 29 loc st h P = mFr d 111 32 loc (.ref 1001 :: st) h P) ∧
  (∀ (d : Nat) (l0 : Option Value) (l1 : Option Value) (l3 : Option Value) (x : Int32) (st : List Value) (h : MH) (P : MP), mFr d 111 32 [l0, l1, some (.int x), l3] st h P = mFr d 111 33 [l0, l1, some (.int x), l3] (.int x :: st) h P) ∧
  (∀ (d : Nat) (loc : List (Option Value)) (a : Nat) (i : Int32) (st : List Value) (h : MH) (P : MP), mFr d 111 33 loc (.int i :: .ref a :: st) h P = pial h a i (fun x => mFr d 111 34 loc (.int x :: st) h P)) ∧
  (∀ (d : Nat) (l0 : Option Value) (l1 : Option Value) (l2 : Option Value) (l3 : Option Value) (x : Int32) (st : List Value) (h : MH) (P : MP), mnl l1 = true → mFr d 111 34 [l0, l1, l2, l3] (.int x :: st) h P = mFr d 111 35 [l0, l1, some (.int x), l3] (st) h P) ∧
  (∀ (d : Nat) (l0 : Option Value) (l1 : Option Value) (l2 : Option Value) (x : Int32) (st : List Value) (h : MH) (P : MP), mnl l2 = true → mFr d 111 35 [l0, l1, l2, some (.int x)] st h P = mFr d 111 38 [l0, l1, l2, some (.int (x + 1))] (st) h P) ∧
  (∀ (d : Nat) (loc : List (Option Value)) (st : List Value) (h : MH) (P : MP), mFr d 111 38 loc st h P = mFr d 111 4 loc (st) h P) := ⟨fun _ _ _ _ _ => (mFr_S mq111 h111_29).trans rfl,
  fun _ _ _ _ _ _ _ _ => (mFr_S mq111 h111_32).trans rfl,
  fun _ _ _ _ _ _ _ => F_iald mq111 h111_33,
  fun _ _ _ _ _ _ _ _ _ hm => (mFr_S mq111 h111_34).trans (by simp only [mgo.eq_1, mstep, mi1, ml1, mast, mst, mst2, mprev, List.length_cons, List.length_nil, List.getElem?_cons_succ, List.getElem?_cons_zero, hm]; rfl),
  fun _ _ _ _ _ _ _ _ hm => (mFr_S mq111 h111_35).trans (by simp only [mgo.eq_1, mstep, mld, mst, mprev, List.length_cons, List.length_nil, List.getElem?_cons_succ, List.getElem?_cons_zero, hm]; rfl),
  fun _ _ _ _ _ => F_goto 4 mq111 h111_38 (by decide)⟩
theorem E111_41 : (∀ (d : Nat) (loc : List (Option Value)) (st : List Value) (h : MH) (P : MP), mFr d 111 41 loc st h P = mFr d 111 42 loc (.int 0 :: st) h P) ∧
  (∀ (d : Nat) (loc : List (Option Value)) (h : MH) (P : MP), mFr d 111 42 loc [.int 0] h P = P (some (.int 0)) h) ∧
  (∀ (d : Nat) (loc : List (Option Value)) (h : MH) (P : MP), mFr d 111 42 loc [.int 1] h P = P (some (.int 1)) h) ∧
  (∀ (d : Nat) (loc : List (Option Value)) (c : Prop) [Decidable c] (h : MH) (P : MP), mFr d 111 42 loc [.int (if c then 1 else 0)] h P = P (some (.int (if c then 1 else 0))) h) := ⟨fun _ _ _ _ _ => (mFr_S mq111 h111_41).trans rfl,
  fun _ _ _ _ => F_ret mq111 h111_42 rfl (by decide),
  fun _ _ _ _ => F_ret mq111 h111_42 rfl (by decide),
  fun _ _ _ _ _ _ => F_ret mq111 h111_42 rfl (by split <;> decide)⟩
theorem B111 : ∀ (d : Nat) (a0 : Int32) (a1 : Int32) (h : MH) (P : MP), mRun (d + 1) 111 [.int a0, .int a1] h P = mFr d 111 0 [some (.int a0), some (.int a1), none, none] [] h P := fun _ _ _ _ _ => mRun_S mq111 (Nat.le_of_ble_eq_true rfl)
-- 112: PuncturesAreViews.sheetOf(I)LPuncturesAreViews$Sheet;
def q112 : MI := (yX8_sheetOf, cX8_sheetOf, 2, (some (.object "PuncturesAreViews$Sheet")), 8, 1)
theorem mq112 : mtab[112]? = some q112 := rfl
theorem h112_0 : mfetch q112.2.1 0 = some (.iload_n 1) := by decide +kernel
theorem h112_1 : mfetch q112.2.1 1 = some (.ifCond .lt 21) := by decide +kernel
theorem h112_4 : mfetch q112.2.1 4 = some (.iload_n 1) := by decide +kernel
theorem h112_5 : mfetch q112.2.1 5 = some (.aload_n 0) := by decide +kernel
theorem h112_6 : mfetch q112.2.1 6 = some (.getfield 34) := by decide +kernel
theorem h112_9 : mfetch q112.2.1 9 = some (.arraylength) := by decide +kernel
theorem h112_10 : mfetch q112.2.1 10 = some (.if_icmp .ge 12) := by decide +kernel
theorem h112_13 : mfetch q112.2.1 13 = some (.aload_n 0) := by decide +kernel
theorem h112_14 : mfetch q112.2.1 14 = some (.getfield 34) := by decide +kernel
theorem h112_17 : mfetch q112.2.1 17 = some (.iload_n 1) := by decide +kernel
theorem h112_18 : mfetch q112.2.1 18 = some (.aaload) := by decide +kernel
theorem h112_19 : mfetch q112.2.1 19 = some (.goto 4) := by decide +kernel
theorem h112_22 : mfetch q112.2.1 22 = some (.aconst_null) := by decide +kernel
theorem h112_23 : mfetch q112.2.1 23 = some (.areturn) := by decide +kernel
theorem E112_0 : (∀ (d : Nat) (l0 : Option Value) (x : Int32) (st : List Value) (h : MH) (P : MP), mFr d 112 0 [l0, some (.int x)] st h P = mFr d 112 1 [l0, some (.int x)] (.int x :: st) h P) ∧
  (∀ (d : Nat) (loc : List (Option Value)) (x : Int32) (st : List Value) (h : MH) (P : MP), mFr d 112 1 loc (.int x :: st) h P = if x < 0 then mFr d 112 22 loc (st) h P else mFr d 112 4 loc (st) h P) := ⟨fun _ _ _ _ _ _ => (mFr_S mq112 h112_0).trans rfl,
  fun _ _ _ _ _ _ => (F_ifz 22 mq112 h112_1 (by decide)).trans mif_lt⟩
theorem E112_4 : (∀ (d : Nat) (l0 : Option Value) (x : Int32) (st : List Value) (h : MH) (P : MP), mFr d 112 4 [l0, some (.int x)] st h P = mFr d 112 5 [l0, some (.int x)] (.int x :: st) h P) ∧
  (∀ (d : Nat) (l1 : Option Value) (x : Nat) (st : List Value) (h : MH) (P : MP), mFr d 112 5 [some (.ref x), l1] st h P = mFr d 112 6 [some (.ref x), l1] (.ref x :: st) h P) ∧
  (∀ (d : Nat) (loc : List (Option Value)) (a : Nat) (st : List Value) (h : MH) (P : MP), mFr d 112 6 loc (.ref a :: st) h P = pget h a 8 9 (fun v => mFr d 112 9 loc (v :: st) h P)) ∧
  (∀ (d : Nat) (loc : List (Option Value)) (a : Nat) (st : List Value) (h : MH) (P : MP), mFr d 112 9 loc (.ref a :: st) h P = palen h a (fun n => mFr d 112 10 loc (.int (Int32.ofNat n) :: st) h P)) ∧
  (∀ (d : Nat) (loc : List (Option Value)) (x y : Int32) (st : List Value) (h : MH) (P : MP), mFr d 112 10 loc (.int y :: .int x :: st) h P = if x < y then mFr d 112 13 loc (st) h P else mFr d 112 22 loc (st) h P) := ⟨fun _ _ _ _ _ _ => (mFr_S mq112 h112_4).trans rfl,
  fun _ _ _ _ _ _ => (mFr_S mq112 h112_5).trans rfl,
  fun _ _ _ _ _ _ => F_get mq112 h112_6 (Or.inl (rfl : _ = some (34, 0, 8, 9))),
  fun _ _ _ _ _ _ => F_alen mq112 h112_9,
  fun _ _ _ _ _ _ _ => (F_icmp 22 mq112 h112_10 (by decide)).trans mif_ge⟩
theorem E112_13 : (∀ (d : Nat) (l1 : Option Value) (x : Nat) (st : List Value) (h : MH) (P : MP), mFr d 112 13 [some (.ref x), l1] st h P = mFr d 112 14 [some (.ref x), l1] (.ref x :: st) h P) ∧
  (∀ (d : Nat) (loc : List (Option Value)) (a : Nat) (st : List Value) (h : MH) (P : MP), mFr d 112 14 loc (.ref a :: st) h P = pget h a 8 9 (fun v => mFr d 112 17 loc (v :: st) h P)) ∧
  (∀ (d : Nat) (l0 : Option Value) (x : Int32) (st : List Value) (h : MH) (P : MP), mFr d 112 17 [l0, some (.int x)] st h P = mFr d 112 18 [l0, some (.int x)] (.int x :: st) h P) ∧
  (∀ (d : Nat) (loc : List (Option Value)) (a : Nat) (i : Int32) (st : List Value) (h : MH) (P : MP), mFr d 112 18 loc (.int i :: .ref a :: st) h P = paal h a i (fun v => mFr d 112 19 loc (v :: st) h P)) ∧
  (∀ (d : Nat) (loc : List (Option Value)) (st : List Value) (h : MH) (P : MP), mFr d 112 19 loc st h P = mFr d 112 23 loc (st) h P) := ⟨fun _ _ _ _ _ _ => (mFr_S mq112 h112_13).trans rfl,
  fun _ _ _ _ _ _ => F_get mq112 h112_14 (Or.inl (rfl : _ = some (34, 0, 8, 9))),
  fun _ _ _ _ _ _ => (mFr_S mq112 h112_17).trans rfl,
  fun _ _ _ _ _ _ _ => F_aald mq112 h112_18,
  fun _ _ _ _ _ => F_goto 23 mq112 h112_19 (by decide)⟩
theorem E112_22 : (∀ (d : Nat) (loc : List (Option Value)) (st : List Value) (h : MH) (P : MP), mFr d 112 22 loc st h P = mFr d 112 23 loc (.null :: st) h P) := fun _ _ _ _ _ => (mFr_S mq112 h112_22).trans rfl
theorem E112_23 : (∀ (d : Nat) (loc : List (Option Value)) (x : Nat) (h : MH) (P : MP), mFr d 112 23 loc [.ref x] h P = P (some (.ref x)) h) ∧
  (∀ (d : Nat) (loc : List (Option Value)) (h : MH) (P : MP), mFr d 112 23 loc [.null] h P = P (some .null) h) := ⟨fun _ _ _ _ _ => (mFr_S mq112 h112_23).trans rfl,
  fun _ _ _ _ => (mFr_S mq112 h112_23).trans rfl⟩
theorem B112 : ∀ (d : Nat) (b : Nat) (a0 : Int32) (h : MH) (P : MP), mRun (d + 1) 112 [.ref b, .int a0] h P = mFr d 112 0 [some (.ref b), some (.int a0)] [] h P := fun _ _ _ _ _ => mRun_S mq112 (Nat.le_of_ble_eq_true rfl)
