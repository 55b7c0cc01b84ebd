/-! the instructions as equations: java/lang/String, java/lang/StringLatin1, jdk/internal/util/Preconditions -/
-- 192: java/lang/String.length()I
def q192 : MI := (yJ0_length_8abf5, cJ0_length_8abf5, 1, (some .int), 10, 0)
theorem mq192 : mtab[192]? = some q192 := rfl
theorem h192_0 : mfetch q192.2.1 0 = some (.aload_n 0) := by decide +kernel
theorem h192_1 : mfetch q192.2.1 1 = some (.getfield 9) := by decide +kernel
theorem h192_4 : mfetch q192.2.1 4 = some (.arraylength) := by decide +kernel
theorem h192_5 : mfetch q192.2.1 5 = some (.aload_n 0) := by decide +kernel
theorem h192_6 : mfetch q192.2.1 6 = some (.invokevirtual 335) := by decide +kernel
theorem h192_9 : mfetch q192.2.1 9 = some (.ishr) := by decide +kernel
theorem h192_10 : mfetch q192.2.1 10 = some (.ireturn) := by decide +kernel
theorem E192_0 : (∀ (d : Nat) (x : Nat) (st : List Value) (h : MH) (P : MP), mFr d 192 0 [some (.ref x)] st h P = mFr d 192 1 [some (.ref x)] (.ref x :: st) h P) ∧
  (∀ (d : Nat) (loc : List (Option Value)) (a : Nat) (st : List Value) (h : MH) (P : MP), mFr d 192 1 loc (.ref a :: st) h P = if 1010 ≤ a ∧ a < 1013 then mFr d 192 4 loc (.ref (a + 10) :: st) h P else False) ∧
  (∀ (d : Nat) (loc : List (Option Value)) (a : Nat) (st : List Value) (h : MH) (P : MP), mFr d 192 4 loc (.ref a :: st) h P = palen h a (fun n => mFr d 192 5 loc (.int (Int32.ofNat n) :: st) h P)) ∧
  (∀ (d : Nat) (x : Nat) (st : List Value) (h : MH) (P : MP), mFr d 192 5 [some (.ref x)] st h P = mFr d 192 6 [some (.ref x)] (.ref x :: st) h P) ∧
  (∀ (d : Nat) (loc : List (Option Value)) (b : Nat) (s0 : Int32) (h : MH) (P : MP), mFr d 192 6 loc (.ref b :: [.int s0]) h P = if mrcv h b 10 = true then mRun d 196 [.ref b] h (fun v h' => mFr d 192 9 loc (v.toList ++ [.int s0]) h' P) else False) ∧
  (∀ (d : Nat) (loc : List (Option Value)) (x y : Int32) (st : List Value) (h : MH) (P : MP), mFr d 192 9 loc (.int y :: .int x :: st) h P = mFr d 192 10 loc (.int (x >>> (y &&& 31)) :: st) h P) ∧
  (∀ (d : Nat) (loc : List (Option Value)) (x : Int32) (h : MH) (P : MP), mFr d 192 10 loc [.int x] h P = P (some (.int x)) h) := ⟨fun _ _ _ _ _ => (mFr_S mq192 h192_0).trans rfl,
  fun _ _ _ _ _ _ => (mFr_S mq192 h192_1).trans mres_ite,
  fun _ _ _ _ _ _ => F_alen mq192 h192_4,
  fun _ _ _ _ _ => (mFr_S mq192 h192_5).trans rfl,
  fun _ _ b s0 _ _ => F_callV (as := []) (rest := [.int s0]) mq192 (Or.inl h192_6) (rfl : _ = some (335, 6, 196, 0)) (Or.inl ⟨h192_6, by decide⟩) (by rfl) (by rfl) (by rfl) (Nat.le_of_ble_eq_true rfl),
  fun _ _ _ _ _ _ _ => (mFr_S mq192 h192_9).trans rfl,
  fun _ _ _ _ _ => F_ret mq192 h192_10 rfl rfl⟩
theorem B192 : ∀ (d : Nat) (b : Nat) (h : MH) (P : MP), mRun (d + 1) 192 [.ref b] h P = mFr d 192 0 [some (.ref b)] [] h P := fun _ _ _ _ => mRun_S mq192 (Nat.le_of_ble_eq_true rfl)
-- 193: java/lang/String.charAt(I)C
def q193 : MI := (yJ0_charAt_5068e, cJ0_charAt_5068e, 2, (some .char), 10, 1)
theorem mq193 : mtab[193]? = some q193 := rfl
theorem h193_0 : mfetch q193.2.1 0 = some (.aload_n 0) := by decide +kernel
theorem h193_1 : mfetch q193.2.1 1 = some (.invokevirtual 492) := by decide +kernel
theorem h193_4 : mfetch q193.2.1 4 = some (.ifCond .eq 12) := by decide +kernel
theorem h193_7 : mfetch q193.2.1 7 = some (.aload_n 0) := by decide +kernel
theorem h193_8 : mfetch q193.2.1 8 = some (.getfield 9) := by decide +kernel
theorem h193_11 : mfetch q193.2.1 11 = some (.iload_n 1) := by decide +kernel
theorem h193_12 : mfetch q193.2.1 12 = some (.invokestatic 495) := by decide +kernel
theorem h193_15 : mfetch q193.2.1 15 = some (.ireturn) := by decide +kernel
theorem h193_16 : mfetch q193.2.1 16 = some (.aload_n 0) := by decide +kernel
theorem h193_17 : mfetch q193.2.1 17 = some (.getfield 9) := by decide +kernel
theorem h193_20 : mfetch q193.2.1 20 = some (.iload_n 1) := by decide +kernel
theorem h193_21 : mfetch q193.2.1 21 = some (.invokestatic 498) := by decide +kernel
theorem E193_0 : (∀ (d : Nat) (l1 : Option Value) (x : Nat) (st : List Value) (h : MH) (P : MP), mFr d 193 0 [some (.ref x), l1] st h P = mFr d 193 1 [some (.ref x), l1] (.ref x :: st) h P) ∧
  (∀ (d : Nat) (loc : List (Option Value)) (b : Nat) (h : MH) (P : MP), mFr d 193 1 loc (.ref b :: []) h P = if mrcv h b 10 = true then mRun d 197 [.ref b] h (fun v h' => mFr d 193 4 loc (v.toList ++ []) h' P) else False) ∧
  (∀ (d : Nat) (loc : List (Option Value)) (x : Int32) (st : List Value) (h : MH) (P : MP), mFr d 193 4 loc (.int x :: st) h P = if x = 0 then mFr d 193 16 loc (st) h P else mFr d 193 7 loc (st) h P) := ⟨fun _ _ _ _ _ _ => (mFr_S mq193 h193_0).trans rfl,
  fun _ _ b _ _ => F_callV (as := []) (rest := []) mq193 (Or.inl h193_1) (rfl : _ = some (492, 6, 197, 0)) (Or.inl ⟨h193_1, by decide⟩) (by rfl) (by rfl) (by rfl) (Nat.le_of_ble_eq_true rfl),
  fun _ _ _ _ _ _ => (F_ifz 16 mq193 h193_4 (by decide)).trans mif_eq⟩
theorem E193_7 : (∀ (d : Nat) (l1 : Option Value) (x : Nat) (st : List Value) (h : MH) (P : MP), mFr d 193 7 [some (.ref x), l1] st h P = mFr d 193 8 [some (.ref x), l1] (.ref x :: st) h P) ∧
  (∀ (d : Nat) (loc : List (Option Value)) (a : Nat) (st : List Value) (h : MH) (P : MP), mFr d 193 8 loc (.ref a :: st) h P = if 1010 ≤ a ∧ a < 1013 then mFr d 193 11 loc (.ref (a + 10) :: st) h P else False) ∧
  (∀ (d : Nat) (l0 : Option Value) (x : Int32) (st : List Value) (h : MH) (P : MP), mFr d 193 11 [l0, some (.int x)] st h P = mFr d 193 12 [l0, some (.int x)] (.int x :: st) h P) ∧
  (∀ (d : Nat) (loc : List (Option Value)) (a0 : Nat) (a1 : Int32) (h : MH) (P : MP), mFr d 193 12 loc ((.int a1) :: (.ref a0) :: []) h P = mRun d 199 [.ref a0, .int a1] h (fun v h' => mFr d 193 15 loc (v.toList ++ []) h' P)) ∧
  (∀ (d : Nat) (loc : List (Option Value)) (x : Int32) (h : MH) (P : MP), mFr d 193 15 loc [.int (x.toUInt32 % 65536).toInt32] h P = P (some (.int (x.toUInt32 % 65536).toInt32)) h) := ⟨fun _ _ _ _ _ _ => (mFr_S mq193 h193_7).trans rfl,
  fun _ _ _ _ _ _ => (mFr_S mq193 h193_8).trans mres_ite,
  fun _ _ _ _ _ _ => (mFr_S mq193 h193_11).trans rfl,
  fun _ _ a0 a1 _ _ => F_callS (as := [.ref a0, .int a1]) (rest := []) mq193 h193_12 (rfl : _ = some (495, 6, 199, 2)) (by decide) (by rfl) (by rfl) (by rfl) (Nat.le_of_ble_eq_true rfl),
  fun _ _ _ _ _ => F_ret mq193 h193_15 rfl (pk_nc _)⟩
theorem E193_16 : (∀ (d : Nat) (l1 : Option Value) (x : Nat) (st : List Value) (h : MH) (P : MP), mFr d 193 16 [some (.ref x), l1] st h P = mFr d 193 17 [some (.ref x), l1] (.ref x :: st) h P) ∧
  (∀ (d : Nat) (loc : List (Option Value)) (a : Nat) (st : List Value) (h : MH) (P : MP), mFr d 193 17 loc (.ref a :: st) h P = if 1010 ≤ a ∧ a < 1013 then mFr d 193 20 loc (.ref (a + 10) :: st) h P else False) ∧
  (∀ (d : Nat) (l0 : Option Value) (x : Int32) (st : List Value) (h : MH) (P : MP), mFr d 193 20 [l0, some (.int x)] st h P = mFr d 193 21 [l0, some (.int x)] (.int x :: st) h P) := ⟨fun _ _ _ _ _ _ => (mFr_S mq193 h193_16).trans rfl,
  fun _ _ _ _ _ _ => (mFr_S mq193 h193_17).trans mres_ite,
  fun _ _ _ _ _ _ => (mFr_S mq193 h193_20).trans rfl⟩
theorem B193 : ∀ (d : Nat) (b : Nat) (a0 : Int32) (h : MH) (P : MP), mRun (d + 1) 193 [.ref b, .int a0] h P = mFr d 193 0 [some (.ref b), some (.int a0)] [] h P := fun _ _ _ _ _ => mRun_S mq193 (Nat.le_of_ble_eq_true rfl)
-- 194: java/lang/String.indexOf(I)I
def q194 : MI := (yJ0_indexOf_0f7a4, cJ0_indexOf_0f7a4, 2, (some .int), 10, 1)
theorem mq194 : mtab[194]? = some q194 := rfl
theorem h194_0 : mfetch q194.2.1 0 = some (.aload_n 0) := by decide +kernel
theorem h194_1 : mfetch q194.2.1 1 = some (.iload_n 1) := by decide +kernel
theorem h194_2 : mfetch q194.2.1 2 = some (.iconst 0) := by decide +kernel
theorem h194_3 : mfetch q194.2.1 3 = some (.invokevirtual 633) := by decide +kernel
theorem h194_6 : mfetch q194.2.1 6 = some (.ireturn) := by decide +kernel
theorem E194_0 : (∀ (d : Nat) (l1 : Option Value) (x : Nat) (st : List Value) (h : MH) (P : MP), mFr d 194 0 [some (.ref x), l1] st h P = mFr d 194 1 [some (.ref x), l1] (.ref x :: st) h P) ∧
  (∀ (d : Nat) (l0 : Option Value) (x : Int32) (st : List Value) (h : MH) (P : MP), mFr d 194 1 [l0, some (.int x)] st h P = mFr d 194 2 [l0, some (.int x)] (.int x :: st) h P) ∧
  (∀ (d : Nat) (loc : List (Option Value)) (st : List Value) (h : MH) (P : MP), mFr d 194 2 loc st h P = mFr d 194 3 loc (.int 0 :: st) h P) ∧
  (∀ (d : Nat) (loc : List (Option Value)) (b : Nat) (a0 : Int32) (a1 : Int32) (h : MH) (P : MP), mFr d 194 3 loc ((.int a1) :: (.int a0) :: .ref b :: []) h P = if mrcv h b 10 = true then mRun d 195 [.ref b, .int a0, .int a1] h (fun v h' => mFr d 194 6 loc (v.toList ++ []) h' P) else False) ∧
  (∀ (d : Nat) (loc : List (Option Value)) (x : Int32) (h : MH) (P : MP), mFr d 194 6 loc [.int x] h P = P (some (.int x)) h) := ⟨fun _ _ _ _ _ _ => (mFr_S mq194 h194_0).trans rfl,
  fun _ _ _ _ _ _ => (mFr_S mq194 h194_1).trans rfl,
  fun _ _ _ _ _ => (mFr_S mq194 h194_2).trans rfl,
  fun _ _ b a0 a1 _ _ => F_callV (as := [.int a0, .int a1]) (rest := []) mq194 (Or.inl h194_3) (rfl : _ = some (633, 6, 195, 0)) (Or.inl ⟨h194_3, by decide⟩) (by rfl) (by rfl) (by rfl) (Nat.le_of_ble_eq_true rfl),
  fun _ _ _ _ _ => F_ret mq194 h194_6 rfl rfl⟩
theorem B194 : ∀ (d : Nat) (b : Nat) (a0 : Int32) (h : MH) (P : MP), mRun (d + 1) 194 [.ref b, .int a0] h P = mFr d 194 0 [some (.ref b), some (.int a0)] [] h P := fun _ _ _ _ _ => mRun_S mq194 (Nat.le_of_ble_eq_true rfl)
-- 195: java/lang/String.indexOf(II)I
def q195 : MI := (yJ0_indexOf_7cf53, cJ0_indexOf_7cf53, 3, (some .int), 10, 2)
theorem mq195 : mtab[195]? = some q195 := rfl
theorem h195_0 : mfetch q195.2.1 0 = some (.aload_n 0) := by decide +kernel
theorem h195_1 : mfetch q195.2.1 1 = some (.invokevirtual 492) := by decide +kernel
theorem h195_4 : mfetch q195.2.1 4 = some (.ifCond .eq 19) := by decide +kernel
theorem h195_7 : mfetch q195.2.1 7 = some (.aload_n 0) := by decide +kernel
theorem h195_8 : mfetch q195.2.1 8 = some (.getfield 9) := by decide +kernel
theorem h195_11 : mfetch q195.2.1 11 = some (.iload_n 1) := by decide +kernel
theorem h195_12 : mfetch q195.2.1 12 = some (.iload_n 2) := by decide +kernel
theorem h195_13 : mfetch q195.2.1 13 = some (.aload_n 0) := by decide +kernel
theorem h195_14 : mfetch q195.2.1 14 = some (.invokevirtual 505) := by decide +kernel
theorem h195_17 : mfetch q195.2.1 17 = some (.invokestatic 637) := by decide +kernel
theorem h195_20 : mfetch q195.2.1 20 = some (.goto 16) := by decide +kernel
theorem h195_23 : mfetch q195.2.1 23 = some (.aload_n 0) := by decide +kernel
theorem h195_24 : mfetch q195.2.1 24 = some (.getfield 9) := by decide +kernel
theorem h195_27 : mfetch q195.2.1 27 = some (.iload_n 1) := by decide +kernel
theorem h195_28 : mfetch q195.2.1 28 = some (.iload_n 2) := by decide +kernel
theorem h195_29 : mfetch q195.2.1 29 = some (.aload_n 0) := by decide +kernel
theorem h195_30 : mfetch q195.2.1 30 = some (.invokevirtual 505) := by decide +kernel
theorem h195_33 : mfetch q195.2.1 33 = some (.invokestatic 640) := by decide +kernel
theorem h195_36 : mfetch q195.2.1 36 = some (.ireturn) := by decide +kernel
theorem E195_0 : (∀ (d : Nat) (l1 : Option Value) (l2 : Option Value) (x : Nat) (st : List Value) (h : MH) (P : MP), mFr d 195 0 [some (.ref x), l1, l2] st h P = mFr d 195 1 [some (.ref x), l1, l2] (.ref x :: st) h P) ∧
  (∀ (d : Nat) (loc : List (Option Value)) (b : Nat) (h : MH) (P : MP), mFr d 195 1 loc (.ref b :: []) h P = if mrcv h b 10 = true then mRun d 197 [.ref b] h (fun v h' => mFr d 195 4 loc (v.toList ++ []) h' P) else False) ∧
  (∀ (d : Nat) (loc : List (Option Value)) (x : Int32) (st : List Value) (h : MH) (P : MP), mFr d 195 4 loc (.int x :: st) h P = if x = 0 then mFr d 195 23 loc (st) h P else mFr d 195 7 loc (st) h P) := ⟨fun _ _ _ _ _ _ _ => (mFr_S mq195 h195_0).trans rfl,
  fun _ _ b _ _ => F_callV (as := []) (rest := []) mq195 (Or.inl h195_1) (rfl : _ = some (492, 6, 197, 0)) (Or.inl ⟨h195_1, by decide⟩) (by rfl) (by rfl) (by rfl) (Nat.le_of_ble_eq_true rfl),
  fun _ _ _ _ _ _ => (F_ifz 23 mq195 h195_4 (by decide)).trans mif_eq⟩
theorem E195_7 : (∀ (d : Nat) (l1 : Option Value) (l2 : Option Value) (x : Nat) (st : List Value) (h : MH) (P : MP), mFr d 195 7 [some (.ref x), l1, l2] st h P = mFr d 195 8 [some (.ref x), l1, l2] (.ref x :: st) h P) ∧
  (∀ (d : Nat) (loc : List (Option Value)) (a : Nat) (st : List Value) (h : MH) (P : MP), mFr d 195 8 loc (.ref a :: st) h P = if 1010 ≤ a ∧ a < 1013 then mFr d 195 11 loc (.ref (a + 10) :: st) h P else False) ∧
  (∀ (d : Nat) (l0 : Option Value) (l2 : Option Value) (x : Int32) (st : List Value) (h : MH) (P : MP), mFr d 195 11 [l0, some (.int x), l2] st h P = mFr d 195 12 [l0, some (.int x), l2] (.int x :: st) h P) ∧
  (∀ (d : Nat) (l0 : Option Value) (l1 : Option Value) (x : Int32) (st : List Value) (h : MH) (P : MP), mFr d 195 12 [l0, l1, some (.int x)] st h P = mFr d 195 13 [l0, l1, some (.int x)] (.int x :: st) h P) ∧
  (∀ (d : Nat) (l1 : Option Value) (l2 : Option Value) (x : Nat) (st : List Value) (h : MH) (P : MP), mFr d 195 13 [some (.ref x), l1, l2] st h P = mFr d 195 14 [some (.ref x), l1, l2] (.ref x :: st) h P) ∧
  (∀ (d : Nat) (loc : List (Option Value)) (b : Nat) (s0 : Int32) (s1 : Int32) (s2 : Nat) (h : MH) (P : MP), mFr d 195 14 loc (.ref b :: [.int s0, .int s1, .ref s2]) h P = if mrcv h b 10 = true then mRun d 192 [.ref b] h (fun v h' => mFr d 195 17 loc (v.toList ++ [.int s0, .int s1, .ref s2]) h' P) else False) ∧
  (∀ (d : Nat) (loc : List (Option Value)) (a0 : Nat) (a1 : Int32) (a2 : Int32) (a3 : Int32) (h : MH) (P : MP), mFr d 195 17 loc ((.int a3) :: (.int a2) :: (.int a1) :: (.ref a0) :: []) h P = mRun d 201 [.ref a0, .int a1, .int a2, .int a3] h (fun v h' => mFr d 195 20 loc (v.toList ++ []) h' P)) ∧
  (∀ (d : Nat) (loc : List (Option Value)) (st : List Value) (h : MH) (P : MP), mFr d 195 20 loc st h P = mFr d 195 36 loc (st) h P) := ⟨fun _ _ _ _ _ _ _ => (mFr_S mq195 h195_7).trans rfl,
  fun _ _ _ _ _ _ => (mFr_S mq195 h195_8).trans mres_ite,
  fun _ _ _ _ _ _ _ => (mFr_S mq195 h195_11).trans rfl,
  fun _ _ _ _ _ _ _ => (mFr_S mq195 h195_12).trans rfl,
  fun _ _ _ _ _ _ _ => (mFr_S mq195 h195_13).trans rfl,
  fun _ _ b s0 s1 s2 _ _ => F_callV (as := []) (rest := [.int s0, .int s1, .ref s2]) mq195 (Or.inl h195_14) (rfl : _ = some (505, 6, 192, 0)) (Or.inl ⟨h195_14, by decide⟩) (by rfl) (by rfl) (by rfl) (Nat.le_of_ble_eq_true rfl),
  fun _ _ a0 a1 a2 a3 _ _ => F_callS (as := [.ref a0, .int a1, .int a2, .int a3]) (rest := []) mq195 h195_17 (rfl : _ = some (637, 6, 201, 2)) (by decide) (by rfl) (by rfl) (by rfl) (Nat.le_of_ble_eq_true rfl),
  fun _ _ _ _ _ => F_goto 36 mq195 h195_20 (by decide)⟩
theorem E195_23 : (∀ (d : Nat) (l1 : Option Value) (l2 : Option Value) (x : Nat) (st : List Value) (h : MH) (P : MP), mFr d 195 23 [some (.ref x), l1, l2] st h P = mFr d 195 24 [some (.ref x), l1, l2] (.ref x :: st) h P) ∧
  (∀ (d : Nat) (loc : List (Option Value)) (a : Nat) (st : List Value) (h : MH) (P : MP), mFr d 195 24 loc (.ref a :: st) h P = if 1010 ≤ a ∧ a < 1013 then mFr d 195 27 loc (.ref (a + 10) :: st) h P else False) ∧
  (∀ (d : Nat) (l0 : Option Value) (l2 : Option Value) (x : Int32) (st : List Value) (h : MH) (P : MP), mFr d 195 27 [l0, some (.int x), l2] st h P = mFr d 195 28 [l0, some (.int x), l2] (.int x :: st) h P) ∧
  (∀ (d : Nat) (l0 : Option Value) (l1 : Option Value) (x : Int32) (st : List Value) (h : MH) (P : MP), mFr d 195 28 [l0, l1, some (.int x)] st h P = mFr d 195 29 [l0, l1, some (.int x)] (.int x :: st) h P) ∧
  (∀ (d : Nat) (l1 : Option Value) (l2 : Option Value) (x : Nat) (st : List Value) (h : MH) (P : MP), mFr d 195 29 [some (.ref x), l1, l2] st h P = mFr d 195 30 [some (.ref x), l1, l2] (.ref x :: st) h P) ∧
  (∀ (d : Nat) (loc : List (Option Value)) (b : Nat) (s0 : Int32) (s1 : Int32) (s2 : Nat) (h : MH) (P : MP), mFr d 195 30 loc (.ref b :: [.int s0, .int s1, .ref s2]) h P = if mrcv h b 10 = true then mRun d 192 [.ref b] h (fun v h' => mFr d 195 33 loc (v.toList ++ [.int s0, .int s1, .ref s2]) h' P) else False) := ⟨fun _ _ _ _ _ _ _ => (mFr_S mq195 h195_23).trans rfl,
  fun _ _ _ _ _ _ => (mFr_S mq195 h195_24).trans mres_ite,
  fun _ _ _ _ _ _ _ => (mFr_S mq195 h195_27).trans rfl,
  fun _ _ _ _ _ _ _ => (mFr_S mq195 h195_28).trans rfl,
  fun _ _ _ _ _ _ _ => (mFr_S mq195 h195_29).trans rfl,
  fun _ _ b s0 s1 s2 _ _ => F_callV (as := []) (rest := [.int s0, .int s1, .ref s2]) mq195 (Or.inl h195_30) (rfl : _ = some (505, 6, 192, 0)) (Or.inl ⟨h195_30, by decide⟩) (by rfl) (by rfl) (by rfl) (Nat.le_of_ble_eq_true rfl)⟩
theorem E195_36 : (∀ (d : Nat) (loc : List (Option Value)) (x : Int32) (h : MH) (P : MP), mFr d 195 36 loc [.int x] h P = P (some (.int x)) h) := fun _ _ _ _ _ => F_ret mq195 h195_36 rfl rfl
theorem B195 : ∀ (d : Nat) (b : Nat) (a0 : Int32) (a1 : Int32) (h : MH) (P : MP), mRun (d + 1) 195 [.ref b, .int a0, .int a1] h P = mFr d 195 0 [some (.ref b), some (.int a0), some (.int a1)] [] h P := fun _ _ _ _ _ _ => mRun_S mq195 (Nat.le_of_ble_eq_true rfl)
-- 196: java/lang/String.coder()B
def q196 : MI := (yJ0_coder_7d493, cJ0_coder_7d493, 1, (some .byte), 10, 0)
theorem mq196 : mtab[196]? = some q196 := rfl
theorem h196_0 : mfetch q196.2.1 0 = some (.getstatic 38) := by decide +kernel
theorem h196_3 : mfetch q196.2.1 3 = some (.ifCond .eq 10) := by decide +kernel
theorem h196_6 : mfetch q196.2.1 6 = some (.aload_n 0) := by decide +kernel
theorem h196_7 : mfetch q196.2.1 7 = some (.getfield 15) := by decide +kernel
theorem h196_10 : mfetch q196.2.1 10 = some (.goto 4) := by decide +kernel
theorem h196_13 : mfetch q196.2.1 13 = some (.iconst 1) := by decide +kernel
theorem h196_14 : mfetch q196.2.1 14 = some (.ireturn) := by decide +kernel
theorem E196_0 : (∀ (d : Nat) (loc : List (Option Value)) (st : List Value) (h : MH) (P : MP), mFr d 196 0 loc st h P = mFr d 196 3 loc (.int 1 :: st) h P) ∧
  (∀ (d : Nat) (loc : List (Option Value)) (x : Int32) (st : List Value) (h : MH) (P : MP), mFr d 196 3 loc (.int x :: st) h P = if x = 0 then mFr d 196 13 loc (st) h P else mFr d 196 6 loc (st) h P) := ⟨fun _ _ _ _ _ => (mFr_S mq196 h196_0).trans rfl,
  fun _ _ _ _ _ _ => (F_ifz 13 mq196 h196_3 (by decide)).trans mif_eq⟩
theorem E196_6 : (∀ (d : Nat) (x : Nat) (st : List Value) (h : MH) (P : MP), mFr d 196 6 [some (.ref x)] st h P = mFr d 196 7 [some (.ref x)] (.ref x :: st) h P) ∧
  (∀ (d : Nat) (loc : List (Option Value)) (a : Nat) (st : List Value) (h : MH) (P : MP), mFr d 196 7 loc (.ref a :: st) h P = if 1010 ≤ a ∧ a < 1013 then mFr d 196 10 loc (.int 0 :: st) h P else False) ∧
  (∀ (d : Nat) (loc : List (Option Value)) (st : List Value) (h : MH) (P : MP), mFr d 196 10 loc st h P = mFr d 196 14 loc (st) h P) := ⟨fun _ _ _ _ _ => (mFr_S mq196 h196_6).trans rfl,
  fun _ _ _ _ _ _ => (mFr_S mq196 h196_7).trans mres_ite,
  fun _ _ _ _ _ => F_goto 14 mq196 h196_10 (by decide)⟩
theorem E196_13 : (∀ (d : Nat) (loc : List (Option Value)) (st : List Value) (h : MH) (P : MP), mFr d 196 13 loc st h P = mFr d 196 14 loc (.int 1 :: st) h P) := fun _ _ _ _ _ => (mFr_S mq196 h196_13).trans rfl
theorem E196_14 : (∀ (d : Nat) (loc : List (Option Value)) (h : MH) (P : MP), mFr d 196 14 loc [.int 0] h P = P (some (.int 0)) h) ∧
  (∀ (d : Nat) (loc : List (Option Value)) (h : MH) (P : MP), mFr d 196 14 loc [.int 1] h P = P (some (.int 1)) h) := ⟨fun _ _ _ _ => F_ret mq196 h196_14 rfl (by decide),
  fun _ _ _ _ => F_ret mq196 h196_14 rfl (by decide)⟩
theorem B196 : ∀ (d : Nat) (b : Nat) (h : MH) (P : MP), mRun (d + 1) 196 [.ref b] h P = mFr d 196 0 [some (.ref b)] [] h P := fun _ _ _ _ => mRun_S mq196 (Nat.le_of_ble_eq_true rfl)
-- 197: java/lang/String.isLatin1()Z
def q197 : MI := (yJ0_isLatin1_aae02, cJ0_isLatin1_aae02, 1, (some .boolean), 10, 0)
theorem mq197 : mtab[197]? = some q197 := rfl
theorem h197_0 : mfetch q197.2.1 0 = some (.getstatic 38) := by decide +kernel
theorem h197_3 : mfetch q197.2.1 3 = some (.ifCond .eq 14) := by decide +kernel
theorem h197_6 : mfetch q197.2.1 6 = some (.aload_n 0) := by decide +kernel
theorem h197_7 : mfetch q197.2.1 7 = some (.getfield 15) := by decide +kernel
theorem h197_10 : mfetch q197.2.1 10 = some (.ifCond .ne 7) := by decide +kernel
theorem h197_13 : mfetch q197.2.1 13 = some (.iconst 1) := by decide +kernel
theorem h197_14 : mfetch q197.2.1 14 = some (.goto 4) := by decide +kernel
theorem h197_17 : mfetch q197.2.1 17 = some (.iconst 0) := by decide +kernel
theorem h197_18 : mfetch q197.2.1 18 = some (.ireturn) := by decide +kernel
theorem E197_0 : (∀ (d : Nat) (loc : List (Option Value)) (st : List Value) (h : MH) (P : MP), mFr d 197 0 loc st h P = mFr d 197 3 loc (.int 1 :: st) h P) ∧
  (∀ (d : Nat) (loc : List (Option Value)) (x : Int32) (st : List Value) (h : MH) (P : MP), mFr d 197 3 loc (.int x :: st) h P = if x = 0 then mFr d 197 17 loc (st) h P else mFr d 197 6 loc (st) h P) := ⟨fun _ _ _ _ _ => (mFr_S mq197 h197_0).trans rfl,
  fun _ _ _ _ _ _ => (F_ifz 17 mq197 h197_3 (by decide)).trans mif_eq⟩
theorem E197_6 : (∀ (d : Nat) (x : Nat) (st : List Value) (h : MH) (P : MP), mFr d 197 6 [some (.ref x)] st h P = mFr d 197 7 [some (.ref x)] (.ref x :: st) h P) ∧
  (∀ (d : Nat) (loc : List (Option Value)) (a : Nat) (st : List Value) (h : MH) (P : MP), mFr d 197 7 loc (.ref a :: st) h P = if 1010 ≤ a ∧ a < 1013 then mFr d 197 10 loc (.int 0 :: st) h P else False) ∧
  (∀ (d : Nat) (loc : List (Option Value)) (x : Int32) (st : List Value) (h : MH) (P : MP), mFr d 197 10 loc (.int x :: st) h P = if x = 0 then mFr d 197 13 loc (st) h P else mFr d 197 17 loc (st) h P) := ⟨fun _ _ _ _ _ => (mFr_S mq197 h197_6).trans rfl,
  fun _ _ _ _ _ _ => (mFr_S mq197 h197_7).trans mres_ite,
  fun _ _ _ _ _ _ => (F_ifz 17 mq197 h197_10 (by decide)).trans mif_ne⟩
theorem E197_13 : (∀ (d : Nat) (loc : List (Option Value)) (st : List Value) (h : MH) (P : MP), mFr d 197 13 loc st h P = mFr d 197 14 loc (.int 1 :: st) h P) ∧
  (∀ (d : Nat) (loc : List (Option Value)) (st : List Value) (h : MH) (P : MP), mFr d 197 14 loc st h P = mFr d 197 18 loc (st) h P) := ⟨fun _ _ _ _ _ => (mFr_S mq197 h197_13).trans rfl,
  fun _ _ _ _ _ => F_goto 18 mq197 h197_14 (by decide)⟩
theorem E197_17 : (∀ (d : Nat) (loc : List (Option Value)) (st : List Value) (h : MH) (P : MP), mFr d 197 17 loc st h P = mFr d 197 18 loc (.int 0 :: st) h P) := fun _ _ _ _ _ => (mFr_S mq197 h197_17).trans rfl
theorem E197_18 : (∀ (d : Nat) (loc : List (Option Value)) (h : MH) (P : MP), mFr d 197 18 loc [.int 0] h P = P (some (.int 0)) h) ∧
  (∀ (d : Nat) (loc : List (Option Value)) (h : MH) (P : MP), mFr d 197 18 loc [.int 1] h P = P (some (.int 1)) h) ∧
  (∀ (d : Nat) (loc : List (Option Value)) (c : Prop) [Decidable c] (h : MH) (P : MP), mFr d 197 18 loc [.int (if c then 1 else 0)] h P = P (some (.int (if c then 1 else 0))) h) := ⟨fun _ _ _ _ => F_ret mq197 h197_18 rfl (by decide),
  fun _ _ _ _ => F_ret mq197 h197_18 rfl (by decide),
  fun _ _ _ _ _ _ => F_ret mq197 h197_18 rfl (by split <;> decide)⟩
theorem B197 : ∀ (d : Nat) (b : Nat) (h : MH) (P : MP), mRun (d + 1) 197 [.ref b] h P = mFr d 197 0 [some (.ref b)] [] h P := fun _ _ _ _ => mRun_S mq197 (Nat.le_of_ble_eq_true rfl)
-- 198: java/lang/String.checkIndex(II)V
def q198 : MI := (yJ0_checkIndex_df160, cJ0_checkIndex_df160, 2, none, 10, 2)
theorem mq198 : mtab[198]? = some q198 := rfl
theorem h198_0 : mfetch q198.2.1 0 = some (.iload_n 0) := by decide +kernel
theorem h198_1 : mfetch q198.2.1 1 = some (.iload_n 1) := by decide +kernel
theorem h198_2 : mfetch q198.2.1 2 = some (.getstatic 1053) := by decide +kernel
theorem h198_5 : mfetch q198.2.1 5 = some (.invokestatic 1059) := by decide +kernel
theorem h198_8 : mfetch q198.2.1 8 = some (.pop) := by decide +kernel
theorem h198_9 : mfetch q198.2.1 9 = some (.return_) := by decide +kernel
theorem E198_0 : (∀ (d : Nat) (l1 : Option Value) (x : Int32) (st : List Value) (h : MH) (P : MP), mFr d 198 0 [some (.int x), l1] st h P = mFr d 198 1 [some (.int x), l1] (.int x :: st) h P) ∧
  (∀ (d : Nat) (l0 : Option Value) (x : Int32) (st : List Value) (h : MH) (P : MP), mFr d 198 1 [l0, some (.int x)] st h P = mFr d 198 2 [l0, some (.int x)] (.int x :: st) h P) ∧
  (∀ (d : Nat) (loc : List (Option Value)) (st : List Value) (h : MH) (P : MP), mFr d 198 2 loc st h P = mFr d 198 5 loc (.ref 1002 :: st) h P) ∧
  (∀ (d : Nat) (loc : List (Option Value)) (a0 : Int32) (a1 : Int32) (a2 : Nat) (h : MH) (P : MP), mFr d 198 5 loc ((.ref a2) :: (.int a1) :: (.int a0) :: []) h P = mRun d 203 [.int a0, .int a1, .ref a2] h (fun v h' => mFr d 198 8 loc (v.toList ++ []) h' P)) ∧
  (∀ (d : Nat) (loc : List (Option Value)) (x : Int32) (st : List Value) (h : MH) (P : MP), mFr d 198 8 loc (.int x :: st) h P = mFr d 198 9 loc (st) h P) ∧
  (∀ (d : Nat) (loc : List (Option Value)) (h : MH) (P : MP), mFr d 198 9 loc [] h P = P none h) := ⟨fun _ _ _ _ _ _ => (mFr_S mq198 h198_0).trans rfl,
  fun _ _ _ _ _ _ => (mFr_S mq198 h198_1).trans rfl,
  fun _ _ _ _ _ => (mFr_S mq198 h198_2).trans rfl,
  fun _ _ a0 a1 a2 _ _ => F_callS (as := [.int a0, .int a1, .ref a2]) (rest := []) mq198 h198_5 (rfl : _ = some (1059, 6, 203, 2)) (by decide) (by rfl) (by rfl) (by rfl) (Nat.le_of_ble_eq_true rfl),
  fun _ _ _ _ _ _ => (mFr_S mq198 h198_8).trans rfl,
  fun _ _ _ _ => (mFr_S mq198 h198_9).trans rfl⟩
theorem B198 : ∀ (d : Nat) (a0 : Int32) (a1 : Int32) (h : MH) (P : MP), mRun (d + 1) 198 [.int a0, .int a1] h P = mFr d 198 0 [some (.int a0), some (.int a1)] [] h P := fun _ _ _ _ _ => mRun_S mq198 (Nat.le_of_ble_eq_true rfl)
-- 199: java/lang/StringLatin1.charAt([BI)C
def q199 : MI := (yJ1_charAt_3b067, cJ1_charAt_3b067, 2, (some .char), 11, 2)
theorem mq199 : mtab[199]? = some q199 := rfl
theorem h199_0 : mfetch q199.2.1 0 = some (.iload_n 1) := by decide +kernel
theorem h199_1 : mfetch q199.2.1 1 = some (.aload_n 0) := by decide +kernel
theorem h199_2 : mfetch q199.2.1 2 = some (.arraylength) := by decide +kernel
theorem h199_3 : mfetch q199.2.1 3 = some (.invokestatic 9) := by decide +kernel
theorem h199_6 : mfetch q199.2.1 6 = some (.aload_n 0) := by decide +kernel
theorem h199_7 : mfetch q199.2.1 7 = some (.iload_n 1) := by decide +kernel
theorem h199_8 : mfetch q199.2.1 8 = some (.baload) := by decide +kernel
theorem h199_9 : mfetch q199.2.1 9 = some (.sipush 255) := by decide +kernel
theorem h199_12 : mfetch q199.2.1 12 = some (.iand) := by decide +kernel
theorem h199_13 : mfetch q199.2.1 13 = some (.i2c) := by decide +kernel
theorem h199_14 : mfetch q199.2.1 14 = some (.ireturn) := by decide +kernel
theorem E199_0 : (∀ (d : Nat) (l0 : Option Value) (x : Int32) (st : List Value) (h : MH) (P : MP), mFr d 199 0 [l0, some (.int x)] st h P = mFr d 199 1 [l0, some (.int x)] (.int x :: st) h P) ∧
  (∀ (d : Nat) (l1 : Option Value) (x : Nat) (st : List Value) (h : MH) (P : MP), mFr d 199 1 [some (.ref x), l1] st h P = mFr d 199 2 [some (.ref x), l1] (.ref x :: st) h P) ∧
  (∀ (d : Nat) (loc : List (Option Value)) (a : Nat) (st : List Value) (h : MH) (P : MP), mFr d 199 2 loc (.ref a :: st) h P = palen h a (fun n => mFr d 199 3 loc (.int (Int32.ofNat n) :: st) h P)) ∧
  (∀ (d : Nat) (loc : List (Option Value)) (a0 : Int32) (a1 : Int32) (h : MH) (P : MP), mFr d 199 3 loc ((.int a1) :: (.int a0) :: []) h P = mRun d 198 [.int a0, .int a1] h (fun v h' => mFr d 199 6 loc (v.toList ++ []) h' P)) ∧
  (∀ (d : Nat) (l1 : Option Value) (x : Nat) (st : List Value) (h : MH) (P : MP), mFr d 199 6 [some (.ref x), l1] st h P = mFr d 199 7 [some (.ref x), l1] (.ref x :: st) h P) ∧
  (∀ (d : Nat) (l0 : Option Value) (x : Int32) (st : List Value) (h : MH) (P : MP), mFr d 199 7 [l0, some (.int x)] st h P = mFr d 199 8 [l0, some (.int x)] (.int x :: st) h P) ∧
  (∀ (d : Nat) (loc : List (Option Value)) (a : Nat) (i : Int32) (st : List Value) (h : MH) (P : MP), mFr d 199 8 loc (.int i :: .ref a :: st) h P = pbal a i (fun x => mFr d 199 9 loc (.int x :: st) h P)) ∧
  (∀ (d : Nat) (loc : List (Option Value)) (st : List Value) (h : MH) (P : MP), mFr d 199 9 loc st h P = mFr d 199 12 loc (.int 255 :: st) h P) ∧
  (∀ (d : Nat) (loc : List (Option Value)) (x y : Int32) (st : List Value) (h : MH) (P : MP), mFr d 199 12 loc (.int y :: .int x :: st) h P = mFr d 199 13 loc (.int (x &&& y) :: st) h P) ∧
  (∀ (d : Nat) (loc : List (Option Value)) (x : Int32) (st : List Value) (h : MH) (P : MP), mFr d 199 13 loc (.int x :: st) h P = mFr d 199 14 loc (.int ((x.toUInt32 % 65536).toInt32) :: st) h P) ∧
  (∀ (d : Nat) (loc : List (Option Value)) (x : Int32) (h : MH) (P : MP), mFr d 199 14 loc [.int (x.toUInt32 % 65536).toInt32] h P = P (some (.int (x.toUInt32 % 65536).toInt32)) h) := ⟨fun _ _ _ _ _ _ => (mFr_S mq199 h199_0).trans rfl,
  fun _ _ _ _ _ _ => (mFr_S mq199 h199_1).trans rfl,
  fun _ _ _ _ _ _ => F_alen mq199 h199_2,
  fun _ _ a0 a1 _ _ => F_callS (as := [.int a0, .int a1]) (rest := []) mq199 h199_3 (rfl : _ = some (9, 6, 198, 2)) (by decide) (by rfl) (by rfl) (by rfl) (Nat.le_of_ble_eq_true rfl),
  fun _ _ _ _ _ _ => (mFr_S mq199 h199_6).trans rfl,
  fun _ _ _ _ _ _ => (mFr_S mq199 h199_7).trans rfl,
  fun _ _ _ _ _ _ _ => F_bald mq199 h199_8,
  fun _ _ _ _ _ => (mFr_S mq199 h199_9).trans rfl,
  fun _ _ _ _ _ _ _ => (mFr_S mq199 h199_12).trans rfl,
  fun _ _ _ _ _ _ => (mFr_S mq199 h199_13).trans rfl,
  fun _ _ _ _ _ => F_ret mq199 h199_14 rfl (pk_nc _)⟩
theorem B199 : ∀ (d : Nat) (a0 : Nat) (a1 : Int32) (h : MH) (P : MP), mRun (d + 1) 199 [.ref a0, .int a1] h P = mFr d 199 0 [some (.ref a0), some (.int a1)] [] h P := fun _ _ _ _ _ => mRun_S mq199 (Nat.le_of_ble_eq_true rfl)
-- 200: java/lang/StringLatin1.canEncode(I)Z
def q200 : MI := (yJ1_canEncode_9a6ad, cJ1_canEncode_9a6ad, 1, (some .boolean), 11, 1)
theorem mq200 : mtab[200]? = some q200 := rfl
theorem h200_0 : mfetch q200.2.1 0 = some (.iload_n 0) := by decide +kernel
theorem h200_1 : mfetch q200.2.1 1 = some (.ifCond .lt 14) := by decide +kernel
theorem h200_4 : mfetch q200.2.1 4 = some (.iload_n 0) := by decide +kernel
theorem h200_5 : mfetch q200.2.1 5 = some (.sipush 255) := by decide +kernel
theorem h200_8 : mfetch q200.2.1 8 = some (.if_icmp .gt 7) := by decide +kernel
theorem h200_11 : mfetch q200.2.1 11 = some (.iconst 1) := by decide +kernel
theorem h200_12 : mfetch q200.2.1 12 = some (.goto 4) := by decide +kernel
theorem h200_15 : mfetch q200.2.1 15 = some (.iconst 0) := by decide +kernel
theorem h200_16 : mfetch q200.2.1 16 = some (.ireturn) := by decide +kernel
theorem E200_0 : (∀ (d : Nat) (x : Int32) (st : List Value) (h : MH) (P : MP), mFr d 200 0 [some (.int x)] st h P = mFr d 200 1 [some (.int x)] (.int x :: st) h P) ∧
  (∀ (d : Nat) (loc : List (Option Value)) (x : Int32) (st : List Value) (h : MH) (P : MP), mFr d 200 1 loc (.int x :: st) h P = if x < 0 then mFr d 200 15 loc (st) h P else mFr d 200 4 loc (st) h P) := ⟨fun _ _ _ _ _ => (mFr_S mq200 h200_0).trans rfl,
  fun _ _ _ _ _ _ => (F_ifz 15 mq200 h200_1 (by decide)).trans mif_lt⟩
theorem E200_4 : (∀ (d : Nat) (x : Int32) (st : List Value) (h : MH) (P : MP), mFr d 200 4 [some (.int x)] st h P = mFr d 200 5 [some (.int x)] (.int x :: st) h P) ∧
  (∀ (d : Nat) (loc : List (Option Value)) (st : List Value) (h : MH) (P : MP), mFr d 200 5 loc st h P = mFr d 200 8 loc (.int 255 :: st) h P) ∧
  (∀ (d : Nat) (loc : List (Option Value)) (x y : Int32) (st : List Value) (h : MH) (P : MP), mFr d 200 8 loc (.int y :: .int x :: st) h P = if y < x then mFr d 200 15 loc (st) h P else mFr d 200 11 loc (st) h P) := ⟨fun _ _ _ _ _ => (mFr_S mq200 h200_4).trans rfl,
  fun _ _ _ _ _ => (mFr_S mq200 h200_5).trans rfl,
  fun _ _ _ _ _ _ _ => (F_icmp 15 mq200 h200_8 (by decide)).trans mif_gt⟩
theorem E200_11 : (∀ (d : Nat) (loc : List (Option Value)) (st : List Value) (h : MH) (P : MP), mFr d 200 11 loc st h P = mFr d 200 12 loc (.int 1 :: st) h P) ∧
  (∀ (d : Nat) (loc : List (Option Value)) (st : List Value) (h : MH) (P : MP), mFr d 200 12 loc st h P = mFr d 200 16 loc (st) h P) := ⟨fun _ _ _ _ _ => (mFr_S mq200 h200_11).trans rfl,
  fun _ _ _ _ _ => F_goto 16 mq200 h200_12 (by decide)⟩
theorem E200_15 : (∀ (d : Nat) (loc : List (Option Value)) (st : List Value) (h : MH) (P : MP), mFr d 200 15 loc st h P = mFr d 200 16 loc (.int 0 :: st) h P) := fun _ _ _ _ _ => (mFr_S mq200 h200_15).trans rfl
theorem E200_16 : (∀ (d : Nat) (loc : List (Option Value)) (h : MH) (P : MP), mFr d 200 16 loc [.int 0] h P = P (some (.int 0)) h) ∧
  (∀ (d : Nat) (loc : List (Option Value)) (h : MH) (P : MP), mFr d 200 16 loc [.int 1] h P = P (some (.int 1)) h) ∧
  (∀ (d : Nat) (loc : List (Option Value)) (c : Prop) [Decidable c] (h : MH) (P : MP), mFr d 200 16 loc [.int (if c then 1 else 0)] h P = P (some (.int (if c then 1 else 0))) h) := ⟨fun _ _ _ _ => F_ret mq200 h200_16 rfl (by decide),
  fun _ _ _ _ => F_ret mq200 h200_16 rfl (by decide),
  fun _ _ _ _ _ _ => F_ret mq200 h200_16 rfl (by split <;> decide)⟩
theorem B200 : ∀ (d : Nat) (a0 : Int32) (h : MH) (P : MP), mRun (d + 1) 200 [.int a0] h P = mFr d 200 0 [some (.int a0)] [] h P := fun _ _ _ _ => mRun_S mq200 (Nat.le_of_ble_eq_true rfl)
-- 201: java/lang/StringLatin1.indexOf([BIII)I
def q201 : MI := (yJ1_indexOf_4cfef, cJ1_indexOf_4cfef, 4, (some .int), 11, 4)
theorem mq201 : mtab[201]? = some q201 := rfl
theorem h201_0 : mfetch q201.2.1 0 = some (.iload_n 1) := by decide +kernel
theorem h201_1 : mfetch q201.2.1 1 = some (.invokestatic 88) := by decide +kernel
theorem h201_4 : mfetch q201.2.1 4 = some (.ifCond .ne 5) := by decide +kernel
theorem h201_7 : mfetch q201.2.1 7 = some (.iconst (-1)) := by decide +kernel
theorem h201_8 : mfetch q201.2.1 8 = some (.ireturn) := by decide +kernel
theorem h201_9 : mfetch q201.2.1 9 = some (.iload_n 2) := by decide +kernel
theorem h201_10 : mfetch q201.2.1 10 = some (.iconst 0) := by decide +kernel
theorem h201_11 : mfetch q201.2.1 11 = some (.invokestatic 92) := by decide +kernel
theorem h201_14 : mfetch q201.2.1 14 = some (.istore_n 2) := by decide +kernel
theorem h201_15 : mfetch q201.2.1 15 = some (.iload_n 3) := by decide +kernel
theorem h201_16 : mfetch q201.2.1 16 = some (.aload_n 0) := by decide +kernel
theorem h201_17 : mfetch q201.2.1 17 = some (.arraylength) := by decide +kernel
theorem h201_18 : mfetch q201.2.1 18 = some (.invokestatic 38) := by decide +kernel
theorem h201_21 : mfetch q201.2.1 21 = some (.istore_n 3) := by decide +kernel
theorem h201_22 : mfetch q201.2.1 22 = some (.iload_n 2) := by decide +kernel
theorem h201_23 : mfetch q201.2.1 23 = some (.iload_n 3) := by decide +kernel
theorem h201_24 : mfetch q201.2.1 24 = some (.if_icmp .lt 5) := by decide +kernel
theorem h201_27 : mfetch q201.2.1 27 = some (.iconst (-1)) := by decide +kernel
theorem h201_28 : mfetch q201.2.1 28 = some (.ireturn) := by decide +kernel
theorem h201_29 : mfetch q201.2.1 29 = some (.aload_n 0) := by decide +kernel
theorem h201_30 : mfetch q201.2.1 30 = some (.iload_n 1) := by decide +kernel
theorem h201_31 : mfetch q201.2.1 31 = some (.iload_n 2) := by decide +kernel
theorem h201_32 : mfetch q201.2.1 32 = some (.iload_n 3) := by decide +kernel
theorem h201_33 : mfetch q201.2.1 33 = some (.invokestatic 95) := by decide +kernel
theorem h201_36 : mfetch q201.2.1 36 = some (.ireturn) := by decide +kernel
theorem E201_0 : (∀ (d : Nat) (l0 : Option Value) (l2 : Option Value) (l3 : Option Value) (x : Int32) (st : List Value) (h : MH) (P : MP), mFr d 201 0 [l0, some (.int x), l2, l3] st h P = mFr d 201 1 [l0, some (.int x), l2, l3] (.int x :: st) h P) ∧
  (∀ (d : Nat) (loc : List (Option Value)) (a0 : Int32) (h : MH) (P : MP), mFr d 201 1 loc ((.int a0) :: []) h P = mRun d 200 [.int a0] h (fun v h' => mFr d 201 4 loc (v.toList ++ []) h' P)) ∧
  (∀ (d : Nat) (loc : List (Option Value)) (x : Int32) (st : List Value) (h : MH) (P : MP), mFr d 201 4 loc (.int x :: st) h P = if x = 0 then mFr d 201 7 loc (st) h P else mFr d 201 9 loc (st) h P) := ⟨fun _ _ _ _ _ _ _ _ => (mFr_S mq201 h201_0).trans rfl,
  fun _ _ a0 _ _ => F_callS (as := [.int a0]) (rest := []) mq201 h201_1 (rfl : _ = some (88, 6, 200, 2)) (by decide) (by rfl) (by rfl) (by rfl) (Nat.le_of_ble_eq_true rfl),
  fun _ _ _ _ _ _ => (F_ifz 9 mq201 h201_4 (by decide)).trans mif_ne⟩
theorem E201_7 : (∀ (d : Nat) (loc : List (Option Value)) (st : List Value) (h : MH) (P : MP), mFr d 201 7 loc st h P = mFr d 201 8 loc (.int (-1) :: st) h P) ∧
  (∀ (d : Nat) (loc : List (Option Value)) (x : Int32) (h : MH) (P : MP), mFr d 201 8 loc [.int x] h P = P (some (.int x)) h) := ⟨fun _ _ _ _ _ => (mFr_S mq201 h201_7).trans rfl,
  fun _ _ _ _ _ => F_ret mq201 h201_8 rfl rfl⟩
theorem E201_9 : (∀ (d : Nat) (l0 : Option Value) (l1 : Option Value) (l3 : Option Value) (x : Int32) (st : List Value) (h : MH) (P : MP), mFr d 201 9 [l0, l1, some (.int x), l3] st h P = mFr d 201 10 [l0, l1, some (.int x), l3] (.int x :: st) h P) ∧
  (∀ (d : Nat) (loc : List (Option Value)) (st : List Value) (h : MH) (P : MP), mFr d 201 10 loc st h P = mFr d 201 11 loc (.int 0 :: st) h P) ∧
  (∀ (d : Nat) (loc : List (Option Value)) (x y : Int32) (h : MH) (P : MP), mFr d 201 11 loc (.int y :: .int x :: []) h P = mFr d 201 14 loc (.int (if x < y then y else x) :: []) h P) ∧
  (∀ (d : Nat) (l0 : Option Value) (l1 : Option Value) (l2 : Option Value) (l3 : Option Value) (x : Int32) (st : List Value) (h : MH) (P : MP), mnl l1 = true → mFr d 201 14 [l0, l1, l2, l3] (.int x :: st) h P = mFr d 201 15 [l0, l1, some (.int x), l3] (st) h P) ∧
  (∀ (d : Nat) (l0 : Option Value) (l1 : Option Value) (l2 : Option Value) (x : Int32) (st : List Value) (h : MH) (P : MP), mFr d 201 15 [l0, l1, l2, some (.int x)] st h P = mFr d 201 16 [l0, l1, l2, some (.int x)] (.int x :: st) h P) ∧
  (∀ (d : Nat) (l1 : Option Value) (l2 : Option Value) (l3 : Option Value) (x : Nat) (st : List Value) (h : MH) (P : MP), mFr d 201 16 [some (.ref x), l1, l2, l3] st h P = mFr d 201 17 [some (.ref x), l1, l2, l3] (.ref x :: st) h P) ∧
  (∀ (d : Nat) (loc : List (Option Value)) (a : Nat) (st : List Value) (h : MH) (P : MP), mFr d 201 17 loc (.ref a :: st) h P = palen h a (fun n => mFr d 201 18 loc (.int (Int32.ofNat n) :: st) h P)) ∧
  (∀ (d : Nat) (loc : List (Option Value)) (x y : Int32) (h : MH) (P : MP), mFr d 201 18 loc (.int y :: .int x :: []) h P = mFr d 201 21 loc (.int (if y < x then y else x) :: []) h P) ∧
  (∀ (d : Nat) (l0 : Option Value) (l1 : Option Value) (l2 : Option Value) (l3 : Option Value) (x : Int32) (st : List Value) (h : MH) (P : MP), mnl l2 = true → mFr d 201 21 [l0, l1, l2, l3] (.int x :: st) h P = mFr d 201 22 [l0, l1, l2, some (.int x)] (st) h P) ∧
  (∀ (d : Nat) (l0 : Option Value) (l1 : Option Value) (l3 : Option Value) (x : Int32) (st : List Value) (h : MH) (P : MP), mFr d 201 22 [l0, l1, some (.int x), l3] st h P = mFr d 201 23 [l0, l1, some (.int x), l3] (.int x :: st) h P) ∧
  (∀ (d : Nat) (l0 : Option Value) (l1 : Option Value) (l2 : Option Value) (x : Int32) (st : List Value) (h : MH) (P : MP), mFr d 201 23 [l0, l1, l2, some (.int x)] st h P = mFr d 201 24 [l0, l1, l2, some (.int x)] (.int x :: st) h P) ∧
  (∀ (d : Nat) (loc : List (Option Value)) (x y : Int32) (st : List Value) (h : MH) (P : MP), mFr d 201 24 loc (.int y :: .int x :: st) h P = if x < y then mFr d 201 29 loc (st) h P else mFr d 201 27 loc (st) h P) := ⟨fun _ _ _ _ _ _ _ _ => (mFr_S mq201 h201_9).trans rfl,
  fun _ _ _ _ _ => (mFr_S mq201 h201_10).trans rfl,
  fun _ _ _ _ _ _ => F_max mq201 h201_11 (rfl : _ = some (92, 10, 0, 0)) (Nat.le_of_ble_eq_true rfl),
  fun _ _ _ _ _ _ _ _ _ hm => (mFr_S mq201 h201_14).trans (by simp only [mgo.eq_1, mstep, mi1, ml1, mast, mst, mst2, mprev, List.length_cons, List.length_nil, List.getElem?_cons_succ, List.getElem?_cons_zero, hm]; rfl),
  fun _ _ _ _ _ _ _ _ => (mFr_S mq201 h201_15).trans rfl,
  fun _ _ _ _ _ _ _ _ => (mFr_S mq201 h201_16).trans rfl,
  fun _ _ _ _ _ _ => F_alen mq201 h201_17,
  fun _ _ _ _ _ _ => F_min mq201 h201_18 (rfl : _ = some (38, 11, 0, 0)) (Nat.le_of_ble_eq_true rfl),
  fun _ _ _ _ _ _ _ _ _ hm => (mFr_S mq201 h201_21).trans (by simp only [mgo.eq_1, mstep, mi1, ml1, mast, mst, mst2, mprev, List.length_cons, List.length_nil, List.getElem?_cons_succ, List.getElem?_cons_zero, hm]; rfl),
  fun _ _ _ _ _ _ _ _ => (mFr_S mq201 h201_22).trans rfl,
  fun _ _ _ _ _ _ _ _ => (mFr_S mq201 h201_23).trans rfl,
  fun _ _ _ _ _ _ _ => (F_icmp 29 mq201 h201_24 (by decide)).trans mif_lt⟩
theorem E201_27 : (∀ (d : Nat) (loc : List (Option Value)) (st : List Value) (h : MH) (P : MP), mFr d 201 27 loc st h P = mFr d 201 28 loc (.int (-1) :: st) h P) ∧
  (∀ (d : Nat) (loc : List (Option Value)) (x : Int32) (h : MH) (P : MP), mFr d 201 28 loc [.int x] h P = P (some (.int x)) h) := ⟨fun _ _ _ _ _ => (mFr_S mq201 h201_27).trans rfl,
  fun _ _ _ _ _ => F_ret mq201 h201_28 rfl rfl⟩
theorem E201_29 : (∀ (d : Nat) (l1 : Option Value) (l2 : Option Value) (l3 : Option Value) (x : Nat) (st : List Value) (h : MH) (P : MP), mFr d 201 29 [some (.ref x), l1, l2, l3] st h P = mFr d 201 30 [some (.ref x), l1, l2, l3] (.ref x :: st) h P) ∧
  (∀ (d : Nat) (l0 : Option Value) (l2 : Option Value) (l3 : Option Value) (x : Int32) (st : List Value) (h : MH) (P : MP), mFr d 201 30 [l0, some (.int x), l2, l3] st h P = mFr d 201 31 [l0, some (.int x), l2, l3] (.int x :: st) h P) ∧
  (∀ (d : Nat) (l0 : Option Value) (l1 : Option Value) (l3 : Option Value) (x : Int32) (st : List Value) (h : MH) (P : MP), mFr d 201 31 [l0, l1, some (.int x), l3] st h P = mFr d 201 32 [l0, l1, some (.int x), l3] (.int x :: st) h P) ∧
  (∀ (d : Nat) (l0 : Option Value) (l1 : Option Value) (l2 : Option Value) (x : Int32) (st : List Value) (h : MH) (P : MP), mFr d 201 32 [l0, l1, l2, some (.int x)] st h P = mFr d 201 33 [l0, l1, l2, some (.int x)] (.int x :: st) h P) ∧
  (∀ (d : Nat) (loc : List (Option Value)) (a0 : Nat) (a1 : Int32) (a2 : Int32) (a3 : Int32) (h : MH) (P : MP), mFr d 201 33 loc ((.int a3) :: (.int a2) :: (.int a1) :: (.ref a0) :: []) h P = mRun d 202 [.ref a0, .int a1, .int a2, .int a3] h (fun v h' => mFr d 201 36 loc (v.toList ++ []) h' P)) ∧
  (∀ (d : Nat) (loc : List (Option Value)) (x : Int32) (h : MH) (P : MP), mFr d 201 36 loc [.int x] h P = P (some (.int x)) h) := ⟨fun _ _ _ _ _ _ _ _ => (mFr_S mq201 h201_29).trans rfl,
  fun _ _ _ _ _ _ _ _ => (mFr_S mq201 h201_30).trans rfl,
  fun _ _ _ _ _ _ _ _ => (mFr_S mq201 h201_31).trans rfl,
  fun _ _ _ _ _ _ _ _ => (mFr_S mq201 h201_32).trans rfl,
  fun _ _ a0 a1 a2 a3 _ _ => F_callS (as := [.ref a0, .int a1, .int a2, .int a3]) (rest := []) mq201 h201_33 (rfl : _ = some (95, 6, 202, 2)) (by decide) (by rfl) (by rfl) (by rfl) (Nat.le_of_ble_eq_true rfl),
  fun _ _ _ _ _ => F_ret mq201 h201_36 rfl rfl⟩
theorem B201 : ∀ (d : Nat) (a0 : Nat) (a1 : Int32) (a2 : Int32) (a3 : Int32) (h : MH) (P : MP), mRun (d + 1) 201 [.ref a0, .int a1, .int a2, .int a3] h P = mFr d 201 0 [some (.ref a0), some (.int a1), some (.int a2), some (.int a3)] [] h P := fun _ _ _ _ _ _ _ => mRun_S mq201 (Nat.le_of_ble_eq_true rfl)
-- 202: java/lang/StringLatin1.indexOfChar([BIII)I loops at [7]
def q202 : MI := (yJ1_indexOfChar_4cfef, cJ1_indexOfChar_4cfef, 6, (some .int), 11, 4)
theorem mq202 : mtab[202]? = some q202 := rfl
theorem h202_0 : mfetch q202.2.1 0 = some (.iload_n 1) := by decide +kernel
theorem h202_1 : mfetch q202.2.1 1 = some (.i2b) := by decide +kernel
theorem h202_2 : mfetch q202.2.1 2 = some (.istore 4) := by decide +kernel
theorem h202_4 : mfetch q202.2.1 4 = some (.iload_n 2) := by decide +kernel
theorem h202_5 : mfetch q202.2.1 5 = some (.istore 5) := by decide +kernel
theorem h202_7 : mfetch q202.2.1 7 = some (.iload 5) := by decide +kernel
theorem h202_9 : mfetch q202.2.1 9 = some (.iload_n 3) := by decide +kernel
theorem h202_10 : mfetch q202.2.1 10 = some (.if_icmp .ge 21) := by decide +kernel
theorem h202_13 : mfetch q202.2.1 13 = some (.aload_n 0) := by decide +kernel
theorem h202_14 : mfetch q202.2.1 14 = some (.iload 5) := by decide +kernel
theorem h202_16 : mfetch q202.2.1 16 = some (.baload) := by decide +kernel
theorem h202_17 : mfetch q202.2.1 17 = some (.iload 4) := by decide +kernel
theorem h202_19 : mfetch q202.2.1 19 = some (.if_icmp .ne 6) := by decide +kernel
theorem h202_22 : mfetch q202.2.1 22 = some (.iload 5) := by decide +kernel
theorem h202_24 : mfetch q202.2.1 24 = some (.ireturn) := by decide +kernel
theorem h202_25 : mfetch q202.2.1 25 = some (.iinc 5 1) := by decide +kernel
theorem h202_28 : mfetch q202.2.1 28 = some (.goto (-21)) := by decide +kernel
theorem h202_31 : mfetch q202.2.1 31 = some (.iconst (-1)) := by decide +kernel
theorem h202_32 : mfetch q202.2.1 32 = some (.ireturn) := by decide +kernel
theorem E202_0 : (∀ (d : Nat) (l0 : Option Value) (l2 : Option Value) (l3 : Option Value) (l4 : Option Value) (l5 : Option Value) (x : Int32) (st : List Value) (h : MH) (P : MP), mFr d 202 0 [l0, some (.int x), l2, l3, l4, l5] st h P = mFr d 202 1 [l0, some (.int x), l2, l3, l4, l5] (.int x :: st) h P) ∧
  (∀ (d : Nat) (loc : List (Option Value)) (x : Int32) (st : List Value) (h : MH) (P : MP), mFr d 202 1 loc (.int x :: st) h P = mFr d 202 2 loc (.int (x.toInt8.toInt32) :: st) h P) ∧
  (∀ (d : Nat) (l0 : Option Value) (l1 : Option Value) (l2 : Option Value) (l3 : Option Value) (l4 : Option Value) (l5 : Option Value) (x : Int32) (st : List Value) (h : MH) (P : MP), mnl l3 = true → mFr d 202 2 [l0, l1, l2, l3, l4, l5] (.int x :: st) h P = mFr d 202 4 [l0, l1, l2, l3, some (.int x), l5] (st) h P) ∧
  (∀ (d : Nat) (l0 : Option Value) (l1 : Option Value) (l3 : Option Value) (l4 : Option Value) (l5 : Option Value) (x : Int32) (st : List Value) (h : MH) (P : MP), mFr d 202 4 [l0, l1, some (.int x), l3, l4, l5] st h P = mFr d 202 5 [l0, l1, some (.int x), l3, l4, l5] (.int x :: st) h P) ∧
  (∀ (d : Nat) (l0 : Option Value) (l1 : Option Value) (l2 : Option Value) (l3 : Option Value) (l4 : Option Value) (l5 : Option Value) (x : Int32) (st : List Value) (h : MH) (P : MP), mnl l4 = true → mFr d 202 5 [l0, l1, l2, l3, l4, l5] (.int x :: st) h P = mFr d 202 7 [l0, l1, l2, l3, l4, some (.int x)] (st) h P) := ⟨fun _ _ _ _ _ _ _ _ _ _ => (mFr_S mq202 h202_0).trans rfl,
  fun _ _ _ _ _ _ => (mFr_S mq202 h202_1).trans rfl,
  fun _ _ _ _ _ _ _ _ _ _ _ hm => (mFr_S mq202 h202_2).trans (by simp only [mgo.eq_1, mstep, mi1, ml1, mast, mst, mst2, mprev, List.length_cons, List.length_nil, List.getElem?_cons_succ, List.getElem?_cons_zero, hm]; rfl),
  fun _ _ _ _ _ _ _ _ _ _ => (mFr_S mq202 h202_4).trans rfl,
  fun _ _ _ _ _ _ _ _ _ _ _ hm => (mFr_S mq202 h202_5).trans (by simp only [mgo.eq_1, mstep, mi1, ml1, mast, mst, mst2, mprev, List.length_cons, List.length_nil, List.getElem?_cons_succ, List.getElem?_cons_zero, hm]; rfl)⟩
theorem E202_7 : (∀ (d : Nat) (l0 : Option Value) (l1 : Option Value) (l2 : Option Value) (l3 : Option Value) (l4 : Option Value) (x : Int32) (st : List Value) (h : MH) (P : MP), mFr d 202 7 [l0, l1, l2, l3, l4, some (.int x)] st h P = mFr d 202 9 [l0, l1, l2, l3, l4, some (.int x)] (.int x :: st) h P) ∧
  (∀ (d : Nat) (l0 : Option Value) (l1 : Option Value) (l2 : Option Value) (l4 : Option Value) (l5 : Option Value) (x : Int32) (st : List Value) (h : MH) (P : MP), mFr d 202 9 [l0, l1, l2, some (.int x), l4, l5] st h P = mFr d 202 10 [l0, l1, l2, some (.int x), l4, l5] (.int x :: st) h P) ∧
  (∀ (d : Nat) (loc : List (Option Value)) (x y : Int32) (st : List Value) (h : MH) (P : MP), mFr d 202 10 loc (.int y :: .int x :: st) h P = if x < y then mFr d 202 13 loc (st) h P else mFr d 202 31 loc (st) h P) := ⟨fun _ _ _ _ _ _ _ _ _ _ => (mFr_S mq202 h202_7).trans rfl,
  fun _ _ _ _ _ _ _ _ _ _ => (mFr_S mq202 h202_9).trans rfl,
  fun _ _ _ _ _ _ _ => (F_icmp 31 mq202 h202_10 (by decide)).trans mif_ge⟩
theorem E202_13 : (∀ (d : Nat) (l1 : Option Value) (l2 : Option Value) (l3 : Option Value) (l4 : Option Value) (l5 : Option Value) (x : Nat) (st : List Value) (h : MH) (P : MP), mFr d 202 13 [some (.ref x), l1, l2, l3, l4, l5] st h P = mFr d 202 14 [some (.ref x), l1, l2, l3, l4, l5] (.ref x :: st) h P) ∧
  (∀ (d : Nat) (l0 : Option Value) (l1 : Option Value) (l2 : Option Value) (l3 : Option Value) (l4 : Option Value) (x : Int32) (st : List Value) (h : MH) (P : MP), mFr d 202 14 [l0, l1, l2, l3, l4, some (.int x)] st h P = mFr d 202 16 [l0, l1, l2, l3, l4, some (.int x)] (.int x :: st) h P) ∧
  (∀ (d : Nat) (loc : List (Option Value)) (a : Nat) (i : Int32) (st : List Value) (h : MH) (P : MP), mFr d 202 16 loc (.int i :: .ref a :: st) h P = pbal a i (fun x => mFr d 202 17 loc (.int x :: st) h P)) ∧
  (∀ (d : Nat) (l0 : Option Value) (l1 : Option Value) (l2 : Option Value) (l3 : Option Value) (l5 : Option Value) (x : Int32) (st : List Value) (h : MH) (P : MP), mFr d 202 17 [l0, l1, l2, l3, some (.int x), l5] st h P = mFr d 202 19 [l0, l1, l2, l3, some (.int x), l5] (.int x :: st) h P) ∧
  (∀ (d : Nat) (loc : List (Option Value)) (x y : Int32) (st : List Value) (h : MH) (P : MP), mFr d 202 19 loc (.int y :: .int x :: st) h P = if x = y then mFr d 202 22 loc (st) h P else mFr d 202 25 loc (st) h P) := ⟨fun _ _ _ _ _ _ _ _ _ _ => (mFr_S mq202 h202_13).trans rfl,
  fun _ _ _ _ _ _ _ _ _ _ => (mFr_S mq202 h202_14).trans rfl,
  fun _ _ _ _ _ _ _ => F_bald mq202 h202_16,
  fun _ _ _ _ _ _ _ _ _ _ => (mFr_S mq202 h202_17).trans rfl,
  fun _ _ _ _ _ _ _ => (F_icmp 25 mq202 h202_19 (by decide)).trans mif_ne⟩
theorem E202_22 : (∀ (d : Nat) (l0 : Option Value) (l1 : Option Value) (l2 : Option Value) (l3 : Option Value) (l4 : Option Value) (x : Int32) (st : List Value) (h : MH) (P : MP), mFr d 202 22 [l0, l1, l2, l3, l4, some (.int x)] st h P = mFr d 202 24 [l0, l1, l2, l3, l4, some (.int x)] (.int x :: st) h P) ∧
  (∀ (d : Nat) (loc : List (Option Value)) (x : Int32) (h : MH) (P : MP), mFr d 202 24 loc [.int x] h P = P (some (.int x)) h) := ⟨fun _ _ _ _ _ _ _ _ _ _ => (mFr_S mq202 h202_22).trans rfl,
  fun _ _ _ _ _ => F_ret mq202 h202_24 rfl rfl⟩
theorem E202_25 : (∀ (d : Nat) (l0 : Option Value) (l1 : Option Value) (l2 : Option Value) (l3 : Option Value) (l4 : Option Value) (x : Int32) (st : List Value) (h : MH) (P : MP), mnl l4 = true → mFr d 202 25 [l0, l1, l2, l3, l4, some (.int x)] st h P = mFr d 202 28 [l0, l1, l2, l3, l4, some (.int (x + 1))] (st) h P) ∧
  (∀ (d : Nat) (loc : List (Option Value)) (st : List Value) (h : MH) (P : MP), mFr d 202 28 loc st h P = mFr d 202 7 loc (st) h P) := ⟨fun _ _ _ _ _ _ _ _ _ _ hm => (mFr_S mq202 h202_25).trans (by simp only [mgo.eq_1, mstep, mld, mst, mprev, List.length_cons, List.length_nil, List.getElem?_cons_succ, List.getElem?_cons_zero, hm]; rfl),
  fun _ _ _ _ _ => F_goto 7 mq202 h202_28 (by decide)⟩
theorem E202_31 : (∀ (d : Nat) (loc : List (Option Value)) (st : List Value) (h : MH) (P : MP), mFr d 202 31 loc st h P = mFr d 202 32 loc (.int (-1) :: st) h P) ∧
  (∀ (d : Nat) (loc : List (Option Value)) (x : Int32) (h : MH) (P : MP), mFr d 202 32 loc [.int x] h P = P (some (.int x)) h) := ⟨fun _ _ _ _ _ => (mFr_S mq202 h202_31).trans rfl,
  fun _ _ _ _ _ => F_ret mq202 h202_32 rfl rfl⟩
theorem B202 : ∀ (d : Nat) (a0 : Nat) (a1 : Int32) (a2 : Int32) (a3 : Int32) (h : MH) (P : MP), mRun (d + 1) 202 [.ref a0, .int a1, .int a2, .int a3] h P = mFr d 202 0 [some (.ref a0), some (.int a1), some (.int a2), some (.int a3), none, none] [] h P := fun _ _ _ _ _ _ _ => mRun_S mq202 (Nat.le_of_ble_eq_true rfl)
-- 203: jdk/internal/util/Preconditions.checkIndex(IILjava/util/function/BiFunction;)I
def q203 : MI := (yJ3_checkIndex_8e157, cJ3_checkIndex_8e157, 3, (some .int), 12, 3)
theorem mq203 : mtab[203]? = some q203 := rfl
theorem h203_0 : mfetch q203.2.1 0 = some (.iload_n 0) := by decide +kernel
theorem h203_1 : mfetch q203.2.1 1 = some (.ifCond .lt 8) := by decide +kernel
theorem h203_4 : mfetch q203.2.1 4 = some (.iload_n 0) := by decide +kernel
theorem h203_5 : mfetch q203.2.1 5 = some (.iload_n 1) := by decide +kernel
theorem h203_6 : mfetch q203.2.1 6 = some (.if_icmp .lt 10) := by decide +kernel
theorem h203_9 : mfetch q203.2.1 9 = some (.aload_n 2) := by decide +kernel
theorem h203_10 : mfetch q203.2.1 10 = some (.iload_n 0) := by decide +kernel
theorem h203_11 : mfetch q203.2.1 11 = some (.iload_n 1) := by decide +kernel
theorem h203_12 : mfetch q203.2.1 12 = some (.invokestatic 95) := by decide +kernel
theorem h203_16 : mfetch q203.2.1 16 = some (.iload_n 0) := by decide +kernel
theorem h203_17 : mfetch q203.2.1 17 = some (.ireturn) := by decide +kernel
theorem E203_0 : (∀ (d : Nat) (l1 : Option Value) (l2 : Option Value) (x : Int32) (st : List Value) (h : MH) (P : MP), mFr d 203 0 [some (.int x), l1, l2] st h P = mFr d 203 1 [some (.int x), l1, l2] (.int x :: st) h P) ∧
  (∀ (d : Nat) (loc : List (Option Value)) (x : Int32) (st : List Value) (h : MH) (P : MP), mFr d 203 1 loc (.int x :: st) h P = if x < 0 then mFr d 203 9 loc (st) h P else mFr d 203 4 loc (st) h P) := ⟨fun _ _ _ _ _ _ _ => (mFr_S mq203 h203_0).trans rfl,
  fun _ _ _ _ _ _ => (F_ifz 9 mq203 h203_1 (by decide)).trans mif_lt⟩
theorem E203_4 : (∀ (d : Nat) (l1 : Option Value) (l2 : Option Value) (x : Int32) (st : List Value) (h : MH) (P : MP), mFr d 203 4 [some (.int x), l1, l2] st h P = mFr d 203 5 [some (.int x), l1, l2] (.int x :: st) h P) ∧
  (∀ (d : Nat) (l0 : Option Value) (l2 : Option Value) (x : Int32) (st : List Value) (h : MH) (P : MP), mFr d 203 5 [l0, some (.int x), l2] st h P = mFr d 203 6 [l0, some (.int x), l2] (.int x :: st) h P) ∧
  (∀ (d : Nat) (loc : List (Option Value)) (x y : Int32) (st : List Value) (h : MH) (P : MP), mFr d 203 6 loc (.int y :: .int x :: st) h P = if x < y then mFr d 203 16 loc (st) h P else mFr d 203 9 loc (st) h P) := ⟨fun _ _ _ _ _ _ _ => (mFr_S mq203 h203_4).trans rfl,
  fun _ _ _ _ _ _ _ => (mFr_S mq203 h203_5).trans rfl,
  fun _ _ _ _ _ _ _ => (F_icmp 16 mq203 h203_6 (by decide)).trans mif_lt⟩
theorem E203_9 : (∀ (d : Nat) (l0 : Option Value) (l1 : Option Value) (x : Nat) (st : List Value) (h : MH) (P : MP), mFr d 203 9 [l0, l1, some (.ref x)] st h P = mFr d 203 10 [l0, l1, some (.ref x)] (.ref x :: st) h P) ∧
  (∀ (d : Nat) (l0 : Option Value) (l1 : Option Value) (st : List Value) (h : MH) (P : MP), mFr d 203 9 [l0, l1, some .null] st h P = mFr d 203 10 [l0, l1, some .null] (.null :: st) h P) ∧
  (∀ (d : Nat) (l1 : Option Value) (l2 : Option Value) (x : Int32) (st : List Value) (h : MH) (P : MP), mFr d 203 10 [some (.int x), l1, l2] st h P = mFr d 203 11 [some (.int x), l1, l2] (.int x :: st) h P) ∧
  (∀ (d : Nat) (l0 : Option Value) (l2 : Option Value) (x : Int32) (st : List Value) (h : MH) (P : MP), mFr d 203 11 [l0, some (.int x), l2] st h P = mFr d 203 12 [l0, some (.int x), l2] (.int x :: st) h P) := ⟨fun _ _ _ _ _ _ _ => (mFr_S mq203 h203_9).trans rfl,
  fun _ _ _ _ _ _ => (mFr_S mq203 h203_9).trans rfl,
  fun _ _ _ _ _ _ _ => (mFr_S mq203 h203_10).trans rfl,
  fun _ _ _ _ _ _ _ => (mFr_S mq203 h203_11).trans rfl⟩
theorem E203_16 : (∀ (d : Nat) (l1 : Option Value) (l2 : Option Value) (x : Int32) (st : List Value) (h : MH) (P : MP), mFr d 203 16 [some (.int x), l1, l2] st h P = mFr d 203 17 [some (.int x), l1, l2] (.int x :: st) h P) ∧
  (∀ (d : Nat) (loc : List (Option Value)) (x : Int32) (h : MH) (P : MP), mFr d 203 17 loc [.int x] h P = P (some (.int x)) h) := ⟨fun _ _ _ _ _ _ _ => (mFr_S mq203 h203_16).trans rfl,
  fun _ _ _ _ _ => F_ret mq203 h203_17 rfl rfl⟩
theorem B203 : ∀ (d : Nat) (a0 : Int32) (a1 : Int32) (a2 : Nat) (h : MH) (P : MP), mRun (d + 1) 203 [.int a0, .int a1, .ref a2] h P = mFr d 203 0 [some (.int a0), some (.int a1), some (.ref a2)] [] h P := fun _ _ _ _ _ _ => mRun_S mq203 (Nat.le_of_ble_eq_true rfl)
