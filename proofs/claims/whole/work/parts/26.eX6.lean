/-! the instructions as equations: PuncturesAreViews$TextReader -/
-- 37: PuncturesAreViews$TextReader.<init>(LPuncturesAreViews$Tape;LPuncturesAreViews$Text;)V
def q37 : MI := (yX6_init, cX6_init, 3, none, 6, 2)
theorem mq37 : mtab[37]? = some q37 := rfl
theorem h37_0 : mfetch q37.2.1 0 = some (.aload_n 0) := by decide +kernel
theorem h37_1 : mfetch q37.2.1 1 = some (.invokespecial 3) := by decide +kernel
theorem h37_4 : mfetch q37.2.1 4 = some (.aload_n 0) := by decide +kernel
theorem h37_5 : mfetch q37.2.1 5 = some (.new 9) := by decide +kernel
theorem h37_8 : mfetch q37.2.1 8 = some (.dup) := by decide +kernel
theorem h37_9 : mfetch q37.2.1 9 = some (.aload_n 1) := by decide +kernel
theorem h37_10 : mfetch q37.2.1 10 = some (.invokespecial 11) := by decide +kernel
theorem h37_13 : mfetch q37.2.1 13 = some (.putfield 14) := by decide +kernel
theorem h37_16 : mfetch q37.2.1 16 = some (.aload_n 0) := by decide +kernel
theorem h37_17 : mfetch q37.2.1 17 = some (.aload_n 2) := by decide +kernel
theorem h37_18 : mfetch q37.2.1 18 = some (.putfield 20) := by decide +kernel
theorem h37_21 : mfetch q37.2.1 21 = some (.return_) := by decide +kernel
theorem E37_0 : (∀ (d : Nat) (l1 : Option Value) (l2 : Option Value) (x : Nat) (st : List Value) (h : MH) (P : MP), mFr d 37 0 [some (.ref x), l1, l2] st h P = mFr d 37 1 [some (.ref x), l1, l2] (.ref x :: st) h P) ∧
  (∀ (d : Nat) (loc : List (Option Value)) (a : Nat) (h : MH) (P : MP), mFr d 37 1 loc [.ref a] h P = if a < 900 then mFr d 37 4 loc ([]) h P else False) ∧
  (∀ (d : Nat) (l1 : Option Value) (l2 : Option Value) (x : Nat) (st : List Value) (h : MH) (P : MP), mFr d 37 4 [some (.ref x), l1, l2] st h P = mFr d 37 5 [some (.ref x), l1, l2] (.ref x :: st) h P) ∧
  (∀ (d : Nat) (loc : List (Option Value)) (x : Nat) (st : List Value) (h : MH) (P : MP), mFr d 37 8 loc (.ref x :: st) h P = mFr d 37 9 loc (.ref x :: .ref x :: st) h P) ∧
  (∀ (d : Nat) (l0 : Option Value) (l2 : Option Value) (x : Nat) (st : List Value) (h : MH) (P : MP), mFr d 37 9 [l0, some (.ref x), l2] st h P = mFr d 37 10 [l0, some (.ref x), l2] (.ref x :: st) h P) ∧
  (∀ (d : Nat) (l0 : Option Value) (l2 : Option Value) (st : List Value) (h : MH) (P : MP), mFr d 37 9 [l0, some .null, l2] st h P = mFr d 37 10 [l0, some .null, l2] (.null :: st) h P) ∧
  (∀ (d : Nat) (loc : List (Option Value)) (b : Nat) (a0 : Nat) (s0 : Nat) (s1 : Nat) (h : MH) (P : MP), mFr d 37 10 loc ((.ref a0) :: .ref b :: [.ref s0, .ref s1]) h P = if mrcv h b 7 = true then mRun d 48 [.ref b, .ref a0] h (fun v h' => mFr d 37 13 loc (v.toList ++ [.ref s0, .ref s1]) h' P) else False) ∧
  (∀ (d : Nat) (loc : List (Option Value)) (a : Nat) (x : Nat) (st : List Value) (h : MH) (P : MP), mFr d 37 13 loc (.ref x :: .ref a :: st) h P = pput h a 6 0 (.ref x) (fun h' => mFr d 37 16 loc (st) h' P)) ∧
  (∀ (d : Nat) (l1 : Option Value) (l2 : Option Value) (x : Nat) (st : List Value) (h : MH) (P : MP), mFr d 37 16 [some (.ref x), l1, l2] st h P = mFr d 37 17 [some (.ref x), l1, l2] (.ref x :: st) h P) ∧
  (∀ (d : Nat) (l0 : Option Value) (l1 : Option Value) (x : Nat) (st : List Value) (h : MH) (P : MP), mFr d 37 17 [l0, l1, some (.ref x)] st h P = mFr d 37 18 [l0, l1, some (.ref x)] (.ref x :: st) h P) ∧
  (∀ (d : Nat) (l0 : Option Value) (l1 : Option Value) (st : List Value) (h : MH) (P : MP), mFr d 37 17 [l0, l1, some .null] st h P = mFr d 37 18 [l0, l1, some .null] (.null :: st) h P) ∧
  (∀ (d : Nat) (loc : List (Option Value)) (a : Nat) (x : Nat) (st : List Value) (h : MH) (P : MP), mFr d 37 18 loc (.ref x :: .ref a :: st) h P = pput h a 6 1 (.ref x) (fun h' => mFr d 37 21 loc (st) h' P)) ∧
  (∀ (d : Nat) (loc : List (Option Value)) (h : MH) (P : MP), mFr d 37 21 loc [] h P = P none h) := ⟨fun _ _ _ _ _ _ _ => (mFr_S mq37 h37_0).trans rfl,
  fun _ _ _ _ _ => F_obj mq37 h37_1 (rfl : _ = some (3, 7, 0, 0)) (Nat.zero_le _),
  fun _ _ _ _ _ _ _ => (mFr_S mq37 h37_4).trans rfl,
  fun _ _ _ _ _ _ => (mFr_S mq37 h37_8).trans rfl,
  fun _ _ _ _ _ _ _ => (mFr_S mq37 h37_9).trans rfl,
  fun _ _ _ _ _ _ => (mFr_S mq37 h37_9).trans rfl,
  fun _ _ b a0 s0 s1 _ _ => F_callV (as := [.ref a0]) (rest := [.ref s0, .ref s1]) mq37 (Or.inr h37_10) (rfl : _ = some (11, 6, 48, 5)) (Or.inr ⟨h37_10, by decide⟩) (by rfl) (by rfl) (by rfl) (Nat.le_of_ble_eq_true rfl),
  fun _ _ _ _ _ _ _ => F_put mq37 h37_13 (Or.inl ⟨(rfl : _ = some (14, 0, 6, 0)), Or.inr ⟨by decide, rfl⟩⟩),
  fun _ _ _ _ _ _ _ => (mFr_S mq37 h37_16).trans rfl,
  fun _ _ _ _ _ _ _ => (mFr_S mq37 h37_17).trans rfl,
  fun _ _ _ _ _ _ => (mFr_S mq37 h37_17).trans rfl,
  fun _ _ _ _ _ _ _ => F_put mq37 h37_18 (Or.inl ⟨(rfl : _ = some (20, 0, 6, 1)), Or.inl rfl⟩),
  fun _ _ _ _ => (mFr_S mq37 h37_21).trans rfl⟩
theorem B37 : ∀ (d : Nat) (b : Nat) (a0 : Nat) (a1 : Nat) (h : MH) (P : MP), mRun (d + 1) 37 [.ref b, .ref a0, .ref a1] h P = mFr d 37 0 [some (.ref b), some (.ref a0), some (.ref a1)] [] h P := fun _ _ _ _ _ _ => mRun_S mq37 (Nat.le_of_ble_eq_true rfl)
-- 38: PuncturesAreViews$TextReader.read(LPuncturesAreViews$Text;)I loops at [48]
def q38 : MI := (yX6_read, cX6_read, 3, (some .int), 6, 1)
theorem mq38 : mtab[38]? = some q38 := rfl
theorem h38_0 : mfetch q38.2.1 0 = some (.aload_n 0) := by decide +kernel
theorem h38_1 : mfetch q38.2.1 1 = some (.getfield 14) := by decide +kernel
theorem h38_4 : mfetch q38.2.1 4 = some (.invokevirtual 24) := by decide +kernel
theorem h38_7 : mfetch q38.2.1 7 = some (.aload_n 0) := by decide +kernel
theorem h38_8 : mfetch q38.2.1 8 = some (.aload_n 1) := by decide +kernel
theorem h38_9 : mfetch q38.2.1 9 = some (.putfield 20) := by decide +kernel
theorem h38_12 : mfetch q38.2.1 12 = some (.aload_n 0) := by decide +kernel
theorem h38_13 : mfetch q38.2.1 13 = some (.getfield 20) := by decide +kernel
theorem h38_16 : mfetch q38.2.1 16 = some (.invokevirtual 27) := by decide +kernel
theorem h38_19 : mfetch q38.2.1 19 = some (.aload_n 0) := by decide +kernel
theorem h38_20 : mfetch q38.2.1 20 = some (.iconst 0) := by decide +kernel
theorem h38_21 : mfetch q38.2.1 21 = some (.putfield 32) := by decide +kernel
theorem h38_24 : mfetch q38.2.1 24 = some (.aload_n 0) := by decide +kernel
theorem h38_25 : mfetch q38.2.1 25 = some (.aload_n 0) := by decide +kernel
theorem h38_26 : mfetch q38.2.1 26 = some (.getfield 14) := by decide +kernel
theorem h38_29 : mfetch q38.2.1 29 = some (.iconst 0) := by decide +kernel
theorem h38_30 : mfetch q38.2.1 30 = some (.invokevirtual 36) := by decide +kernel
theorem h38_33 : mfetch q38.2.1 33 = some (.putfield 40) := by decide +kernel
theorem h38_36 : mfetch q38.2.1 36 = some (.aload_n 0) := by decide +kernel
theorem h38_37 : mfetch q38.2.1 37 = some (.iconst 0) := by decide +kernel
theorem h38_38 : mfetch q38.2.1 38 = some (.putfield 42) := by decide +kernel
theorem h38_41 : mfetch q38.2.1 41 = some (.aload_n 0) := by decide +kernel
theorem h38_42 : mfetch q38.2.1 42 = some (.iconst (-1)) := by decide +kernel
theorem h38_43 : mfetch q38.2.1 43 = some (.putfield 45) := by decide +kernel
theorem h38_46 : mfetch q38.2.1 46 = some (.iconst 0) := by decide +kernel
theorem h38_47 : mfetch q38.2.1 47 = some (.istore_n 2) := by decide +kernel
theorem h38_48 : mfetch q38.2.1 48 = some (.iload_n 2) := by decide +kernel
theorem h38_49 : mfetch q38.2.1 49 = some (.iconst 3) := by decide +kernel
theorem h38_50 : mfetch q38.2.1 50 = some (.if_icmp .ge 36) := by decide +kernel
theorem h38_53 : mfetch q38.2.1 53 = some (.aload_n 0) := by decide +kernel
theorem h38_54 : mfetch q38.2.1 54 = some (.bipush 6) := by decide +kernel
theorem h38_56 : mfetch q38.2.1 56 = some (.iload_n 2) := by decide +kernel
theorem h38_57 : mfetch q38.2.1 57 = some (.iadd) := by decide +kernel
theorem h38_58 : mfetch q38.2.1 58 = some (.invokevirtual 48) := by decide +kernel
theorem h38_61 : mfetch q38.2.1 61 = some (.aload_n 0) := by decide +kernel
theorem h38_62 : mfetch q38.2.1 62 = some (.iconst 0) := by decide +kernel
theorem h38_63 : mfetch q38.2.1 63 = some (.invokevirtual 52) := by decide +kernel
theorem h38_66 : mfetch q38.2.1 66 = some (.aload_n 0) := by decide +kernel
theorem h38_67 : mfetch q38.2.1 67 = some (.bipush 14) := by decide +kernel
theorem h38_69 : mfetch q38.2.1 69 = some (.invokevirtual 48) := by decide +kernel
theorem h38_72 : mfetch q38.2.1 72 = some (.aload_n 0) := by decide +kernel
theorem h38_73 : mfetch q38.2.1 73 = some (.getfield 20) := by decide +kernel
theorem h38_76 : mfetch q38.2.1 76 = some (.iload_n 2) := by decide +kernel
theorem h38_77 : mfetch q38.2.1 77 = some (.invokevirtual 55) := by decide +kernel
theorem h38_80 : mfetch q38.2.1 80 = some (.iinc 2 1) := by decide +kernel
theorem h38_83 : mfetch q38.2.1 83 = some (.goto (-35)) := by decide +kernel
theorem h38_86 : mfetch q38.2.1 86 = some (.aload_n 0) := by decide +kernel
theorem h38_87 : mfetch q38.2.1 87 = some (.bipush 20) := by decide +kernel
theorem h38_89 : mfetch q38.2.1 89 = some (.invokevirtual 48) := by decide +kernel
theorem h38_92 : mfetch q38.2.1 92 = some (.aload_n 0) := by decide +kernel
theorem h38_93 : mfetch q38.2.1 93 = some (.getfield 45) := by decide +kernel
theorem h38_96 : mfetch q38.2.1 96 = some (.ireturn) := by decide +kernel
theorem E38_0 : (∀ (d : Nat) (l1 : Option Value) (l2 : Option Value) (x : Nat) (st : List Value) (h : MH) (P : MP), mFr d 38 0 [some (.ref x), l1, l2] st h P = mFr d 38 1 [some (.ref x), l1, l2] (.ref x :: st) h P) ∧
  (∀ (d : Nat) (loc : List (Option Value)) (a : Nat) (st : List Value) (h : MH) (P : MP), mFr d 38 1 loc (.ref a :: st) h P = pget h a 6 0 (fun v => mFr d 38 4 loc (v :: st) h P)) ∧
  (∀ (d : Nat) (loc : List (Option Value)) (b : Nat) (h : MH) (P : MP), mFr d 38 4 loc (.ref b :: []) h P = if mrcv h b 7 = true then mRun d 51 [.ref b] h (fun v h' => mFr d 38 7 loc (v.toList ++ []) h' P) else False) ∧
  (∀ (d : Nat) (l1 : Option Value) (l2 : Option Value) (x : Nat) (st : List Value) (h : MH) (P : MP), mFr d 38 7 [some (.ref x), l1, l2] st h P = mFr d 38 8 [some (.ref x), l1, l2] (.ref x :: st) h P) ∧
  (∀ (d : Nat) (l0 : Option Value) (l2 : Option Value) (x : Nat) (st : List Value) (h : MH) (P : MP), mFr d 38 8 [l0, some (.ref x), l2] st h P = mFr d 38 9 [l0, some (.ref x), l2] (.ref x :: st) h P) ∧
  (∀ (d : Nat) (l0 : Option Value) (l2 : Option Value) (st : List Value) (h : MH) (P : MP), mFr d 38 8 [l0, some .null, l2] st h P = mFr d 38 9 [l0, some .null, l2] (.null :: st) h P) ∧
  (∀ (d : Nat) (loc : List (Option Value)) (a : Nat) (x : Nat) (st : List Value) (h : MH) (P : MP), mFr d 38 9 loc (.ref x :: .ref a :: st) h P = pput h a 6 1 (.ref x) (fun h' => mFr d 38 12 loc (st) h' P)) ∧
  (∀ (d : Nat) (l1 : Option Value) (l2 : Option Value) (x : Nat) (st : List Value) (h : MH) (P : MP), mFr d 38 12 [some (.ref x), l1, l2] st h P = mFr d 38 13 [some (.ref x), l1, l2] (.ref x :: st) h P) ∧
  (∀ (d : Nat) (loc : List (Option Value)) (a : Nat) (st : List Value) (h : MH) (P : MP), mFr d 38 13 loc (.ref a :: st) h P = pget h a 6 1 (fun v => mFr d 38 16 loc (v :: st) h P)) ∧
  (∀ (d : Nat) (loc : List (Option Value)) (b : Nat) (h : MH) (P : MP), mFr d 38 16 loc (.ref b :: []) h P = if mrcv h b 5 = true then mRun d 30 [.ref b] h (fun v h' => mFr d 38 19 loc (v.toList ++ []) h' P) else False) ∧
  (∀ (d : Nat) (l1 : Option Value) (l2 : Option Value) (x : Nat) (st : List Value) (h : MH) (P : MP), mFr d 38 19 [some (.ref x), l1, l2] st h P = mFr d 38 20 [some (.ref x), l1, l2] (.ref x :: st) h P) ∧
  (∀ (d : Nat) (loc : List (Option Value)) (st : List Value) (h : MH) (P : MP), mFr d 38 20 loc st h P = mFr d 38 21 loc (.int 0 :: st) h P) ∧
  (∀ (d : Nat) (loc : List (Option Value)) (a : Nat) (x : Int32) (st : List Value) (h : MH) (P : MP), mFr d 38 21 loc (.int x :: .ref a :: st) h P = pput h a 6 2 (.int x) (fun h' => mFr d 38 24 loc (st) h' P)) ∧
  (∀ (d : Nat) (l1 : Option Value) (l2 : Option Value) (x : Nat) (st : List Value) (h : MH) (P : MP), mFr d 38 24 [some (.ref x), l1, l2] st h P = mFr d 38 25 [some (.ref x), l1, l2] (.ref x :: st) h P) ∧
  (∀ (d : Nat) (l1 : Option Value) (l2 : Option Value) (x : Nat) (st : List Value) (h : MH) (P : MP), mFr d 38 25 [some (.ref x), l1, l2] st h P = mFr d 38 26 [some (.ref x), l1, l2] (.ref x :: st) h P) ∧
  (∀ (d : Nat) (loc : List (Option Value)) (a : Nat) (st : List Value) (h : MH) (P : MP), mFr d 38 26 loc (.ref a :: st) h P = pget h a 6 0 (fun v => mFr d 38 29 loc (v :: st) h P)) ∧
  (∀ (d : Nat) (loc : List (Option Value)) (st : List Value) (h : MH) (P : MP), mFr d 38 29 loc st h P = mFr d 38 30 loc (.int 0 :: st) h P) ∧
  (∀ (d : Nat) (loc : List (Option Value)) (b : Nat) (a0 : Int32) (s0 : Nat) (h : MH) (P : MP), mFr d 38 30 loc ((.int a0) :: .ref b :: [.ref s0]) h P = if mrcv h b 7 = true then mRun d 49 [.ref b, .int a0] h (fun v h' => mFr d 38 33 loc (v.toList ++ [.ref s0]) h' P) else False) ∧
  (∀ (d : Nat) (loc : List (Option Value)) (a : Nat) (x : Int32) (st : List Value) (h : MH) (P : MP), mFr d 38 33 loc (.int x :: .ref a :: st) h P = pput h a 6 3 (.int x) (fun h' => mFr d 38 36 loc (st) h' P)) ∧
  (∀ (d : Nat) (l1 : Option Value) (l2 : Option Value) (x : Nat) (st : List Value) (h : MH) (P : MP), mFr d 38 36 [some (.ref x), l1, l2] st h P = mFr d 38 37 [some (.ref x), l1, l2] (.ref x :: st) h P) ∧
  (∀ (d : Nat) (loc : List (Option Value)) (st : List Value) (h : MH) (P : MP), mFr d 38 37 loc st h P = mFr d 38 38 loc (.int 0 :: st) h P) ∧
  (∀ (d : Nat) (loc : List (Option Value)) (a : Nat) (x : Int32) (st : List Value) (h : MH) (P : MP), mFr d 38 38 loc (.int x :: .ref a :: st) h P = pput h a 6 4 (.int x) (fun h' => mFr d 38 41 loc (st) h' P)) ∧
  (∀ (d : Nat) (l1 : Option Value) (l2 : Option Value) (x : Nat) (st : List Value) (h : MH) (P : MP), mFr d 38 41 [some (.ref x), l1, l2] st h P = mFr d 38 42 [some (.ref x), l1, l2] (.ref x :: st) h P) ∧
  (∀ (d : Nat) (loc : List (Option Value)) (st : List Value) (h : MH) (P : MP), mFr d 38 42 loc st h P = mFr d 38 43 loc (.int (-1) :: st) h P) ∧
  (∀ (d : Nat) (loc : List (Option Value)) (a : Nat) (x : Int32) (st : List Value) (h : MH) (P : MP), mFr d 38 43 loc (.int x :: .ref a :: st) h P = pput h a 6 5 (.int x) (fun h' => mFr d 38 46 loc (st) h' P)) ∧
  (∀ (d : Nat) (loc : List (Option Value)) (st : List Value) (h : MH) (P : MP), mFr d 38 46 loc st h P = mFr d 38 47 loc (.int 0 :: st) h P) ∧
  (∀ (d : Nat) (l0 : Option Value) (l1 : Option Value) (l2 : Option Value) (x : Int32) (st : List Value) (h : MH) (P : MP), mnl l1 = true → mFr d 38 47 [l0, l1, l2] (.int x :: st) h P = mFr d 38 48 [l0, l1, some (.int x)] (st) h P) := ⟨fun _ _ _ _ _ _ _ => (mFr_S mq38 h38_0).trans rfl,
  fun _ _ _ _ _ _ => F_get mq38 h38_1 (Or.inl (rfl : _ = some (14, 0, 6, 0))),
  fun _ _ b _ _ => F_callV (as := []) (rest := []) mq38 (Or.inl h38_4) (rfl : _ = some (24, 6, 51, 1)) (Or.inl ⟨h38_4, by decide⟩) (by rfl) (by rfl) (by rfl) (Nat.le_of_ble_eq_true rfl),
  fun _ _ _ _ _ _ _ => (mFr_S mq38 h38_7).trans rfl,
  fun _ _ _ _ _ _ _ => (mFr_S mq38 h38_8).trans rfl,
  fun _ _ _ _ _ _ => (mFr_S mq38 h38_8).trans rfl,
  fun _ _ _ _ _ _ _ => F_put mq38 h38_9 (Or.inl ⟨(rfl : _ = some (20, 0, 6, 1)), Or.inl rfl⟩),
  fun _ _ _ _ _ _ _ => (mFr_S mq38 h38_12).trans rfl,
  fun _ _ _ _ _ _ => F_get mq38 h38_13 (Or.inl (rfl : _ = some (20, 0, 6, 1))),
  fun _ _ b _ _ => F_callV (as := []) (rest := []) mq38 (Or.inl h38_16) (rfl : _ = some (27, 6, 30, 1)) (Or.inl ⟨h38_16, by decide⟩) (by rfl) (by rfl) (by rfl) (Nat.le_of_ble_eq_true rfl),
  fun _ _ _ _ _ _ _ => (mFr_S mq38 h38_19).trans rfl,
  fun _ _ _ _ _ => (mFr_S mq38 h38_20).trans rfl,
  fun _ _ _ _ _ _ _ => F_put mq38 h38_21 (Or.inl ⟨(rfl : _ = some (32, 0, 6, 2)), Or.inl rfl⟩),
  fun _ _ _ _ _ _ _ => (mFr_S mq38 h38_24).trans rfl,
  fun _ _ _ _ _ _ _ => (mFr_S mq38 h38_25).trans rfl,
  fun _ _ _ _ _ _ => F_get mq38 h38_26 (Or.inl (rfl : _ = some (14, 0, 6, 0))),
  fun _ _ _ _ _ => (mFr_S mq38 h38_29).trans rfl,
  fun _ _ b a0 s0 _ _ => F_callV (as := [.int a0]) (rest := [.ref s0]) mq38 (Or.inl h38_30) (rfl : _ = some (36, 6, 49, 1)) (Or.inl ⟨h38_30, by decide⟩) (by rfl) (by rfl) (by rfl) (Nat.le_of_ble_eq_true rfl),
  fun _ _ _ _ _ _ _ => F_put mq38 h38_33 (Or.inl ⟨(rfl : _ = some (40, 0, 6, 3)), Or.inl rfl⟩),
  fun _ _ _ _ _ _ _ => (mFr_S mq38 h38_36).trans rfl,
  fun _ _ _ _ _ => (mFr_S mq38 h38_37).trans rfl,
  fun _ _ _ _ _ _ _ => F_put mq38 h38_38 (Or.inl ⟨(rfl : _ = some (42, 0, 6, 4)), Or.inl rfl⟩),
  fun _ _ _ _ _ _ _ => (mFr_S mq38 h38_41).trans rfl,
  fun _ _ _ _ _ => (mFr_S mq38 h38_42).trans rfl,
  fun _ _ _ _ _ _ _ => F_put mq38 h38_43 (Or.inl ⟨(rfl : _ = some (45, 0, 6, 5)), Or.inl rfl⟩),
  fun _ _ _ _ _ => (mFr_S mq38 h38_46).trans rfl,
  fun _ _ _ _ _ _ _ _ hm => (mFr_S mq38 h38_47).trans (by simp only [mgo.eq_1, mstep, mi1, ml1, mast, mst, mst2, mprev, List.length_cons, List.length_nil, List.getElem?_cons_succ, List.getElem?_cons_zero, hm]; rfl)⟩
theorem E38_48 : (∀ (d : Nat) (l0 : Option Value) (l1 : Option Value) (x : Int32) (st : List Value) (h : MH) (P : MP), mFr d 38 48 [l0, l1, some (.int x)] st h P = mFr d 38 49 [l0, l1, some (.int x)] (.int x :: st) h P) ∧
  (∀ (d : Nat) (loc : List (Option Value)) (st : List Value) (h : MH) (P : MP), mFr d 38 49 loc st h P = mFr d 38 50 loc (.int 3 :: st) h P) ∧
  (∀ (d : Nat) (loc : List (Option Value)) (x y : Int32) (st : List Value) (h : MH) (P : MP), mFr d 38 50 loc (.int y :: .int x :: st) h P = if x < y then mFr d 38 53 loc (st) h P else mFr d 38 86 loc (st) h P) := ⟨fun _ _ _ _ _ _ _ => (mFr_S mq38 h38_48).trans rfl,
  fun _ _ _ _ _ => (mFr_S mq38 h38_49).trans rfl,
  fun _ _ _ _ _ _ _ => (F_icmp 86 mq38 h38_50 (by decide)).trans mif_ge⟩
theorem E38_53 : (∀ (d : Nat) (l1 : Option Value) (l2 : Option Value) (x : Nat) (st : List Value) (h : MH) (P : MP), mFr d 38 53 [some (.ref x), l1, l2] st h P = mFr d 38 54 [some (.ref x), l1, l2] (.ref x :: st) h P) ∧
  (∀ (d : Nat) (loc : List (Option Value)) (st : List Value) (h : MH) (P : MP), mFr d 38 54 loc st h P = mFr d 38 56 loc (.int 6 :: st) h P) ∧
  (∀ (d : Nat) (l0 : Option Value) (l1 : Option Value) (x : Int32) (st : List Value) (h : MH) (P : MP), mFr d 38 56 [l0, l1, some (.int x)] st h P = mFr d 38 57 [l0, l1, some (.int x)] (.int x :: st) h P) ∧
  (∀ (d : Nat) (loc : List (Option Value)) (x y : Int32) (st : List Value) (h : MH) (P : MP), mFr d 38 57 loc (.int y :: .int x :: st) h P = mFr d 38 58 loc (.int (x + y) :: st) h P) ∧
  (∀ (d : Nat) (loc : List (Option Value)) (b : Nat) (a0 : Int32) (h : MH) (P : MP), mFr d 38 58 loc ((.int a0) :: .ref b :: []) h P = if mrcv h b 6 = true then mRun d 41 [.ref b, .int a0] h (fun v h' => mFr d 38 61 loc (v.toList ++ []) h' P) else False) ∧
  (∀ (d : Nat) (l1 : Option Value) (l2 : Option Value) (x : Nat) (st : List Value) (h : MH) (P : MP), mFr d 38 61 [some (.ref x), l1, l2] st h P = mFr d 38 62 [some (.ref x), l1, l2] (.ref x :: st) h P) ∧
  (∀ (d : Nat) (loc : List (Option Value)) (st : List Value) (h : MH) (P : MP), mFr d 38 62 loc st h P = mFr d 38 63 loc (.int 0 :: st) h P) ∧
  (∀ (d : Nat) (loc : List (Option Value)) (b : Nat) (a0 : Int32) (h : MH) (P : MP), mFr d 38 63 loc ((.int a0) :: .ref b :: []) h P = if mrcv h b 6 = true then mRun d 42 [.ref b, .int a0] h (fun v h' => mFr d 38 66 loc (v.toList ++ []) h' P) else False) ∧
  (∀ (d : Nat) (l1 : Option Value) (l2 : Option Value) (x : Nat) (st : List Value) (h : MH) (P : MP), mFr d 38 66 [some (.ref x), l1, l2] st h P = mFr d 38 67 [some (.ref x), l1, l2] (.ref x :: st) h P) ∧
  (∀ (d : Nat) (loc : List (Option Value)) (st : List Value) (h : MH) (P : MP), mFr d 38 67 loc st h P = mFr d 38 69 loc (.int 14 :: st) h P) ∧
  (∀ (d : Nat) (loc : List (Option Value)) (b : Nat) (a0 : Int32) (h : MH) (P : MP), mFr d 38 69 loc ((.int a0) :: .ref b :: []) h P = if mrcv h b 6 = true then mRun d 41 [.ref b, .int a0] h (fun v h' => mFr d 38 72 loc (v.toList ++ []) h' P) else False) ∧
  (∀ (d : Nat) (l1 : Option Value) (l2 : Option Value) (x : Nat) (st : List Value) (h : MH) (P : MP), mFr d 38 72 [some (.ref x), l1, l2] st h P = mFr d 38 73 [some (.ref x), l1, l2] (.ref x :: st) h P) ∧
  (∀ (d : Nat) (loc : List (Option Value)) (a : Nat) (st : List Value) (h : MH) (P : MP), mFr d 38 73 loc (.ref a :: st) h P = pget h a 6 1 (fun v => mFr d 38 76 loc (v :: st) h P)) ∧
  (∀ (d : Nat) (l0 : Option Value) (l1 : Option Value) (x : Int32) (st : List Value) (h : MH) (P : MP), mFr d 38 76 [l0, l1, some (.int x)] st h P = mFr d 38 77 [l0, l1, some (.int x)] (.int x :: st) h P) ∧
  (∀ (d : Nat) (loc : List (Option Value)) (b : Nat) (a0 : Int32) (h : MH) (P : MP), mFr d 38 77 loc ((.int a0) :: .ref b :: []) h P = if mrcv h b 5 = true then mRun d 32 [.ref b, .int a0] h (fun v h' => mFr d 38 80 loc (v.toList ++ []) h' P) else False) ∧
  (∀ (d : Nat) (l0 : Option Value) (l1 : Option Value) (x : Int32) (st : List Value) (h : MH) (P : MP), mnl l1 = true → mFr d 38 80 [l0, l1, some (.int x)] st h P = mFr d 38 83 [l0, l1, some (.int (x + 1))] (st) h P) ∧
  (∀ (d : Nat) (loc : List (Option Value)) (st : List Value) (h : MH) (P : MP), mFr d 38 83 loc st h P = mFr d 38 48 loc (st) h P) := ⟨fun _ _ _ _ _ _ _ => (mFr_S mq38 h38_53).trans rfl,
  fun _ _ _ _ _ => (mFr_S mq38 h38_54).trans rfl,
  fun _ _ _ _ _ _ _ => (mFr_S mq38 h38_56).trans rfl,
  fun _ _ _ _ _ _ _ => (mFr_S mq38 h38_57).trans rfl,
  fun _ _ b a0 _ _ => F_callV (as := [.int a0]) (rest := []) mq38 (Or.inl h38_58) (rfl : _ = some (48, 6, 41, 0)) (Or.inl ⟨h38_58, by decide⟩) (by rfl) (by rfl) (by rfl) (Nat.le_of_ble_eq_true rfl),
  fun _ _ _ _ _ _ _ => (mFr_S mq38 h38_61).trans rfl,
  fun _ _ _ _ _ => (mFr_S mq38 h38_62).trans rfl,
  fun _ _ b a0 _ _ => F_callV (as := [.int a0]) (rest := []) mq38 (Or.inl h38_63) (rfl : _ = some (52, 6, 42, 0)) (Or.inl ⟨h38_63, by decide⟩) (by rfl) (by rfl) (by rfl) (Nat.le_of_ble_eq_true rfl),
  fun _ _ _ _ _ _ _ => (mFr_S mq38 h38_66).trans rfl,
  fun _ _ _ _ _ => (mFr_S mq38 h38_67).trans rfl,
  fun _ _ b a0 _ _ => F_callV (as := [.int a0]) (rest := []) mq38 (Or.inl h38_69) (rfl : _ = some (48, 6, 41, 0)) (Or.inl ⟨h38_69, by decide⟩) (by rfl) (by rfl) (by rfl) (Nat.le_of_ble_eq_true rfl),
  fun _ _ _ _ _ _ _ => (mFr_S mq38 h38_72).trans rfl,
  fun _ _ _ _ _ _ => F_get mq38 h38_73 (Or.inl (rfl : _ = some (20, 0, 6, 1))),
  fun _ _ _ _ _ _ _ => (mFr_S mq38 h38_76).trans rfl,
  fun _ _ b a0 _ _ => F_callV (as := [.int a0]) (rest := []) mq38 (Or.inl h38_77) (rfl : _ = some (55, 6, 32, 1)) (Or.inl ⟨h38_77, by decide⟩) (by rfl) (by rfl) (by rfl) (Nat.le_of_ble_eq_true rfl),
  fun _ _ _ _ _ _ _ hm => (mFr_S mq38 h38_80).trans (by simp only [mgo.eq_1, mstep, mld, mst, mprev, List.length_cons, List.length_nil, List.getElem?_cons_succ, List.getElem?_cons_zero, hm]; rfl),
  fun _ _ _ _ _ => F_goto 48 mq38 h38_83 (by decide)⟩
theorem E38_86 : (∀ (d : Nat) (l1 : Option Value) (l2 : Option Value) (x : Nat) (st : List Value) (h : MH) (P : MP), mFr d 38 86 [some (.ref x), l1, l2] st h P = mFr d 38 87 [some (.ref x), l1, l2] (.ref x :: st) h P) ∧
  (∀ (d : Nat) (loc : List (Option Value)) (st : List Value) (h : MH) (P : MP), mFr d 38 87 loc st h P = mFr d 38 89 loc (.int 20 :: st) h P) ∧
  (∀ (d : Nat) (loc : List (Option Value)) (b : Nat) (a0 : Int32) (h : MH) (P : MP), mFr d 38 89 loc ((.int a0) :: .ref b :: []) h P = if mrcv h b 6 = true then mRun d 41 [.ref b, .int a0] h (fun v h' => mFr d 38 92 loc (v.toList ++ []) h' P) else False) ∧
  (∀ (d : Nat) (l1 : Option Value) (l2 : Option Value) (x : Nat) (st : List Value) (h : MH) (P : MP), mFr d 38 92 [some (.ref x), l1, l2] st h P = mFr d 38 93 [some (.ref x), l1, l2] (.ref x :: st) h P) ∧
  (∀ (d : Nat) (loc : List (Option Value)) (a : Nat) (st : List Value) (h : MH) (P : MP), mFr d 38 93 loc (.ref a :: st) h P = pget h a 6 5 (fun v => mFr d 38 96 loc (v :: st) h P)) ∧
  (∀ (d : Nat) (loc : List (Option Value)) (x : Int32) (h : MH) (P : MP), mFr d 38 96 loc [.int x] h P = P (some (.int x)) h) := ⟨fun _ _ _ _ _ _ _ => (mFr_S mq38 h38_86).trans rfl,
  fun _ _ _ _ _ => (mFr_S mq38 h38_87).trans rfl,
  fun _ _ b a0 _ _ => F_callV (as := [.int a0]) (rest := []) mq38 (Or.inl h38_89) (rfl : _ = some (48, 6, 41, 0)) (Or.inl ⟨h38_89, by decide⟩) (by rfl) (by rfl) (by rfl) (Nat.le_of_ble_eq_true rfl),
  fun _ _ _ _ _ _ _ => (mFr_S mq38 h38_92).trans rfl,
  fun _ _ _ _ _ _ => F_get mq38 h38_93 (Or.inl (rfl : _ = some (45, 0, 6, 5))),
  fun _ _ _ _ _ => F_ret mq38 h38_96 rfl rfl⟩
theorem B38 : ∀ (d : Nat) (b : Nat) (a0 : Nat) (h : MH) (P : MP), mRun (d + 1) 38 [.ref b, .ref a0] h P = mFr d 38 0 [some (.ref b), some (.ref a0), none] [] h P := fun _ _ _ _ _ => mRun_S mq38 (Nat.le_of_ble_eq_true rfl)
-- 39: PuncturesAreViews$TextReader.advance()V
def q39 : MI := (yX6_advance, cX6_advance, 1, none, 6, 0)
theorem mq39 : mtab[39]? = some q39 := rfl
theorem h39_0 : mfetch q39.2.1 0 = some (.aload_n 0) := by decide +kernel
theorem h39_1 : mfetch q39.2.1 1 = some (.dup) := by decide +kernel
theorem h39_2 : mfetch q39.2.1 2 = some (.getfield 32) := by decide +kernel
theorem h39_5 : mfetch q39.2.1 5 = some (.iconst 1) := by decide +kernel
theorem h39_6 : mfetch q39.2.1 6 = some (.iadd) := by decide +kernel
theorem h39_7 : mfetch q39.2.1 7 = some (.putfield 32) := by decide +kernel
theorem h39_10 : mfetch q39.2.1 10 = some (.aload_n 0) := by decide +kernel
theorem h39_11 : mfetch q39.2.1 11 = some (.aload_n 0) := by decide +kernel
theorem h39_12 : mfetch q39.2.1 12 = some (.getfield 14) := by decide +kernel
theorem h39_15 : mfetch q39.2.1 15 = some (.aload_n 0) := by decide +kernel
theorem h39_16 : mfetch q39.2.1 16 = some (.getfield 32) := by decide +kernel
theorem h39_19 : mfetch q39.2.1 19 = some (.invokevirtual 36) := by decide +kernel
theorem h39_22 : mfetch q39.2.1 22 = some (.putfield 40) := by decide +kernel
theorem h39_25 : mfetch q39.2.1 25 = some (.return_) := by decide +kernel
theorem E39_0 : (∀ (d : Nat) (x : Nat) (st : List Value) (h : MH) (P : MP), mFr d 39 0 [some (.ref x)] st h P = mFr d 39 1 [some (.ref x)] (.ref x :: st) h P) ∧
  (∀ (d : Nat) (loc : List (Option Value)) (x : Nat) (st : List Value) (h : MH) (P : MP), mFr d 39 1 loc (.ref x :: st) h P = mFr d 39 2 loc (.ref x :: .ref x :: st) h P) ∧
  (∀ (d : Nat) (loc : List (Option Value)) (a : Nat) (st : List Value) (h : MH) (P : MP), mFr d 39 2 loc (.ref a :: st) h P = pget h a 6 2 (fun v => mFr d 39 5 loc (v :: st) h P)) ∧
  (∀ (d : Nat) (loc : List (Option Value)) (st : List Value) (h : MH) (P : MP), mFr d 39 5 loc st h P = mFr d 39 6 loc (.int 1 :: st) h P) ∧
  (∀ (d : Nat) (loc : List (Option Value)) (x y : Int32) (st : List Value) (h : MH) (P : MP), mFr d 39 6 loc (.int y :: .int x :: st) h P = mFr d 39 7 loc (.int (x + y) :: st) h P) ∧
  (∀ (d : Nat) (loc : List (Option Value)) (a : Nat) (x : Int32) (st : List Value) (h : MH) (P : MP), mFr d 39 7 loc (.int x :: .ref a :: st) h P = pput h a 6 2 (.int x) (fun h' => mFr d 39 10 loc (st) h' P)) ∧
  (∀ (d : Nat) (x : Nat) (st : List Value) (h : MH) (P : MP), mFr d 39 10 [some (.ref x)] st h P = mFr d 39 11 [some (.ref x)] (.ref x :: st) h P) ∧
  (∀ (d : Nat) (x : Nat) (st : List Value) (h : MH) (P : MP), mFr d 39 11 [some (.ref x)] st h P = mFr d 39 12 [some (.ref x)] (.ref x :: st) h P) ∧
  (∀ (d : Nat) (loc : List (Option Value)) (a : Nat) (st : List Value) (h : MH) (P : MP), mFr d 39 12 loc (.ref a :: st) h P = pget h a 6 0 (fun v => mFr d 39 15 loc (v :: st) h P)) ∧
  (∀ (d : Nat) (x : Nat) (st : List Value) (h : MH) (P : MP), mFr d 39 15 [some (.ref x)] st h P = mFr d 39 16 [some (.ref x)] (.ref x :: st) h P) ∧
  (∀ (d : Nat) (loc : List (Option Value)) (a : Nat) (st : List Value) (h : MH) (P : MP), mFr d 39 16 loc (.ref a :: st) h P = pget h a 6 2 (fun v => mFr d 39 19 loc (v :: st) h P)) ∧
  (∀ (d : Nat) (loc : List (Option Value)) (b : Nat) (a0 : Int32) (s0 : Nat) (h : MH) (P : MP), mFr d 39 19 loc ((.int a0) :: .ref b :: [.ref s0]) h P = if mrcv h b 7 = true then mRun d 49 [.ref b, .int a0] h (fun v h' => mFr d 39 22 loc (v.toList ++ [.ref s0]) h' P) else False) ∧
  (∀ (d : Nat) (loc : List (Option Value)) (a : Nat) (x : Int32) (st : List Value) (h : MH) (P : MP), mFr d 39 22 loc (.int x :: .ref a :: st) h P = pput h a 6 3 (.int x) (fun h' => mFr d 39 25 loc (st) h' P)) ∧
  (∀ (d : Nat) (loc : List (Option Value)) (h : MH) (P : MP), mFr d 39 25 loc [] h P = P none h) := ⟨fun _ _ _ _ _ => (mFr_S mq39 h39_0).trans rfl,
  fun _ _ _ _ _ _ => (mFr_S mq39 h39_1).trans rfl,
  fun _ _ _ _ _ _ => F_get mq39 h39_2 (Or.inl (rfl : _ = some (32, 0, 6, 2))),
  fun _ _ _ _ _ => (mFr_S mq39 h39_5).trans rfl,
  fun _ _ _ _ _ _ _ => (mFr_S mq39 h39_6).trans rfl,
  fun _ _ _ _ _ _ _ => F_put mq39 h39_7 (Or.inl ⟨(rfl : _ = some (32, 0, 6, 2)), Or.inl rfl⟩),
  fun _ _ _ _ _ => (mFr_S mq39 h39_10).trans rfl,
  fun _ _ _ _ _ => (mFr_S mq39 h39_11).trans rfl,
  fun _ _ _ _ _ _ => F_get mq39 h39_12 (Or.inl (rfl : _ = some (14, 0, 6, 0))),
  fun _ _ _ _ _ => (mFr_S mq39 h39_15).trans rfl,
  fun _ _ _ _ _ _ => F_get mq39 h39_16 (Or.inl (rfl : _ = some (32, 0, 6, 2))),
  fun _ _ b a0 s0 _ _ => F_callV (as := [.int a0]) (rest := [.ref s0]) mq39 (Or.inl h39_19) (rfl : _ = some (36, 6, 49, 1)) (Or.inl ⟨h39_19, by decide⟩) (by rfl) (by rfl) (by rfl) (Nat.le_of_ble_eq_true rfl),
  fun _ _ _ _ _ _ _ => F_put mq39 h39_22 (Or.inl ⟨(rfl : _ = some (40, 0, 6, 3)), Or.inl rfl⟩),
  fun _ _ _ _ => (mFr_S mq39 h39_25).trans rfl⟩
theorem B39 : ∀ (d : Nat) (b : Nat) (h : MH) (P : MP), mRun (d + 1) 39 [.ref b] h P = mFr d 39 0 [some (.ref b)] [] h P := fun _ _ _ _ => mRun_S mq39 (Nat.le_of_ble_eq_true rfl)
-- 40: PuncturesAreViews$TextReader.fail()V
def q40 : MI := (yX6_fail, cX6_fail, 1, none, 6, 0)
theorem mq40 : mtab[40]? = some q40 := rfl
theorem h40_0 : mfetch q40.2.1 0 = some (.aload_n 0) := by decide +kernel
theorem h40_1 : mfetch q40.2.1 1 = some (.getfield 45) := by decide +kernel
theorem h40_4 : mfetch q40.2.1 4 = some (.iconst (-1)) := by decide +kernel
theorem h40_5 : mfetch q40.2.1 5 = some (.if_icmp .ne 18) := by decide +kernel
theorem h40_8 : mfetch q40.2.1 8 = some (.aload_n 0) := by decide +kernel
theorem h40_9 : mfetch q40.2.1 9 = some (.aload_n 0) := by decide +kernel
theorem h40_10 : mfetch q40.2.1 10 = some (.getfield 14) := by decide +kernel
theorem h40_13 : mfetch q40.2.1 13 = some (.aload_n 0) := by decide +kernel
theorem h40_14 : mfetch q40.2.1 14 = some (.getfield 32) := by decide +kernel
theorem h40_17 : mfetch q40.2.1 17 = some (.invokevirtual 58) := by decide +kernel
theorem h40_20 : mfetch q40.2.1 20 = some (.putfield 45) := by decide +kernel
theorem h40_23 : mfetch q40.2.1 23 = some (.aload_n 0) := by decide +kernel
theorem h40_24 : mfetch q40.2.1 24 = some (.bipush 21) := by decide +kernel
theorem h40_26 : mfetch q40.2.1 26 = some (.putfield 40) := by decide +kernel
theorem h40_29 : mfetch q40.2.1 29 = some (.return_) := by decide +kernel
theorem E40_0 : (∀ (d : Nat) (x : Nat) (st : List Value) (h : MH) (P : MP), mFr d 40 0 [some (.ref x)] st h P = mFr d 40 1 [some (.ref x)] (.ref x :: st) h P) ∧
  (∀ (d : Nat) (loc : List (Option Value)) (a : Nat) (st : List Value) (h : MH) (P : MP), mFr d 40 1 loc (.ref a :: st) h P = pget h a 6 5 (fun v => mFr d 40 4 loc (v :: st) h P)) ∧
  (∀ (d : Nat) (loc : List (Option Value)) (st : List Value) (h : MH) (P : MP), mFr d 40 4 loc st h P = mFr d 40 5 loc (.int (-1) :: st) h P) ∧
  (∀ (d : Nat) (loc : List (Option Value)) (x y : Int32) (st : List Value) (h : MH) (P : MP), mFr d 40 5 loc (.int y :: .int x :: st) h P = if x = y then mFr d 40 8 loc (st) h P else mFr d 40 23 loc (st) h P) := ⟨fun _ _ _ _ _ => (mFr_S mq40 h40_0).trans rfl,
  fun _ _ _ _ _ _ => F_get mq40 h40_1 (Or.inl (rfl : _ = some (45, 0, 6, 5))),
  fun _ _ _ _ _ => (mFr_S mq40 h40_4).trans rfl,
  fun _ _ _ _ _ _ _ => (F_icmp 23 mq40 h40_5 (by decide)).trans mif_ne⟩
theorem E40_8 : (∀ (d : Nat) (x : Nat) (st : List Value) (h : MH) (P : MP), mFr d 40 8 [some (.ref x)] st h P = mFr d 40 9 [some (.ref x)] (.ref x :: st) h P) ∧
  (∀ (d : Nat) (x : Nat) (st : List Value) (h : MH) (P : MP), mFr d 40 9 [some (.ref x)] st h P = mFr d 40 10 [some (.ref x)] (.ref x :: st) h P) ∧
  (∀ (d : Nat) (loc : List (Option Value)) (a : Nat) (st : List Value) (h : MH) (P : MP), mFr d 40 10 loc (.ref a :: st) h P = pget h a 6 0 (fun v => mFr d 40 13 loc (v :: st) h P)) ∧
  (∀ (d : Nat) (x : Nat) (st : List Value) (h : MH) (P : MP), mFr d 40 13 [some (.ref x)] st h P = mFr d 40 14 [some (.ref x)] (.ref x :: st) h P) ∧
  (∀ (d : Nat) (loc : List (Option Value)) (a : Nat) (st : List Value) (h : MH) (P : MP), mFr d 40 14 loc (.ref a :: st) h P = pget h a 6 2 (fun v => mFr d 40 17 loc (v :: st) h P)) ∧
  (∀ (d : Nat) (loc : List (Option Value)) (b : Nat) (a0 : Int32) (s0 : Nat) (h : MH) (P : MP), mFr d 40 17 loc ((.int a0) :: .ref b :: [.ref s0]) h P = if mrcv h b 7 = true then mRun d 50 [.ref b, .int a0] h (fun v h' => mFr d 40 20 loc (v.toList ++ [.ref s0]) h' P) else False) ∧
  (∀ (d : Nat) (loc : List (Option Value)) (a : Nat) (x : Int32) (st : List Value) (h : MH) (P : MP), mFr d 40 20 loc (.int x :: .ref a :: st) h P = pput h a 6 5 (.int x) (fun h' => mFr d 40 23 loc (st) h' P)) := ⟨fun _ _ _ _ _ => (mFr_S mq40 h40_8).trans rfl,
  fun _ _ _ _ _ => (mFr_S mq40 h40_9).trans rfl,
  fun _ _ _ _ _ _ => F_get mq40 h40_10 (Or.inl (rfl : _ = some (14, 0, 6, 0))),
  fun _ _ _ _ _ => (mFr_S mq40 h40_13).trans rfl,
  fun _ _ _ _ _ _ => F_get mq40 h40_14 (Or.inl (rfl : _ = some (32, 0, 6, 2))),
  fun _ _ b a0 s0 _ _ => F_callV (as := [.int a0]) (rest := [.ref s0]) mq40 (Or.inl h40_17) (rfl : _ = some (58, 6, 50, 1)) (Or.inl ⟨h40_17, by decide⟩) (by rfl) (by rfl) (by rfl) (Nat.le_of_ble_eq_true rfl),
  fun _ _ _ _ _ _ _ => F_put mq40 h40_20 (Or.inl ⟨(rfl : _ = some (45, 0, 6, 5)), Or.inl rfl⟩)⟩
theorem E40_23 : (∀ (d : Nat) (x : Nat) (st : List Value) (h : MH) (P : MP), mFr d 40 23 [some (.ref x)] st h P = mFr d 40 24 [some (.ref x)] (.ref x :: st) h P) ∧
  (∀ (d : Nat) (loc : List (Option Value)) (st : List Value) (h : MH) (P : MP), mFr d 40 24 loc st h P = mFr d 40 26 loc (.int 21 :: st) h P) ∧
  (∀ (d : Nat) (loc : List (Option Value)) (a : Nat) (x : Int32) (st : List Value) (h : MH) (P : MP), mFr d 40 26 loc (.int x :: .ref a :: st) h P = pput h a 6 3 (.int x) (fun h' => mFr d 40 29 loc (st) h' P)) ∧
  (∀ (d : Nat) (loc : List (Option Value)) (h : MH) (P : MP), mFr d 40 29 loc [] h P = P none h) := ⟨fun _ _ _ _ _ => (mFr_S mq40 h40_23).trans rfl,
  fun _ _ _ _ _ => (mFr_S mq40 h40_24).trans rfl,
  fun _ _ _ _ _ _ _ => F_put mq40 h40_26 (Or.inl ⟨(rfl : _ = some (40, 0, 6, 3)), Or.inl rfl⟩),
  fun _ _ _ _ => (mFr_S mq40 h40_29).trans rfl⟩
theorem B40 : ∀ (d : Nat) (b : Nat) (h : MH) (P : MP), mRun (d + 1) 40 [.ref b] h P = mFr d 40 0 [some (.ref b)] [] h P := fun _ _ _ _ => mRun_S mq40 (Nat.le_of_ble_eq_true rfl)
-- 41: PuncturesAreViews$TextReader.expect(I)V
def q41 : MI := (yX6_expect, cX6_expect, 2, none, 6, 1)
theorem mq41 : mtab[41]? = some q41 := rfl
theorem h41_0 : mfetch q41.2.1 0 = some (.aload_n 0) := by decide +kernel
theorem h41_1 : mfetch q41.2.1 1 = some (.getfield 40) := by decide +kernel
theorem h41_4 : mfetch q41.2.1 4 = some (.iload_n 1) := by decide +kernel
theorem h41_5 : mfetch q41.2.1 5 = some (.if_icmp .ne 10) := by decide +kernel
theorem h41_8 : mfetch q41.2.1 8 = some (.aload_n 0) := by decide +kernel
theorem h41_9 : mfetch q41.2.1 9 = some (.invokevirtual 61) := by decide +kernel
theorem h41_12 : mfetch q41.2.1 12 = some (.goto 7) := by decide +kernel
theorem h41_15 : mfetch q41.2.1 15 = some (.aload_n 0) := by decide +kernel
theorem h41_16 : mfetch q41.2.1 16 = some (.invokevirtual 64) := by decide +kernel
theorem h41_19 : mfetch q41.2.1 19 = some (.return_) := by decide +kernel
theorem E41_0 : (∀ (d : Nat) (l1 : Option Value) (x : Nat) (st : List Value) (h : MH) (P : MP), mFr d 41 0 [some (.ref x), l1] st h P = mFr d 41 1 [some (.ref x), l1] (.ref x :: st) h P) ∧
  (∀ (d : Nat) (loc : List (Option Value)) (a : Nat) (st : List Value) (h : MH) (P : MP), mFr d 41 1 loc (.ref a :: st) h P = pget h a 6 3 (fun v => mFr d 41 4 loc (v :: st) h P)) ∧
  (∀ (d : Nat) (l0 : Option Value) (x : Int32) (st : List Value) (h : MH) (P : MP), mFr d 41 4 [l0, some (.int x)] st h P = mFr d 41 5 [l0, some (.int x)] (.int x :: st) h P) ∧
  (∀ (d : Nat) (loc : List (Option Value)) (x y : Int32) (st : List Value) (h : MH) (P : MP), mFr d 41 5 loc (.int y :: .int x :: st) h P = if x = y then mFr d 41 8 loc (st) h P else mFr d 41 15 loc (st) h P) := ⟨fun _ _ _ _ _ _ => (mFr_S mq41 h41_0).trans rfl,
  fun _ _ _ _ _ _ => F_get mq41 h41_1 (Or.inl (rfl : _ = some (40, 0, 6, 3))),
  fun _ _ _ _ _ _ => (mFr_S mq41 h41_4).trans rfl,
  fun _ _ _ _ _ _ _ => (F_icmp 15 mq41 h41_5 (by decide)).trans mif_ne⟩
theorem E41_8 : (∀ (d : Nat) (l1 : Option Value) (x : Nat) (st : List Value) (h : MH) (P : MP), mFr d 41 8 [some (.ref x), l1] st h P = mFr d 41 9 [some (.ref x), l1] (.ref x :: st) h P) ∧
  (∀ (d : Nat) (loc : List (Option Value)) (b : Nat) (h : MH) (P : MP), mFr d 41 9 loc (.ref b :: []) h P = if mrcv h b 6 = true then mRun d 39 [.ref b] h (fun v h' => mFr d 41 12 loc (v.toList ++ []) h' P) else False) ∧
  (∀ (d : Nat) (loc : List (Option Value)) (st : List Value) (h : MH) (P : MP), mFr d 41 12 loc st h P = mFr d 41 19 loc (st) h P) := ⟨fun _ _ _ _ _ _ => (mFr_S mq41 h41_8).trans rfl,
  fun _ _ b _ _ => F_callV (as := []) (rest := []) mq41 (Or.inl h41_9) (rfl : _ = some (61, 6, 39, 0)) (Or.inl ⟨h41_9, by decide⟩) (by rfl) (by rfl) (by rfl) (Nat.le_of_ble_eq_true rfl),
  fun _ _ _ _ _ => F_goto 19 mq41 h41_12 (by decide)⟩
theorem E41_15 : (∀ (d : Nat) (l1 : Option Value) (x : Nat) (st : List Value) (h : MH) (P : MP), mFr d 41 15 [some (.ref x), l1] st h P = mFr d 41 16 [some (.ref x), l1] (.ref x :: st) h P) ∧
  (∀ (d : Nat) (loc : List (Option Value)) (b : Nat) (h : MH) (P : MP), mFr d 41 16 loc (.ref b :: []) h P = if mrcv h b 6 = true then mRun d 40 [.ref b] h (fun v h' => mFr d 41 19 loc (v.toList ++ []) h' P) else False) := ⟨fun _ _ _ _ _ _ => (mFr_S mq41 h41_15).trans rfl,
  fun _ _ b _ _ => F_callV (as := []) (rest := []) mq41 (Or.inl h41_16) (rfl : _ = some (64, 6, 40, 0)) (Or.inl ⟨h41_16, by decide⟩) (by rfl) (by rfl) (by rfl) (Nat.le_of_ble_eq_true rfl)⟩
theorem E41_19 : (∀ (d : Nat) (loc : List (Option Value)) (h : MH) (P : MP), mFr d 41 19 loc [] h P = P none h) := fun _ _ _ _ => (mFr_S mq41 h41_19).trans rfl
theorem B41 : ∀ (d : Nat) (b : Nat) (a0 : Int32) (h : MH) (P : MP), mRun (d + 1) 41 [.ref b, .int a0] h P = mFr d 41 0 [some (.ref b), some (.int a0)] [] h P := fun _ _ _ _ _ => mRun_S mq41 (Nat.le_of_ble_eq_true rfl)
-- 42: PuncturesAreViews$TextReader.chain(I)V loops at [7]
def q42 : MI := (yX6_chain, cX6_chain, 4, none, 6, 1)
theorem mq42 : mtab[42]? = some q42 := rfl
theorem h42_0 : mfetch q42.2.1 0 = some (.aload_n 0) := by decide +kernel
theorem h42_1 : mfetch q42.2.1 1 = some (.iload_n 1) := by decide +kernel
theorem h42_2 : mfetch q42.2.1 2 = some (.invokevirtual 67) := by decide +kernel
theorem h42_5 : mfetch q42.2.1 5 = some (.iconst 0) := by decide +kernel
theorem h42_6 : mfetch q42.2.1 6 = some (.istore_n 2) := by decide +kernel
theorem h42_7 : mfetch q42.2.1 7 = some (.iload_n 2) := by decide +kernel
theorem h42_8 : mfetch q42.2.1 8 = some (.sipush 160) := by decide +kernel
theorem h42_11 : mfetch q42.2.1 11 = some (.if_icmp .ge 39) := by decide +kernel
theorem h42_14 : mfetch q42.2.1 14 = some (.aload_n 0) := by decide +kernel
theorem h42_15 : mfetch q42.2.1 15 = some (.iload_n 1) := by decide +kernel
theorem h42_16 : mfetch q42.2.1 16 = some (.invokevirtual 70) := by decide +kernel
theorem h42_19 : mfetch q42.2.1 19 = some (.ifCond .eq 31) := by decide +kernel
theorem h42_22 : mfetch q42.2.1 22 = some (.aload_n 0) := by decide +kernel
theorem h42_23 : mfetch q42.2.1 23 = some (.getfield 40) := by decide +kernel
theorem h42_26 : mfetch q42.2.1 26 = some (.istore_n 3) := by decide +kernel
theorem h42_27 : mfetch q42.2.1 27 = some (.aload_n 0) := by decide +kernel
theorem h42_28 : mfetch q42.2.1 28 = some (.invokevirtual 61) := by decide +kernel
theorem h42_31 : mfetch q42.2.1 31 = some (.aload_n 0) := by decide +kernel
theorem h42_32 : mfetch q42.2.1 32 = some (.iload_n 1) := by decide +kernel
theorem h42_33 : mfetch q42.2.1 33 = some (.invokevirtual 67) := by decide +kernel
theorem h42_36 : mfetch q42.2.1 36 = some (.aload_n 0) := by decide +kernel
theorem h42_37 : mfetch q42.2.1 37 = some (.getfield 20) := by decide +kernel
theorem h42_40 : mfetch q42.2.1 40 = some (.iload_n 3) := by decide +kernel
theorem h42_41 : mfetch q42.2.1 41 = some (.invokevirtual 74) := by decide +kernel
theorem h42_44 : mfetch q42.2.1 44 = some (.iinc 2 1) := by decide +kernel
theorem h42_47 : mfetch q42.2.1 47 = some (.goto (-40)) := by decide +kernel
theorem h42_50 : mfetch q42.2.1 50 = some (.return_) := by decide +kernel
theorem E42_0 : (∀ (d : Nat) (l1 : Option Value) (l2 : Option Value) (l3 : Option Value) (x : Nat) (st : List Value) (h : MH) (P : MP), mFr d 42 0 [some (.ref x), l1, l2, l3] st h P = mFr d 42 1 [some (.ref x), l1, l2, l3] (.ref x :: st) h P) ∧
  (∀ (d : Nat) (l0 : Option Value) (l2 : Option Value) (l3 : Option Value) (x : Int32) (st : List Value) (h : MH) (P : MP), mFr d 42 1 [l0, some (.int x), l2, l3] st h P = mFr d 42 2 [l0, some (.int x), l2, l3] (.int x :: st) h P) ∧
  (∀ (d : Nat) (loc : List (Option Value)) (b : Nat) (a0 : Int32) (h : MH) (P : MP), mFr d 42 2 loc ((.int a0) :: .ref b :: []) h P = if mrcv h b 6 = true then mRun d 44 [.ref b, .int a0] h (fun v h' => mFr d 42 5 loc (v.toList ++ []) h' P) else False) ∧
  (∀ (d : Nat) (loc : List (Option Value)) (st : List Value) (h : MH) (P : MP), mFr d 42 5 loc st h P = mFr d 42 6 loc (.int 0 :: st) h P) ∧
  (∀ (d : Nat) (l0 : Option Value) (l1 : Option Value) (l2 : Option Value) (l3 : Option Value) (x : Int32) (st : List Value) (h : MH) (P : MP), mnl l1 = true → mFr d 42 6 [l0, l1, l2, l3] (.int x :: st) h P = mFr d 42 7 [l0, l1, some (.int x), l3] (st) h P) := ⟨fun _ _ _ _ _ _ _ _ => (mFr_S mq42 h42_0).trans rfl,
  fun _ _ _ _ _ _ _ _ => (mFr_S mq42 h42_1).trans rfl,
  fun _ _ b a0 _ _ => F_callV (as := [.int a0]) (rest := []) mq42 (Or.inl h42_2) (rfl : _ = some (67, 6, 44, 0)) (Or.inl ⟨h42_2, by decide⟩) (by rfl) (by rfl) (by rfl) (Nat.le_of_ble_eq_true rfl),
  fun _ _ _ _ _ => (mFr_S mq42 h42_5).trans rfl,
  fun _ _ _ _ _ _ _ _ _ hm => (mFr_S mq42 h42_6).trans (by simp only [mgo.eq_1, mstep, mi1, ml1, mast, mst, mst2, mprev, List.length_cons, List.length_nil, List.getElem?_cons_succ, List.getElem?_cons_zero, hm]; rfl)⟩
theorem E42_7 : (∀ (d : Nat) (l0 : Option Value) (l1 : Option Value) (l3 : Option Value) (x : Int32) (st : List Value) (h : MH) (P : MP), mFr d 42 7 [l0, l1, some (.int x), l3] st h P = mFr d 42 8 [l0, l1, some (.int x), l3] (.int x :: st) h P) ∧
  (∀ (d : Nat) (loc : List (Option Value)) (st : List Value) (h : MH) (P : MP), mFr d 42 8 loc st h P = mFr d 42 11 loc (.int 160 :: st) h P) ∧
  (∀ (d : Nat) (loc : List (Option Value)) (x y : Int32) (st : List Value) (h : MH) (P : MP), mFr d 42 11 loc (.int y :: .int x :: st) h P = if x < y then mFr d 42 14 loc (st) h P else mFr d 42 50 loc (st) h P) := ⟨fun _ _ _ _ _ _ _ _ => (mFr_S mq42 h42_7).trans rfl,
  fun _ _ _ _ _ => (mFr_S mq42 h42_8).trans rfl,
  fun _ _ _ _ _ _ _ => (F_icmp 50 mq42 h42_11 (by decide)).trans mif_ge⟩
theorem E42_14 : (∀ (d : Nat) (l1 : Option Value) (l2 : Option Value) (l3 : Option Value) (x : Nat) (st : List Value) (h : MH) (P : MP), mFr d 42 14 [some (.ref x), l1, l2, l3] st h P = mFr d 42 15 [some (.ref x), l1, l2, l3] (.ref x :: st) h P) ∧
  (∀ (d : Nat) (l0 : Option Value) (l2 : Option Value) (l3 : Option Value) (x : Int32) (st : List Value) (h : MH) (P : MP), mFr d 42 15 [l0, some (.int x), l2, l3] st h P = mFr d 42 16 [l0, some (.int x), l2, l3] (.int x :: st) h P) ∧
  (∀ (d : Nat) (loc : List (Option Value)) (b : Nat) (a0 : Int32) (h : MH) (P : MP), mFr d 42 16 loc ((.int a0) :: .ref b :: []) h P = if mrcv h b 6 = true then mRun d 43 [.ref b, .int a0] h (fun v h' => mFr d 42 19 loc (v.toList ++ []) h' P) else False) ∧
  (∀ (d : Nat) (loc : List (Option Value)) (x : Int32) (st : List Value) (h : MH) (P : MP), mFr d 42 19 loc (.int x :: st) h P = if x = 0 then mFr d 42 50 loc (st) h P else mFr d 42 22 loc (st) h P) := ⟨fun _ _ _ _ _ _ _ _ => (mFr_S mq42 h42_14).trans rfl,
  fun _ _ _ _ _ _ _ _ => (mFr_S mq42 h42_15).trans rfl,
  fun _ _ b a0 _ _ => F_callV (as := [.int a0]) (rest := []) mq42 (Or.inl h42_16) (rfl : _ = some (70, 6, 43, 0)) (Or.inl ⟨h42_16, by decide⟩) (by rfl) (by rfl) (by rfl) (Nat.le_of_ble_eq_true rfl),
  fun _ _ _ _ _ _ => (F_ifz 50 mq42 h42_19 (by decide)).trans mif_eq⟩
theorem E42_22 : (∀ (d : Nat) (l1 : Option Value) (l2 : Option Value) (l3 : Option Value) (x : Nat) (st : List Value) (h : MH) (P : MP), mFr d 42 22 [some (.ref x), l1, l2, l3] st h P = mFr d 42 23 [some (.ref x), l1, l2, l3] (.ref x :: st) h P) ∧
  (∀ (d : Nat) (loc : List (Option Value)) (a : Nat) (st : List Value) (h : MH) (P : MP), mFr d 42 23 loc (.ref a :: st) h P = pget h a 6 3 (fun v => mFr d 42 26 loc (v :: st) h P)) ∧
  (∀ (d : Nat) (l0 : Option Value) (l1 : Option Value) (l2 : Option Value) (l3 : Option Value) (x : Int32) (st : List Value) (h : MH) (P : MP), mnl l2 = true → mFr d 42 26 [l0, l1, l2, l3] (.int x :: st) h P = mFr d 42 27 [l0, l1, l2, some (.int x)] (st) h P) ∧
  (∀ (d : Nat) (l1 : Option Value) (l2 : Option Value) (l3 : Option Value) (x : Nat) (st : List Value) (h : MH) (P : MP), mFr d 42 27 [some (.ref x), l1, l2, l3] st h P = mFr d 42 28 [some (.ref x), l1, l2, l3] (.ref x :: st) h P) ∧
  (∀ (d : Nat) (loc : List (Option Value)) (b : Nat) (h : MH) (P : MP), mFr d 42 28 loc (.ref b :: []) h P = if mrcv h b 6 = true then mRun d 39 [.ref b] h (fun v h' => mFr d 42 31 loc (v.toList ++ []) h' P) else False) ∧
  (∀ (d : Nat) (l1 : Option Value) (l2 : Option Value) (l3 : Option Value) (x : Nat) (st : List Value) (h : MH) (P : MP), mFr d 42 31 [some (.ref x), l1, l2, l3] st h P = mFr d 42 32 [some (.ref x), l1, l2, l3] (.ref x :: st) h P) ∧
  (∀ (d : Nat) (l0 : Option Value) (l2 : Option Value) (l3 : Option Value) (x : Int32) (st : List Value) (h : MH) (P : MP), mFr d 42 32 [l0, some (.int x), l2, l3] st h P = mFr d 42 33 [l0, some (.int x), l2, l3] (.int x :: st) h P) ∧
  (∀ (d : Nat) (loc : List (Option Value)) (b : Nat) (a0 : Int32) (h : MH) (P : MP), mFr d 42 33 loc ((.int a0) :: .ref b :: []) h P = if mrcv h b 6 = true then mRun d 44 [.ref b, .int a0] h (fun v h' => mFr d 42 36 loc (v.toList ++ []) h' P) else False) ∧
  (∀ (d : Nat) (l1 : Option Value) (l2 : Option Value) (l3 : Option Value) (x : Nat) (st : List Value) (h : MH) (P : MP), mFr d 42 36 [some (.ref x), l1, l2, l3] st h P = mFr d 42 37 [some (.ref x), l1, l2, l3] (.ref x :: st) h P) ∧
  (∀ (d : Nat) (loc : List (Option Value)) (a : Nat) (st : List Value) (h : MH) (P : MP), mFr d 42 37 loc (.ref a :: st) h P = pget h a 6 1 (fun v => mFr d 42 40 loc (v :: st) h P)) ∧
  (∀ (d : Nat) (l0 : Option Value) (l1 : Option Value) (l2 : Option Value) (x : Int32) (st : List Value) (h : MH) (P : MP), mFr d 42 40 [l0, l1, l2, some (.int x)] st h P = mFr d 42 41 [l0, l1, l2, some (.int x)] (.int x :: st) h P) ∧
  (∀ (d : Nat) (loc : List (Option Value)) (b : Nat) (a0 : Int32) (h : MH) (P : MP), mFr d 42 41 loc ((.int a0) :: .ref b :: []) h P = if mrcv h b 5 = true then mRun d 31 [.ref b, .int a0] h (fun v h' => mFr d 42 44 loc (v.toList ++ []) h' P) else False) ∧
  (∀ (d : Nat) (l0 : Option Value) (l1 : Option Value) (l3 : Option Value) (x : Int32) (st : List Value) (h : MH) (P : MP), mnl l1 = true → mFr d 42 44 [l0, l1, some (.int x), l3] st h P = mFr d 42 47 [l0, l1, some (.int (x + 1)), l3] (st) h P) ∧
  (∀ (d : Nat) (loc : List (Option Value)) (st : List Value) (h : MH) (P : MP), mFr d 42 47 loc st h P = mFr d 42 7 loc (st) h P) := ⟨fun _ _ _ _ _ _ _ _ => (mFr_S mq42 h42_22).trans rfl,
  fun _ _ _ _ _ _ => F_get mq42 h42_23 (Or.inl (rfl : _ = some (40, 0, 6, 3))),
  fun _ _ _ _ _ _ _ _ _ hm => (mFr_S mq42 h42_26).trans (by simp only [mgo.eq_1, mstep, mi1, ml1, mast, mst, mst2, mprev, List.length_cons, List.length_nil, List.getElem?_cons_succ, List.getElem?_cons_zero, hm]; rfl),
  fun _ _ _ _ _ _ _ _ => (mFr_S mq42 h42_27).trans rfl,
  fun _ _ b _ _ => F_callV (as := []) (rest := []) mq42 (Or.inl h42_28) (rfl : _ = some (61, 6, 39, 0)) (Or.inl ⟨h42_28, by decide⟩) (by rfl) (by rfl) (by rfl) (Nat.le_of_ble_eq_true rfl),
  fun _ _ _ _ _ _ _ _ => (mFr_S mq42 h42_31).trans rfl,
  fun _ _ _ _ _ _ _ _ => (mFr_S mq42 h42_32).trans rfl,
  fun _ _ b a0 _ _ => F_callV (as := [.int a0]) (rest := []) mq42 (Or.inl h42_33) (rfl : _ = some (67, 6, 44, 0)) (Or.inl ⟨h42_33, by decide⟩) (by rfl) (by rfl) (by rfl) (Nat.le_of_ble_eq_true rfl),
  fun _ _ _ _ _ _ _ _ => (mFr_S mq42 h42_36).trans rfl,
  fun _ _ _ _ _ _ => F_get mq42 h42_37 (Or.inl (rfl : _ = some (20, 0, 6, 1))),
  fun _ _ _ _ _ _ _ _ => (mFr_S mq42 h42_40).trans rfl,
  fun _ _ b a0 _ _ => F_callV (as := [.int a0]) (rest := []) mq42 (Or.inl h42_41) (rfl : _ = some (74, 6, 31, 1)) (Or.inl ⟨h42_41, by decide⟩) (by rfl) (by rfl) (by rfl) (Nat.le_of_ble_eq_true rfl),
  fun _ _ _ _ _ _ _ _ hm => (mFr_S mq42 h42_44).trans (by simp only [mgo.eq_1, mstep, mld, mst, mprev, List.length_cons, List.length_nil, List.getElem?_cons_succ, List.getElem?_cons_zero, hm]; rfl),
  fun _ _ _ _ _ => F_goto 7 mq42 h42_47 (by decide)⟩
theorem E42_50 : (∀ (d : Nat) (loc : List (Option Value)) (h : MH) (P : MP), mFr d 42 50 loc [] h P = P none h) := fun _ _ _ _ => (mFr_S mq42 h42_50).trans rfl
theorem B42 : ∀ (d : Nat) (b : Nat) (a0 : Int32) (h : MH) (P : MP), mRun (d + 1) 42 [.ref b, .int a0] h P = mFr d 42 0 [some (.ref b), some (.int a0), none, none] [] h P := fun _ _ _ _ _ => mRun_S mq42 (Nat.le_of_ble_eq_true rfl)
-- 43: PuncturesAreViews$TextReader.joins(I)Z
def q43 : MI := (yX6_joins, cX6_joins, 2, (some .boolean), 6, 1)
theorem mq43 : mtab[43]? = some q43 := rfl
theorem h43_0 : mfetch q43.2.1 0 = some (.iload_n 1) := by decide +kernel
theorem h43_1 : mfetch q43.2.1 1 = some (.tableswitch 81 0 2 #[27, 42, 57]) := by decide +kernel
theorem h43_28 : mfetch q43.2.1 28 = some (.aload_n 0) := by decide +kernel
theorem h43_29 : mfetch q43.2.1 29 = some (.getfield 40) := by decide +kernel
theorem h43_32 : mfetch q43.2.1 32 = some (.bipush 9) := by decide +kernel
theorem h43_34 : mfetch q43.2.1 34 = some (.if_icmp .ne 7) := by decide +kernel
theorem h43_37 : mfetch q43.2.1 37 = some (.iconst 1) := by decide +kernel
theorem h43_38 : mfetch q43.2.1 38 = some (.goto 4) := by decide +kernel
theorem h43_41 : mfetch q43.2.1 41 = some (.iconst 0) := by decide +kernel
theorem h43_42 : mfetch q43.2.1 42 = some (.ireturn) := by decide +kernel
theorem h43_43 : mfetch q43.2.1 43 = some (.aload_n 0) := by decide +kernel
theorem h43_44 : mfetch q43.2.1 44 = some (.getfield 40) := by decide +kernel
theorem h43_47 : mfetch q43.2.1 47 = some (.bipush 10) := by decide +kernel
theorem h43_49 : mfetch q43.2.1 49 = some (.if_icmp .ne 7) := by decide +kernel
theorem h43_52 : mfetch q43.2.1 52 = some (.iconst 1) := by decide +kernel
theorem h43_53 : mfetch q43.2.1 53 = some (.goto 4) := by decide +kernel
theorem h43_56 : mfetch q43.2.1 56 = some (.iconst 0) := by decide +kernel
theorem h43_57 : mfetch q43.2.1 57 = some (.ireturn) := by decide +kernel
theorem h43_58 : mfetch q43.2.1 58 = some (.aload_n 0) := by decide +kernel
theorem h43_59 : mfetch q43.2.1 59 = some (.getfield 40) := by decide +kernel
theorem h43_62 : mfetch q43.2.1 62 = some (.bipush 15) := by decide +kernel
theorem h43_64 : mfetch q43.2.1 64 = some (.if_icmp .eq 12) := by decide +kernel
theorem h43_67 : mfetch q43.2.1 67 = some (.aload_n 0) := by decide +kernel
theorem h43_68 : mfetch q43.2.1 68 = some (.getfield 40) := by decide +kernel
theorem h43_71 : mfetch q43.2.1 71 = some (.bipush 16) := by decide +kernel
theorem h43_73 : mfetch q43.2.1 73 = some (.if_icmp .ne 7) := by decide +kernel
theorem h43_76 : mfetch q43.2.1 76 = some (.iconst 1) := by decide +kernel
theorem h43_77 : mfetch q43.2.1 77 = some (.goto 4) := by decide +kernel
theorem h43_80 : mfetch q43.2.1 80 = some (.iconst 0) := by decide +kernel
theorem h43_81 : mfetch q43.2.1 81 = some (.ireturn) := by decide +kernel
theorem h43_82 : mfetch q43.2.1 82 = some (.aload_n 0) := by decide +kernel
theorem h43_83 : mfetch q43.2.1 83 = some (.getfield 40) := by decide +kernel
theorem h43_86 : mfetch q43.2.1 86 = some (.bipush 17) := by decide +kernel
theorem h43_88 : mfetch q43.2.1 88 = some (.if_icmp .ne 7) := by decide +kernel
theorem h43_91 : mfetch q43.2.1 91 = some (.iconst 1) := by decide +kernel
theorem h43_92 : mfetch q43.2.1 92 = some (.goto 4) := by decide +kernel
theorem h43_95 : mfetch q43.2.1 95 = some (.iconst 0) := by decide +kernel
theorem h43_96 : mfetch q43.2.1 96 = some (.ireturn) := by decide +kernel
theorem E43_0 : (∀ (d : Nat) (l0 : Option Value) (x : Int32) (st : List Value) (h : MH) (P : MP), mFr d 43 0 [l0, some (.int x)] st h P = mFr d 43 1 [l0, some (.int x)] (.int x :: st) h P) ∧
  (∀ (d : Nat) (loc : List (Option Value)) (x : Int32) (st : List Value) (h : MH) (P : MP), mFr d 43 1 loc (.int x :: st) h P = if x = 0 then mFr d 43 28 loc (st) h P else if x = 1 then mFr d 43 43 loc (st) h P else if x = 2 then mFr d 43 58 loc (st) h P else mFr d 43 82 loc (st) h P) := ⟨fun _ _ _ _ _ _ => (mFr_S mq43 h43_0).trans rfl,
  fun _ _ _ _ _ _ => F_table 82 [(0, 28), (1, 43), (2, 58)] mq43 h43_1 (by decide) (by decide +kernel) (by decide)⟩
theorem E43_28 : (∀ (d : Nat) (l1 : Option Value) (x : Nat) (st : List Value) (h : MH) (P : MP), mFr d 43 28 [some (.ref x), l1] st h P = mFr d 43 29 [some (.ref x), l1] (.ref x :: st) h P) ∧
  (∀ (d : Nat) (loc : List (Option Value)) (a : Nat) (st : List Value) (h : MH) (P : MP), mFr d 43 29 loc (.ref a :: st) h P = pget h a 6 3 (fun v => mFr d 43 32 loc (v :: st) h P)) ∧
  (∀ (d : Nat) (loc : List (Option Value)) (st : List Value) (h : MH) (P : MP), mFr d 43 32 loc st h P = mFr d 43 34 loc (.int 9 :: st) h P) ∧
  (∀ (d : Nat) (loc : List (Option Value)) (x y : Int32) (st : List Value) (h : MH) (P : MP), mFr d 43 34 loc (.int y :: .int x :: st) h P = if x = y then mFr d 43 37 loc (st) h P else mFr d 43 41 loc (st) h P) := ⟨fun _ _ _ _ _ _ => (mFr_S mq43 h43_28).trans rfl,
  fun _ _ _ _ _ _ => F_get mq43 h43_29 (Or.inl (rfl : _ = some (40, 0, 6, 3))),
  fun _ _ _ _ _ => (mFr_S mq43 h43_32).trans rfl,
  fun _ _ _ _ _ _ _ => (F_icmp 41 mq43 h43_34 (by decide)).trans mif_ne⟩
theorem E43_37 : (∀ (d : Nat) (loc : List (Option Value)) (st : List Value) (h : MH) (P : MP), mFr d 43 37 loc st h P = mFr d 43 38 loc (.int 1 :: st) h P) ∧
  (∀ (d : Nat) (loc : List (Option Value)) (st : List Value) (h : MH) (P : MP), mFr d 43 38 loc st h P = mFr d 43 42 loc (st) h P) := ⟨fun _ _ _ _ _ => (mFr_S mq43 h43_37).trans rfl,
  fun _ _ _ _ _ => F_goto 42 mq43 h43_38 (by decide)⟩
theorem E43_41 : (∀ (d : Nat) (loc : List (Option Value)) (st : List Value) (h : MH) (P : MP), mFr d 43 41 loc st h P = mFr d 43 42 loc (.int 0 :: st) h P) := fun _ _ _ _ _ => (mFr_S mq43 h43_41).trans rfl
theorem E43_42 : (∀ (d : Nat) (loc : List (Option Value)) (h : MH) (P : MP), mFr d 43 42 loc [.int 0] h P = P (some (.int 0)) h) ∧
  (∀ (d : Nat) (loc : List (Option Value)) (h : MH) (P : MP), mFr d 43 42 loc [.int 1] h P = P (some (.int 1)) h) ∧
  (∀ (d : Nat) (loc : List (Option Value)) (c : Prop) [Decidable c] (h : MH) (P : MP), mFr d 43 42 loc [.int (if c then 1 else 0)] h P = P (some (.int (if c then 1 else 0))) h) := ⟨fun _ _ _ _ => F_ret mq43 h43_42 rfl (by decide),
  fun _ _ _ _ => F_ret mq43 h43_42 rfl (by decide),
  fun _ _ _ _ _ _ => F_ret mq43 h43_42 rfl (by split <;> decide)⟩
theorem E43_43 : (∀ (d : Nat) (l1 : Option Value) (x : Nat) (st : List Value) (h : MH) (P : MP), mFr d 43 43 [some (.ref x), l1] st h P = mFr d 43 44 [some (.ref x), l1] (.ref x :: st) h P) ∧
  (∀ (d : Nat) (loc : List (Option Value)) (a : Nat) (st : List Value) (h : MH) (P : MP), mFr d 43 44 loc (.ref a :: st) h P = pget h a 6 3 (fun v => mFr d 43 47 loc (v :: st) h P)) ∧
  (∀ (d : Nat) (loc : List (Option Value)) (st : List Value) (h : MH) (P : MP), mFr d 43 47 loc st h P = mFr d 43 49 loc (.int 10 :: st) h P) ∧
  (∀ (d : Nat) (loc : List (Option Value)) (x y : Int32) (st : List Value) (h : MH) (P : MP), mFr d 43 49 loc (.int y :: .int x :: st) h P = if x = y then mFr d 43 52 loc (st) h P else mFr d 43 56 loc (st) h P) := ⟨fun _ _ _ _ _ _ => (mFr_S mq43 h43_43).trans rfl,
  fun _ _ _ _ _ _ => F_get mq43 h43_44 (Or.inl (rfl : _ = some (40, 0, 6, 3))),
  fun _ _ _ _ _ => (mFr_S mq43 h43_47).trans rfl,
  fun _ _ _ _ _ _ _ => (F_icmp 56 mq43 h43_49 (by decide)).trans mif_ne⟩
theorem E43_52 : (∀ (d : Nat) (loc : List (Option Value)) (st : List Value) (h : MH) (P : MP), mFr d 43 52 loc st h P = mFr d 43 53 loc (.int 1 :: st) h P) ∧
  (∀ (d : Nat) (loc : List (Option Value)) (st : List Value) (h : MH) (P : MP), mFr d 43 53 loc st h P = mFr d 43 57 loc (st) h P) := ⟨fun _ _ _ _ _ => (mFr_S mq43 h43_52).trans rfl,
  fun _ _ _ _ _ => F_goto 57 mq43 h43_53 (by decide)⟩
theorem E43_56 : (∀ (d : Nat) (loc : List (Option Value)) (st : List Value) (h : MH) (P : MP), mFr d 43 56 loc st h P = mFr d 43 57 loc (.int 0 :: st) h P) := fun _ _ _ _ _ => (mFr_S mq43 h43_56).trans rfl
theorem E43_57 : (∀ (d : Nat) (loc : List (Option Value)) (h : MH) (P : MP), mFr d 43 57 loc [.int 0] h P = P (some (.int 0)) h) ∧
  (∀ (d : Nat) (loc : List (Option Value)) (h : MH) (P : MP), mFr d 43 57 loc [.int 1] h P = P (some (.int 1)) h) ∧
  (∀ (d : Nat) (loc : List (Option Value)) (c : Prop) [Decidable c] (h : MH) (P : MP), mFr d 43 57 loc [.int (if c then 1 else 0)] h P = P (some (.int (if c then 1 else 0))) h) := ⟨fun _ _ _ _ => F_ret mq43 h43_57 rfl (by decide),
  fun _ _ _ _ => F_ret mq43 h43_57 rfl (by decide),
  fun _ _ _ _ _ _ => F_ret mq43 h43_57 rfl (by split <;> decide)⟩
theorem E43_58 : (∀ (d : Nat) (l1 : Option Value) (x : Nat) (st : List Value) (h : MH) (P : MP), mFr d 43 58 [some (.ref x), l1] st h P = mFr d 43 59 [some (.ref x), l1] (.ref x :: st) h P) ∧
  (∀ (d : Nat) (loc : List (Option Value)) (a : Nat) (st : List Value) (h : MH) (P : MP), mFr d 43 59 loc (.ref a :: st) h P = pget h a 6 3 (fun v => mFr d 43 62 loc (v :: st) h P)) ∧
  (∀ (d : Nat) (loc : List (Option Value)) (st : List Value) (h : MH) (P : MP), mFr d 43 62 loc st h P = mFr d 43 64 loc (.int 15 :: st) h P) ∧
  (∀ (d : Nat) (loc : List (Option Value)) (x y : Int32) (st : List Value) (h : MH) (P : MP), mFr d 43 64 loc (.int y :: .int x :: st) h P = if x = y then mFr d 43 76 loc (st) h P else mFr d 43 67 loc (st) h P) := ⟨fun _ _ _ _ _ _ => (mFr_S mq43 h43_58).trans rfl,
  fun _ _ _ _ _ _ => F_get mq43 h43_59 (Or.inl (rfl : _ = some (40, 0, 6, 3))),
  fun _ _ _ _ _ => (mFr_S mq43 h43_62).trans rfl,
  fun _ _ _ _ _ _ _ => (F_icmp 76 mq43 h43_64 (by decide)).trans mif_eq⟩
theorem E43_67 : (∀ (d : Nat) (l1 : Option Value) (x : Nat) (st : List Value) (h : MH) (P : MP), mFr d 43 67 [some (.ref x), l1] st h P = mFr d 43 68 [some (.ref x), l1] (.ref x :: st) h P) ∧
  (∀ (d : Nat) (loc : List (Option Value)) (a : Nat) (st : List Value) (h : MH) (P : MP), mFr d 43 68 loc (.ref a :: st) h P = pget h a 6 3 (fun v => mFr d 43 71 loc (v :: st) h P)) ∧
  (∀ (d : Nat) (loc : List (Option Value)) (st : List Value) (h : MH) (P : MP), mFr d 43 71 loc st h P = mFr d 43 73 loc (.int 16 :: st) h P) ∧
  (∀ (d : Nat) (loc : List (Option Value)) (x y : Int32) (st : List Value) (h : MH) (P : MP), mFr d 43 73 loc (.int y :: .int x :: st) h P = if x = y then mFr d 43 76 loc (st) h P else mFr d 43 80 loc (st) h P) := ⟨fun _ _ _ _ _ _ => (mFr_S mq43 h43_67).trans rfl,
  fun _ _ _ _ _ _ => F_get mq43 h43_68 (Or.inl (rfl : _ = some (40, 0, 6, 3))),
  fun _ _ _ _ _ => (mFr_S mq43 h43_71).trans rfl,
  fun _ _ _ _ _ _ _ => (F_icmp 80 mq43 h43_73 (by decide)).trans mif_ne⟩
theorem E43_76 : (∀ (d : Nat) (loc : List (Option Value)) (st : List Value) (h : MH) (P : MP), mFr d 43 76 loc st h P = mFr d 43 77 loc (.int 1 :: st) h P) ∧
  (∀ (d : Nat) (loc : List (Option Value)) (st : List Value) (h : MH) (P : MP), mFr d 43 77 loc st h P = mFr d 43 81 loc (st) h P) := ⟨fun _ _ _ _ _ => (mFr_S mq43 h43_76).trans rfl,
  fun _ _ _ _ _ => F_goto 81 mq43 h43_77 (by decide)⟩
theorem E43_80 : (∀ (d : Nat) (loc : List (Option Value)) (st : List Value) (h : MH) (P : MP), mFr d 43 80 loc st h P = mFr d 43 81 loc (.int 0 :: st) h P) := fun _ _ _ _ _ => (mFr_S mq43 h43_80).trans rfl
theorem E43_81 : (∀ (d : Nat) (loc : List (Option Value)) (h : MH) (P : MP), mFr d 43 81 loc [.int 0] h P = P (some (.int 0)) h) ∧
  (∀ (d : Nat) (loc : List (Option Value)) (h : MH) (P : MP), mFr d 43 81 loc [.int 1] h P = P (some (.int 1)) h) ∧
  (∀ (d : Nat) (loc : List (Option Value)) (c : Prop) [Decidable c] (h : MH) (P : MP), mFr d 43 81 loc [.int (if c then 1 else 0)] h P = P (some (.int (if c then 1 else 0))) h) := ⟨fun _ _ _ _ => F_ret mq43 h43_81 rfl (by decide),
  fun _ _ _ _ => F_ret mq43 h43_81 rfl (by decide),
  fun _ _ _ _ _ _ => F_ret mq43 h43_81 rfl (by split <;> decide)⟩
theorem E43_82 : (∀ (d : Nat) (l1 : Option Value) (x : Nat) (st : List Value) (h : MH) (P : MP), mFr d 43 82 [some (.ref x), l1] st h P = mFr d 43 83 [some (.ref x), l1] (.ref x :: st) h P) ∧
  (∀ (d : Nat) (loc : List (Option Value)) (a : Nat) (st : List Value) (h : MH) (P : MP), mFr d 43 83 loc (.ref a :: st) h P = pget h a 6 3 (fun v => mFr d 43 86 loc (v :: st) h P)) ∧
  (∀ (d : Nat) (loc : List (Option Value)) (st : List Value) (h : MH) (P : MP), mFr d 43 86 loc st h P = mFr d 43 88 loc (.int 17 :: st) h P) ∧
  (∀ (d : Nat) (loc : List (Option Value)) (x y : Int32) (st : List Value) (h : MH) (P : MP), mFr d 43 88 loc (.int y :: .int x :: st) h P = if x = y then mFr d 43 91 loc (st) h P else mFr d 43 95 loc (st) h P) := ⟨fun _ _ _ _ _ _ => (mFr_S mq43 h43_82).trans rfl,
  fun _ _ _ _ _ _ => F_get mq43 h43_83 (Or.inl (rfl : _ = some (40, 0, 6, 3))),
  fun _ _ _ _ _ => (mFr_S mq43 h43_86).trans rfl,
  fun _ _ _ _ _ _ _ => (F_icmp 95 mq43 h43_88 (by decide)).trans mif_ne⟩
theorem E43_91 : (∀ (d : Nat) (loc : List (Option Value)) (st : List Value) (h : MH) (P : MP), mFr d 43 91 loc st h P = mFr d 43 92 loc (.int 1 :: st) h P) ∧
  (∀ (d : Nat) (loc : List (Option Value)) (st : List Value) (h : MH) (P : MP), mFr d 43 92 loc st h P = mFr d 43 96 loc (st) h P) := ⟨fun _ _ _ _ _ => (mFr_S mq43 h43_91).trans rfl,
  fun _ _ _ _ _ => F_goto 96 mq43 h43_92 (by decide)⟩
theorem E43_95 : (∀ (d : Nat) (loc : List (Option Value)) (st : List Value) (h : MH) (P : MP), mFr d 43 95 loc st h P = mFr d 43 96 loc (.int 0 :: st) h P) := fun _ _ _ _ _ => (mFr_S mq43 h43_95).trans rfl
theorem E43_96 : (∀ (d : Nat) (loc : List (Option Value)) (h : MH) (P : MP), mFr d 43 96 loc [.int 0] h P = P (some (.int 0)) h) ∧
  (∀ (d : Nat) (loc : List (Option Value)) (h : MH) (P : MP), mFr d 43 96 loc [.int 1] h P = P (some (.int 1)) h) ∧
  (∀ (d : Nat) (loc : List (Option Value)) (c : Prop) [Decidable c] (h : MH) (P : MP), mFr d 43 96 loc [.int (if c then 1 else 0)] h P = P (some (.int (if c then 1 else 0))) h) := ⟨fun _ _ _ _ => F_ret mq43 h43_96 rfl (by decide),
  fun _ _ _ _ => F_ret mq43 h43_96 rfl (by decide),
  fun _ _ _ _ _ _ => F_ret mq43 h43_96 rfl (by split <;> decide)⟩
theorem B43 : ∀ (d : Nat) (b : Nat) (a0 : Int32) (h : MH) (P : MP), mRun (d + 1) 43 [.ref b, .int a0] h P = mFr d 43 0 [some (.ref b), some (.int a0)] [] h P := fun _ _ _ _ _ => mRun_S mq43 (Nat.le_of_ble_eq_true rfl)
-- 44: PuncturesAreViews$TextReader.link(I)V
def q44 : MI := (yX6_link, cX6_link, 2, none, 6, 1)
theorem mq44 : mtab[44]? = some q44 := rfl
theorem h44_0 : mfetch q44.2.1 0 = some (.iload_n 1) := by decide +kernel
theorem h44_1 : mfetch q44.2.1 1 = some (.tableswitch 50 0 2 #[27, 35, 42]) := by decide +kernel
theorem h44_28 : mfetch q44.2.1 28 = some (.aload_n 0) := by decide +kernel
theorem h44_29 : mfetch q44.2.1 29 = some (.iconst 1) := by decide +kernel
theorem h44_30 : mfetch q44.2.1 30 = some (.invokevirtual 52) := by decide +kernel
theorem h44_33 : mfetch q44.2.1 33 = some (.goto 22) := by decide +kernel
theorem h44_36 : mfetch q44.2.1 36 = some (.aload_n 0) := by decide +kernel
theorem h44_37 : mfetch q44.2.1 37 = some (.invokevirtual 77) := by decide +kernel
theorem h44_40 : mfetch q44.2.1 40 = some (.goto 15) := by decide +kernel
theorem h44_43 : mfetch q44.2.1 43 = some (.aload_n 0) := by decide +kernel
theorem h44_44 : mfetch q44.2.1 44 = some (.iconst 3) := by decide +kernel
theorem h44_45 : mfetch q44.2.1 45 = some (.invokevirtual 52) := by decide +kernel
theorem h44_48 : mfetch q44.2.1 48 = some (.goto 7) := by decide +kernel
theorem h44_51 : mfetch q44.2.1 51 = some (.aload_n 0) := by decide +kernel
theorem h44_52 : mfetch q44.2.1 52 = some (.invokevirtual 80) := by decide +kernel
theorem h44_55 : mfetch q44.2.1 55 = some (.return_) := by decide +kernel
theorem E44_0 : (∀ (d : Nat) (l0 : Option Value) (x : Int32) (st : List Value) (h : MH) (P : MP), mFr d 44 0 [l0, some (.int x)] st h P = mFr d 44 1 [l0, some (.int x)] (.int x :: st) h P) ∧
  (∀ (d : Nat) (loc : List (Option Value)) (x : Int32) (st : List Value) (h : MH) (P : MP), mFr d 44 1 loc (.int x :: st) h P = if x = 0 then mFr d 44 28 loc (st) h P else if x = 1 then mFr d 44 36 loc (st) h P else if x = 2 then mFr d 44 43 loc (st) h P else mFr d 44 51 loc (st) h P) := ⟨fun _ _ _ _ _ _ => (mFr_S mq44 h44_0).trans rfl,
  fun _ _ _ _ _ _ => F_table 51 [(0, 28), (1, 36), (2, 43)] mq44 h44_1 (by decide) (by decide +kernel) (by decide)⟩
theorem E44_28 : (∀ (d : Nat) (l1 : Option Value) (x : Nat) (st : List Value) (h : MH) (P : MP), mFr d 44 28 [some (.ref x), l1] st h P = mFr d 44 29 [some (.ref x), l1] (.ref x :: st) h P) ∧
  (∀ (d : Nat) (loc : List (Option Value)) (st : List Value) (h : MH) (P : MP), mFr d 44 29 loc st h P = mFr d 44 30 loc (.int 1 :: st) h P) ∧
  (∀ (d : Nat) (loc : List (Option Value)) (b : Nat) (a0 : Int32) (h : MH) (P : MP), mFr d 44 30 loc ((.int a0) :: .ref b :: []) h P = if mrcv h b 6 = true then mRun d 42 [.ref b, .int a0] h (fun v h' => mFr d 44 33 loc (v.toList ++ []) h' P) else False) ∧
  (∀ (d : Nat) (loc : List (Option Value)) (st : List Value) (h : MH) (P : MP), mFr d 44 33 loc st h P = mFr d 44 55 loc (st) h P) := ⟨fun _ _ _ _ _ _ => (mFr_S mq44 h44_28).trans rfl,
  fun _ _ _ _ _ => (mFr_S mq44 h44_29).trans rfl,
  fun _ _ b a0 _ _ => F_callV (as := [.int a0]) (rest := []) mq44 (Or.inl h44_30) (rfl : _ = some (52, 6, 42, 0)) (Or.inl ⟨h44_30, by decide⟩) (by rfl) (by rfl) (by rfl) (Nat.le_of_ble_eq_true rfl),
  fun _ _ _ _ _ => F_goto 55 mq44 h44_33 (by decide)⟩
theorem E44_36 : (∀ (d : Nat) (l1 : Option Value) (x : Nat) (st : List Value) (h : MH) (P : MP), mFr d 44 36 [some (.ref x), l1] st h P = mFr d 44 37 [some (.ref x), l1] (.ref x :: st) h P) ∧
  (∀ (d : Nat) (loc : List (Option Value)) (b : Nat) (h : MH) (P : MP), mFr d 44 37 loc (.ref b :: []) h P = if mrcv h b 6 = true then mRun d 45 [.ref b] h (fun v h' => mFr d 44 40 loc (v.toList ++ []) h' P) else False) ∧
  (∀ (d : Nat) (loc : List (Option Value)) (st : List Value) (h : MH) (P : MP), mFr d 44 40 loc st h P = mFr d 44 55 loc (st) h P) := ⟨fun _ _ _ _ _ _ => (mFr_S mq44 h44_36).trans rfl,
  fun _ _ b _ _ => F_callV (as := []) (rest := []) mq44 (Or.inl h44_37) (rfl : _ = some (77, 6, 45, 0)) (Or.inl ⟨h44_37, by decide⟩) (by rfl) (by rfl) (by rfl) (Nat.le_of_ble_eq_true rfl),
  fun _ _ _ _ _ => F_goto 55 mq44 h44_40 (by decide)⟩
theorem E44_43 : (∀ (d : Nat) (l1 : Option Value) (x : Nat) (st : List Value) (h : MH) (P : MP), mFr d 44 43 [some (.ref x), l1] st h P = mFr d 44 44 [some (.ref x), l1] (.ref x :: st) h P) ∧
  (∀ (d : Nat) (loc : List (Option Value)) (st : List Value) (h : MH) (P : MP), mFr d 44 44 loc st h P = mFr d 44 45 loc (.int 3 :: st) h P) ∧
  (∀ (d : Nat) (loc : List (Option Value)) (b : Nat) (a0 : Int32) (h : MH) (P : MP), mFr d 44 45 loc ((.int a0) :: .ref b :: []) h P = if mrcv h b 6 = true then mRun d 42 [.ref b, .int a0] h (fun v h' => mFr d 44 48 loc (v.toList ++ []) h' P) else False) ∧
  (∀ (d : Nat) (loc : List (Option Value)) (st : List Value) (h : MH) (P : MP), mFr d 44 48 loc st h P = mFr d 44 55 loc (st) h P) := ⟨fun _ _ _ _ _ _ => (mFr_S mq44 h44_43).trans rfl,
  fun _ _ _ _ _ => (mFr_S mq44 h44_44).trans rfl,
  fun _ _ b a0 _ _ => F_callV (as := [.int a0]) (rest := []) mq44 (Or.inl h44_45) (rfl : _ = some (52, 6, 42, 0)) (Or.inl ⟨h44_45, by decide⟩) (by rfl) (by rfl) (by rfl) (Nat.le_of_ble_eq_true rfl),
  fun _ _ _ _ _ => F_goto 55 mq44 h44_48 (by decide)⟩
theorem E44_51 : (∀ (d : Nat) (l1 : Option Value) (x : Nat) (st : List Value) (h : MH) (P : MP), mFr d 44 51 [some (.ref x), l1] st h P = mFr d 44 52 [some (.ref x), l1] (.ref x :: st) h P) ∧
  (∀ (d : Nat) (loc : List (Option Value)) (b : Nat) (h : MH) (P : MP), mFr d 44 52 loc (.ref b :: []) h P = if mrcv h b 6 = true then mRun d 46 [.ref b] h (fun v h' => mFr d 44 55 loc (v.toList ++ []) h' P) else False) := ⟨fun _ _ _ _ _ _ => (mFr_S mq44 h44_51).trans rfl,
  fun _ _ b _ _ => F_callV (as := []) (rest := []) mq44 (Or.inl h44_52) (rfl : _ = some (80, 6, 46, 0)) (Or.inl ⟨h44_52, by decide⟩) (by rfl) (by rfl) (by rfl) (Nat.le_of_ble_eq_true rfl)⟩
theorem E44_55 : (∀ (d : Nat) (loc : List (Option Value)) (h : MH) (P : MP), mFr d 44 55 loc [] h P = P none h) := fun _ _ _ _ => (mFr_S mq44 h44_55).trans rfl
theorem B44 : ∀ (d : Nat) (b : Nat) (a0 : Int32) (h : MH) (P : MP), mRun (d + 1) 44 [.ref b, .int a0] h P = mFr d 44 0 [some (.ref b), some (.int a0)] [] h P := fun _ _ _ _ _ => mRun_S mq44 (Nat.le_of_ble_eq_true rfl)
-- 45: PuncturesAreViews$TextReader.negation()V
def q45 : MI := (yX6_negation, cX6_negation, 2, none, 6, 0)
theorem mq45 : mtab[45]? = some q45 := rfl
theorem h45_0 : mfetch q45.2.1 0 = some (.aload_n 0) := by decide +kernel
theorem h45_1 : mfetch q45.2.1 1 = some (.getfield 40) := by decide +kernel
theorem h45_4 : mfetch q45.2.1 4 = some (.bipush 11) := by decide +kernel
theorem h45_6 : mfetch q45.2.1 6 = some (.if_icmp .ne 34) := by decide +kernel
theorem h45_9 : mfetch q45.2.1 9 = some (.aload_n 0) := by decide +kernel
theorem h45_10 : mfetch q45.2.1 10 = some (.invokevirtual 83) := by decide +kernel
theorem h45_13 : mfetch q45.2.1 13 = some (.ifCond .eq 26) := by decide +kernel
theorem h45_16 : mfetch q45.2.1 16 = some (.aload_n 0) := by decide +kernel
theorem h45_17 : mfetch q45.2.1 17 = some (.invokevirtual 77) := by decide +kernel
theorem h45_20 : mfetch q45.2.1 20 = some (.aload_n 0) := by decide +kernel
theorem h45_21 : mfetch q45.2.1 21 = some (.dup) := by decide +kernel
theorem h45_22 : mfetch q45.2.1 22 = some (.getfield 42) := by decide +kernel
theorem h45_25 : mfetch q45.2.1 25 = some (.iconst 1) := by decide +kernel
theorem h45_26 : mfetch q45.2.1 26 = some (.isub) := by decide +kernel
theorem h45_27 : mfetch q45.2.1 27 = some (.putfield 42) := by decide +kernel
theorem h45_30 : mfetch q45.2.1 30 = some (.aload_n 0) := by decide +kernel
theorem h45_31 : mfetch q45.2.1 31 = some (.getfield 20) := by decide +kernel
theorem h45_34 : mfetch q45.2.1 34 = some (.bipush 11) := by decide +kernel
theorem h45_36 : mfetch q45.2.1 36 = some (.invokevirtual 74) := by decide +kernel
theorem h45_39 : mfetch q45.2.1 39 = some (.return_) := by decide +kernel
theorem h45_40 : mfetch q45.2.1 40 = some (.aload_n 0) := by decide +kernel
theorem h45_41 : mfetch q45.2.1 41 = some (.iconst 2) := by decide +kernel
theorem h45_42 : mfetch q45.2.1 42 = some (.invokevirtual 52) := by decide +kernel
theorem h45_45 : mfetch q45.2.1 45 = some (.aload_n 0) := by decide +kernel
theorem h45_46 : mfetch q45.2.1 46 = some (.getfield 40) := by decide +kernel
theorem h45_49 : mfetch q45.2.1 49 = some (.bipush 18) := by decide +kernel
theorem h45_51 : mfetch q45.2.1 51 = some (.if_icmp .eq 12) := by decide +kernel
theorem h45_54 : mfetch q45.2.1 54 = some (.aload_n 0) := by decide +kernel
theorem h45_55 : mfetch q45.2.1 55 = some (.getfield 40) := by decide +kernel
theorem h45_58 : mfetch q45.2.1 58 = some (.bipush 19) := by decide +kernel
theorem h45_60 : mfetch q45.2.1 60 = some (.if_icmp .ne 25) := by decide +kernel
theorem h45_63 : mfetch q45.2.1 63 = some (.aload_n 0) := by decide +kernel
theorem h45_64 : mfetch q45.2.1 64 = some (.getfield 40) := by decide +kernel
theorem h45_67 : mfetch q45.2.1 67 = some (.istore_n 1) := by decide +kernel
theorem h45_68 : mfetch q45.2.1 68 = some (.aload_n 0) := by decide +kernel
theorem h45_69 : mfetch q45.2.1 69 = some (.invokevirtual 61) := by decide +kernel
theorem h45_72 : mfetch q45.2.1 72 = some (.aload_n 0) := by decide +kernel
theorem h45_73 : mfetch q45.2.1 73 = some (.iconst 2) := by decide +kernel
theorem h45_74 : mfetch q45.2.1 74 = some (.invokevirtual 52) := by decide +kernel
theorem h45_77 : mfetch q45.2.1 77 = some (.aload_n 0) := by decide +kernel
theorem h45_78 : mfetch q45.2.1 78 = some (.getfield 20) := by decide +kernel
theorem h45_81 : mfetch q45.2.1 81 = some (.iload_n 1) := by decide +kernel
theorem h45_82 : mfetch q45.2.1 82 = some (.invokevirtual 74) := by decide +kernel
theorem h45_85 : mfetch q45.2.1 85 = some (.return_) := by decide +kernel
theorem E45_0 : (∀ (d : Nat) (l1 : Option Value) (x : Nat) (st : List Value) (h : MH) (P : MP), mFr d 45 0 [some (.ref x), l1] st h P = mFr d 45 1 [some (.ref x), l1] (.ref x :: st) h P) ∧
  (∀ (d : Nat) (loc : List (Option Value)) (a : Nat) (st : List Value) (h : MH) (P : MP), mFr d 45 1 loc (.ref a :: st) h P = pget h a 6 3 (fun v => mFr d 45 4 loc (v :: st) h P)) ∧
  (∀ (d : Nat) (loc : List (Option Value)) (st : List Value) (h : MH) (P : MP), mFr d 45 4 loc st h P = mFr d 45 6 loc (.int 11 :: st) h P) ∧
  (∀ (d : Nat) (loc : List (Option Value)) (x y : Int32) (st : List Value) (h : MH) (P : MP), mFr d 45 6 loc (.int y :: .int x :: st) h P = if x = y then mFr d 45 9 loc (st) h P else mFr d 45 40 loc (st) h P) := ⟨fun _ _ _ _ _ _ => (mFr_S mq45 h45_0).trans rfl,
  fun _ _ _ _ _ _ => F_get mq45 h45_1 (Or.inl (rfl : _ = some (40, 0, 6, 3))),
  fun _ _ _ _ _ => (mFr_S mq45 h45_4).trans rfl,
  fun _ _ _ _ _ _ _ => (F_icmp 40 mq45 h45_6 (by decide)).trans mif_ne⟩
theorem E45_9 : (∀ (d : Nat) (l1 : Option Value) (x : Nat) (st : List Value) (h : MH) (P : MP), mFr d 45 9 [some (.ref x), l1] st h P = mFr d 45 10 [some (.ref x), l1] (.ref x :: st) h P) ∧
  (∀ (d : Nat) (loc : List (Option Value)) (b : Nat) (h : MH) (P : MP), mFr d 45 10 loc (.ref b :: []) h P = if mrcv h b 6 = true then mRun d 47 [.ref b] h (fun v h' => mFr d 45 13 loc (v.toList ++ []) h' P) else False) ∧
  (∀ (d : Nat) (loc : List (Option Value)) (x : Int32) (st : List Value) (h : MH) (P : MP), mFr d 45 13 loc (.int x :: st) h P = if x = 0 then mFr d 45 39 loc (st) h P else mFr d 45 16 loc (st) h P) := ⟨fun _ _ _ _ _ _ => (mFr_S mq45 h45_9).trans rfl,
  fun _ _ b _ _ => F_callV (as := []) (rest := []) mq45 (Or.inl h45_10) (rfl : _ = some (83, 6, 47, 0)) (Or.inl ⟨h45_10, by decide⟩) (by rfl) (by rfl) (by rfl) (Nat.le_of_ble_eq_true rfl),
  fun _ _ _ _ _ _ => (F_ifz 39 mq45 h45_13 (by decide)).trans mif_eq⟩
theorem E45_16 : (∀ (d : Nat) (l1 : Option Value) (x : Nat) (st : List Value) (h : MH) (P : MP), mFr d 45 16 [some (.ref x), l1] st h P = mFr d 45 17 [some (.ref x), l1] (.ref x :: st) h P) ∧
  (∀ (d : Nat) (loc : List (Option Value)) (b : Nat) (h : MH) (P : MP), mFr d 45 17 loc (.ref b :: []) h P = if mrcv h b 6 = true then mRun d 45 [.ref b] h (fun v h' => mFr d 45 20 loc (v.toList ++ []) h' P) else False) ∧
  (∀ (d : Nat) (l1 : Option Value) (x : Nat) (st : List Value) (h : MH) (P : MP), mFr d 45 20 [some (.ref x), l1] st h P = mFr d 45 21 [some (.ref x), l1] (.ref x :: st) h P) ∧
  (∀ (d : Nat) (loc : List (Option Value)) (x : Nat) (st : List Value) (h : MH) (P : MP), mFr d 45 21 loc (.ref x :: st) h P = mFr d 45 22 loc (.ref x :: .ref x :: st) h P) ∧
  (∀ (d : Nat) (loc : List (Option Value)) (a : Nat) (st : List Value) (h : MH) (P : MP), mFr d 45 22 loc (.ref a :: st) h P = pget h a 6 4 (fun v => mFr d 45 25 loc (v :: st) h P)) ∧
  (∀ (d : Nat) (loc : List (Option Value)) (st : List Value) (h : MH) (P : MP), mFr d 45 25 loc st h P = mFr d 45 26 loc (.int 1 :: st) h P) ∧
  (∀ (d : Nat) (loc : List (Option Value)) (x y : Int32) (st : List Value) (h : MH) (P : MP), mFr d 45 26 loc (.int y :: .int x :: st) h P = mFr d 45 27 loc (.int (x - y) :: st) h P) ∧
  (∀ (d : Nat) (loc : List (Option Value)) (a : Nat) (x : Int32) (st : List Value) (h : MH) (P : MP), mFr d 45 27 loc (.int x :: .ref a :: st) h P = pput h a 6 4 (.int x) (fun h' => mFr d 45 30 loc (st) h' P)) ∧
  (∀ (d : Nat) (l1 : Option Value) (x : Nat) (st : List Value) (h : MH) (P : MP), mFr d 45 30 [some (.ref x), l1] st h P = mFr d 45 31 [some (.ref x), l1] (.ref x :: st) h P) ∧
  (∀ (d : Nat) (loc : List (Option Value)) (a : Nat) (st : List Value) (h : MH) (P : MP), mFr d 45 31 loc (.ref a :: st) h P = pget h a 6 1 (fun v => mFr d 45 34 loc (v :: st) h P)) ∧
  (∀ (d : Nat) (loc : List (Option Value)) (st : List Value) (h : MH) (P : MP), mFr d 45 34 loc st h P = mFr d 45 36 loc (.int 11 :: st) h P) ∧
  (∀ (d : Nat) (loc : List (Option Value)) (b : Nat) (a0 : Int32) (h : MH) (P : MP), mFr d 45 36 loc ((.int a0) :: .ref b :: []) h P = if mrcv h b 5 = true then mRun d 31 [.ref b, .int a0] h (fun v h' => mFr d 45 39 loc (v.toList ++ []) h' P) else False) := ⟨fun _ _ _ _ _ _ => (mFr_S mq45 h45_16).trans rfl,
  fun _ _ b _ _ => F_callV (as := []) (rest := []) mq45 (Or.inl h45_17) (rfl : _ = some (77, 6, 45, 0)) (Or.inl ⟨h45_17, by decide⟩) (by rfl) (by rfl) (by rfl) (Nat.le_of_ble_eq_true rfl),
  fun _ _ _ _ _ _ => (mFr_S mq45 h45_20).trans rfl,
  fun _ _ _ _ _ _ => (mFr_S mq45 h45_21).trans rfl,
  fun _ _ _ _ _ _ => F_get mq45 h45_22 (Or.inl (rfl : _ = some (42, 0, 6, 4))),
  fun _ _ _ _ _ => (mFr_S mq45 h45_25).trans rfl,
  fun _ _ _ _ _ _ _ => (mFr_S mq45 h45_26).trans rfl,
  fun _ _ _ _ _ _ _ => F_put mq45 h45_27 (Or.inl ⟨(rfl : _ = some (42, 0, 6, 4)), Or.inl rfl⟩),
  fun _ _ _ _ _ _ => (mFr_S mq45 h45_30).trans rfl,
  fun _ _ _ _ _ _ => F_get mq45 h45_31 (Or.inl (rfl : _ = some (20, 0, 6, 1))),
  fun _ _ _ _ _ => (mFr_S mq45 h45_34).trans rfl,
  fun _ _ b a0 _ _ => F_callV (as := [.int a0]) (rest := []) mq45 (Or.inl h45_36) (rfl : _ = some (74, 6, 31, 1)) (Or.inl ⟨h45_36, by decide⟩) (by rfl) (by rfl) (by rfl) (Nat.le_of_ble_eq_true rfl)⟩
theorem E45_39 : (∀ (d : Nat) (loc : List (Option Value)) (h : MH) (P : MP), mFr d 45 39 loc [] h P = P none h) := fun _ _ _ _ => (mFr_S mq45 h45_39).trans rfl
theorem E45_40 : (∀ (d : Nat) (l1 : Option Value) (x : Nat) (st : List Value) (h : MH) (P : MP), mFr d 45 40 [some (.ref x), l1] st h P = mFr d 45 41 [some (.ref x), l1] (.ref x :: st) h P) ∧
  (∀ (d : Nat) (loc : List (Option Value)) (st : List Value) (h : MH) (P : MP), mFr d 45 41 loc st h P = mFr d 45 42 loc (.int 2 :: st) h P) ∧
  (∀ (d : Nat) (loc : List (Option Value)) (b : Nat) (a0 : Int32) (h : MH) (P : MP), mFr d 45 42 loc ((.int a0) :: .ref b :: []) h P = if mrcv h b 6 = true then mRun d 42 [.ref b, .int a0] h (fun v h' => mFr d 45 45 loc (v.toList ++ []) h' P) else False) ∧
  (∀ (d : Nat) (l1 : Option Value) (x : Nat) (st : List Value) (h : MH) (P : MP), mFr d 45 45 [some (.ref x), l1] st h P = mFr d 45 46 [some (.ref x), l1] (.ref x :: st) h P) ∧
  (∀ (d : Nat) (loc : List (Option Value)) (a : Nat) (st : List Value) (h : MH) (P : MP), mFr d 45 46 loc (.ref a :: st) h P = pget h a 6 3 (fun v => mFr d 45 49 loc (v :: st) h P)) ∧
  (∀ (d : Nat) (loc : List (Option Value)) (st : List Value) (h : MH) (P : MP), mFr d 45 49 loc st h P = mFr d 45 51 loc (.int 18 :: st) h P) ∧
  (∀ (d : Nat) (loc : List (Option Value)) (x y : Int32) (st : List Value) (h : MH) (P : MP), mFr d 45 51 loc (.int y :: .int x :: st) h P = if x = y then mFr d 45 63 loc (st) h P else mFr d 45 54 loc (st) h P) := ⟨fun _ _ _ _ _ _ => (mFr_S mq45 h45_40).trans rfl,
  fun _ _ _ _ _ => (mFr_S mq45 h45_41).trans rfl,
  fun _ _ b a0 _ _ => F_callV (as := [.int a0]) (rest := []) mq45 (Or.inl h45_42) (rfl : _ = some (52, 6, 42, 0)) (Or.inl ⟨h45_42, by decide⟩) (by rfl) (by rfl) (by rfl) (Nat.le_of_ble_eq_true rfl),
  fun _ _ _ _ _ _ => (mFr_S mq45 h45_45).trans rfl,
  fun _ _ _ _ _ _ => F_get mq45 h45_46 (Or.inl (rfl : _ = some (40, 0, 6, 3))),
  fun _ _ _ _ _ => (mFr_S mq45 h45_49).trans rfl,
  fun _ _ _ _ _ _ _ => (F_icmp 63 mq45 h45_51 (by decide)).trans mif_eq⟩
theorem E45_54 : (∀ (d : Nat) (l1 : Option Value) (x : Nat) (st : List Value) (h : MH) (P : MP), mFr d 45 54 [some (.ref x), l1] st h P = mFr d 45 55 [some (.ref x), l1] (.ref x :: st) h P) ∧
  (∀ (d : Nat) (loc : List (Option Value)) (a : Nat) (st : List Value) (h : MH) (P : MP), mFr d 45 55 loc (.ref a :: st) h P = pget h a 6 3 (fun v => mFr d 45 58 loc (v :: st) h P)) ∧
  (∀ (d : Nat) (loc : List (Option Value)) (st : List Value) (h : MH) (P : MP), mFr d 45 58 loc st h P = mFr d 45 60 loc (.int 19 :: st) h P) ∧
  (∀ (d : Nat) (loc : List (Option Value)) (x y : Int32) (st : List Value) (h : MH) (P : MP), mFr d 45 60 loc (.int y :: .int x :: st) h P = if x = y then mFr d 45 63 loc (st) h P else mFr d 45 85 loc (st) h P) := ⟨fun _ _ _ _ _ _ => (mFr_S mq45 h45_54).trans rfl,
  fun _ _ _ _ _ _ => F_get mq45 h45_55 (Or.inl (rfl : _ = some (40, 0, 6, 3))),
  fun _ _ _ _ _ => (mFr_S mq45 h45_58).trans rfl,
  fun _ _ _ _ _ _ _ => (F_icmp 85 mq45 h45_60 (by decide)).trans mif_ne⟩
theorem E45_63 : (∀ (d : Nat) (l1 : Option Value) (x : Nat) (st : List Value) (h : MH) (P : MP), mFr d 45 63 [some (.ref x), l1] st h P = mFr d 45 64 [some (.ref x), l1] (.ref x :: st) h P) ∧
  (∀ (d : Nat) (loc : List (Option Value)) (a : Nat) (st : List Value) (h : MH) (P : MP), mFr d 45 64 loc (.ref a :: st) h P = pget h a 6 3 (fun v => mFr d 45 67 loc (v :: st) h P)) ∧
  (∀ (d : Nat) (l0 : Option Value) (l1 : Option Value) (x : Int32) (st : List Value) (h : MH) (P : MP), mnl l0 = true → mFr d 45 67 [l0, l1] (.int x :: st) h P = mFr d 45 68 [l0, some (.int x)] (st) h P) ∧
  (∀ (d : Nat) (l1 : Option Value) (x : Nat) (st : List Value) (h : MH) (P : MP), mFr d 45 68 [some (.ref x), l1] st h P = mFr d 45 69 [some (.ref x), l1] (.ref x :: st) h P) ∧
  (∀ (d : Nat) (loc : List (Option Value)) (b : Nat) (h : MH) (P : MP), mFr d 45 69 loc (.ref b :: []) h P = if mrcv h b 6 = true then mRun d 39 [.ref b] h (fun v h' => mFr d 45 72 loc (v.toList ++ []) h' P) else False) ∧
  (∀ (d : Nat) (l1 : Option Value) (x : Nat) (st : List Value) (h : MH) (P : MP), mFr d 45 72 [some (.ref x), l1] st h P = mFr d 45 73 [some (.ref x), l1] (.ref x :: st) h P) ∧
  (∀ (d : Nat) (loc : List (Option Value)) (st : List Value) (h : MH) (P : MP), mFr d 45 73 loc st h P = mFr d 45 74 loc (.int 2 :: st) h P) ∧
  (∀ (d : Nat) (loc : List (Option Value)) (b : Nat) (a0 : Int32) (h : MH) (P : MP), mFr d 45 74 loc ((.int a0) :: .ref b :: []) h P = if mrcv h b 6 = true then mRun d 42 [.ref b, .int a0] h (fun v h' => mFr d 45 77 loc (v.toList ++ []) h' P) else False) ∧
  (∀ (d : Nat) (l1 : Option Value) (x : Nat) (st : List Value) (h : MH) (P : MP), mFr d 45 77 [some (.ref x), l1] st h P = mFr d 45 78 [some (.ref x), l1] (.ref x :: st) h P) ∧
  (∀ (d : Nat) (loc : List (Option Value)) (a : Nat) (st : List Value) (h : MH) (P : MP), mFr d 45 78 loc (.ref a :: st) h P = pget h a 6 1 (fun v => mFr d 45 81 loc (v :: st) h P)) ∧
  (∀ (d : Nat) (l0 : Option Value) (x : Int32) (st : List Value) (h : MH) (P : MP), mFr d 45 81 [l0, some (.int x)] st h P = mFr d 45 82 [l0, some (.int x)] (.int x :: st) h P) ∧
  (∀ (d : Nat) (loc : List (Option Value)) (b : Nat) (a0 : Int32) (h : MH) (P : MP), mFr d 45 82 loc ((.int a0) :: .ref b :: []) h P = if mrcv h b 5 = true then mRun d 31 [.ref b, .int a0] h (fun v h' => mFr d 45 85 loc (v.toList ++ []) h' P) else False) := ⟨fun _ _ _ _ _ _ => (mFr_S mq45 h45_63).trans rfl,
  fun _ _ _ _ _ _ => F_get mq45 h45_64 (Or.inl (rfl : _ = some (40, 0, 6, 3))),
  fun _ _ _ _ _ _ _ hm => (mFr_S mq45 h45_67).trans (by simp only [mgo.eq_1, mstep, mi1, ml1, mast, mst, mst2, mprev, List.length_cons, List.length_nil, List.getElem?_cons_succ, List.getElem?_cons_zero, hm]; rfl),
  fun _ _ _ _ _ _ => (mFr_S mq45 h45_68).trans rfl,
  fun _ _ b _ _ => F_callV (as := []) (rest := []) mq45 (Or.inl h45_69) (rfl : _ = some (61, 6, 39, 0)) (Or.inl ⟨h45_69, by decide⟩) (by rfl) (by rfl) (by rfl) (Nat.le_of_ble_eq_true rfl),
  fun _ _ _ _ _ _ => (mFr_S mq45 h45_72).trans rfl,
  fun _ _ _ _ _ => (mFr_S mq45 h45_73).trans rfl,
  fun _ _ b a0 _ _ => F_callV (as := [.int a0]) (rest := []) mq45 (Or.inl h45_74) (rfl : _ = some (52, 6, 42, 0)) (Or.inl ⟨h45_74, by decide⟩) (by rfl) (by rfl) (by rfl) (Nat.le_of_ble_eq_true rfl),
  fun _ _ _ _ _ _ => (mFr_S mq45 h45_77).trans rfl,
  fun _ _ _ _ _ _ => F_get mq45 h45_78 (Or.inl (rfl : _ = some (20, 0, 6, 1))),
  fun _ _ _ _ _ _ => (mFr_S mq45 h45_81).trans rfl,
  fun _ _ b a0 _ _ => F_callV (as := [.int a0]) (rest := []) mq45 (Or.inl h45_82) (rfl : _ = some (74, 6, 31, 1)) (Or.inl ⟨h45_82, by decide⟩) (by rfl) (by rfl) (by rfl) (Nat.le_of_ble_eq_true rfl)⟩
theorem E45_85 : (∀ (d : Nat) (loc : List (Option Value)) (h : MH) (P : MP), mFr d 45 85 loc [] h P = P none h) := fun _ _ _ _ => (mFr_S mq45 h45_85).trans rfl
theorem B45 : ∀ (d : Nat) (b : Nat) (h : MH) (P : MP), mRun (d + 1) 45 [.ref b] h P = mFr d 45 0 [some (.ref b), none] [] h P := fun _ _ _ _ => mRun_S mq45 (Nat.le_of_ble_eq_true rfl)
-- 46: PuncturesAreViews$TextReader.single()V
def q46 : MI := (yX6_single, cX6_single, 1, none, 6, 0)
theorem mq46 : mtab[46]? = some q46 := rfl
theorem h46_0 : mfetch q46.2.1 0 = some (.aload_n 0) := by decide +kernel
theorem h46_1 : mfetch q46.2.1 1 = some (.getfield 40) := by decide +kernel
theorem h46_4 : mfetch q46.2.1 4 = some (.bipush 100) := by decide +kernel
theorem h46_6 : mfetch q46.2.1 6 = some (.if_icmp .ge 11) := by decide +kernel
theorem h46_9 : mfetch q46.2.1 9 = some (.aload_n 0) := by decide +kernel
theorem h46_10 : mfetch q46.2.1 10 = some (.getfield 40) := by decide +kernel
theorem h46_13 : mfetch q46.2.1 13 = some (.iconst 5) := by decide +kernel
theorem h46_14 : mfetch q46.2.1 14 = some (.if_icmp .gt 21) := by decide +kernel
theorem h46_17 : mfetch q46.2.1 17 = some (.aload_n 0) := by decide +kernel
theorem h46_18 : mfetch q46.2.1 18 = some (.getfield 20) := by decide +kernel
theorem h46_21 : mfetch q46.2.1 21 = some (.aload_n 0) := by decide +kernel
theorem h46_22 : mfetch q46.2.1 22 = some (.getfield 40) := by decide +kernel
theorem h46_25 : mfetch q46.2.1 25 = some (.invokevirtual 74) := by decide +kernel
theorem h46_28 : mfetch q46.2.1 28 = some (.aload_n 0) := by decide +kernel
theorem h46_29 : mfetch q46.2.1 29 = some (.invokevirtual 61) := by decide +kernel
theorem h46_32 : mfetch q46.2.1 32 = some (.goto 89) := by decide +kernel
theorem h46_35 : mfetch q46.2.1 35 = some (.aload_n 0) := by decide +kernel
theorem h46_36 : mfetch q46.2.1 36 = some (.getfield 40) := by decide +kernel
theorem h46_39 : mfetch q46.2.1 39 = some (.bipush 16) := by decide +kernel
theorem h46_41 : mfetch q46.2.1 41 = some (.if_icmp .ne 36) := by decide +kernel
theorem h46_44 : mfetch q46.2.1 44 = some (.aload_n 0) := by decide +kernel
theorem h46_45 : mfetch q46.2.1 45 = some (.invokevirtual 83) := by decide +kernel
theorem h46_48 : mfetch q46.2.1 48 = some (.ifCond .eq 73) := by decide +kernel
theorem h46_51 : mfetch q46.2.1 51 = some (.aload_n 0) := by decide +kernel
theorem h46_52 : mfetch q46.2.1 52 = some (.invokevirtual 80) := by decide +kernel
theorem h46_55 : mfetch q46.2.1 55 = some (.aload_n 0) := by decide +kernel
theorem h46_56 : mfetch q46.2.1 56 = some (.dup) := by decide +kernel
theorem h46_57 : mfetch q46.2.1 57 = some (.getfield 42) := by decide +kernel
theorem h46_60 : mfetch q46.2.1 60 = some (.iconst 1) := by decide +kernel
theorem h46_61 : mfetch q46.2.1 61 = some (.isub) := by decide +kernel
theorem h46_62 : mfetch q46.2.1 62 = some (.putfield 42) := by decide +kernel
theorem h46_65 : mfetch q46.2.1 65 = some (.aload_n 0) := by decide +kernel
theorem h46_66 : mfetch q46.2.1 66 = some (.getfield 20) := by decide +kernel
theorem h46_69 : mfetch q46.2.1 69 = some (.bipush 22) := by decide +kernel
theorem h46_71 : mfetch q46.2.1 71 = some (.invokevirtual 74) := by decide +kernel
theorem h46_74 : mfetch q46.2.1 74 = some (.goto 47) := by decide +kernel
theorem h46_77 : mfetch q46.2.1 77 = some (.aload_n 0) := by decide +kernel
theorem h46_78 : mfetch q46.2.1 78 = some (.getfield 40) := by decide +kernel
theorem h46_81 : mfetch q46.2.1 81 = some (.bipush 12) := by decide +kernel
theorem h46_83 : mfetch q46.2.1 83 = some (.if_icmp .ne 34) := by decide +kernel
theorem h46_86 : mfetch q46.2.1 86 = some (.aload_n 0) := by decide +kernel
theorem h46_87 : mfetch q46.2.1 87 = some (.invokevirtual 83) := by decide +kernel
theorem h46_90 : mfetch q46.2.1 90 = some (.ifCond .eq 31) := by decide +kernel
theorem h46_93 : mfetch q46.2.1 93 = some (.aload_n 0) := by decide +kernel
theorem h46_94 : mfetch q46.2.1 94 = some (.iconst 0) := by decide +kernel
theorem h46_95 : mfetch q46.2.1 95 = some (.invokevirtual 52) := by decide +kernel
theorem h46_98 : mfetch q46.2.1 98 = some (.aload_n 0) := by decide +kernel
theorem h46_99 : mfetch q46.2.1 99 = some (.bipush 13) := by decide +kernel
theorem h46_101 : mfetch q46.2.1 101 = some (.invokevirtual 48) := by decide +kernel
theorem h46_104 : mfetch q46.2.1 104 = some (.aload_n 0) := by decide +kernel
theorem h46_105 : mfetch q46.2.1 105 = some (.dup) := by decide +kernel
theorem h46_106 : mfetch q46.2.1 106 = some (.getfield 42) := by decide +kernel
theorem h46_109 : mfetch q46.2.1 109 = some (.iconst 1) := by decide +kernel
theorem h46_110 : mfetch q46.2.1 110 = some (.isub) := by decide +kernel
theorem h46_111 : mfetch q46.2.1 111 = some (.putfield 42) := by decide +kernel
theorem h46_114 : mfetch q46.2.1 114 = some (.goto 7) := by decide +kernel
theorem h46_117 : mfetch q46.2.1 117 = some (.aload_n 0) := by decide +kernel
theorem h46_118 : mfetch q46.2.1 118 = some (.invokevirtual 64) := by decide +kernel
theorem h46_121 : mfetch q46.2.1 121 = some (.return_) := by decide +kernel
theorem E46_0 : (∀ (d : Nat) (x : Nat) (st : List Value) (h : MH) (P : MP), mFr d 46 0 [some (.ref x)] st h P = mFr d 46 1 [some (.ref x)] (.ref x :: st) h P) ∧
  (∀ (d : Nat) (loc : List (Option Value)) (a : Nat) (st : List Value) (h : MH) (P : MP), mFr d 46 1 loc (.ref a :: st) h P = pget h a 6 3 (fun v => mFr d 46 4 loc (v :: st) h P)) ∧
  (∀ (d : Nat) (loc : List (Option Value)) (st : List Value) (h : MH) (P : MP), mFr d 46 4 loc st h P = mFr d 46 6 loc (.int 100 :: st) h P) ∧
  (∀ (d : Nat) (loc : List (Option Value)) (x y : Int32) (st : List Value) (h : MH) (P : MP), mFr d 46 6 loc (.int y :: .int x :: st) h P = if x < y then mFr d 46 9 loc (st) h P else mFr d 46 17 loc (st) h P) := ⟨fun _ _ _ _ _ => (mFr_S mq46 h46_0).trans rfl,
  fun _ _ _ _ _ _ => F_get mq46 h46_1 (Or.inl (rfl : _ = some (40, 0, 6, 3))),
  fun _ _ _ _ _ => (mFr_S mq46 h46_4).trans rfl,
  fun _ _ _ _ _ _ _ => (F_icmp 17 mq46 h46_6 (by decide)).trans mif_ge⟩
theorem E46_9 : (∀ (d : Nat) (x : Nat) (st : List Value) (h : MH) (P : MP), mFr d 46 9 [some (.ref x)] st h P = mFr d 46 10 [some (.ref x)] (.ref x :: st) h P) ∧
  (∀ (d : Nat) (loc : List (Option Value)) (a : Nat) (st : List Value) (h : MH) (P : MP), mFr d 46 10 loc (.ref a :: st) h P = pget h a 6 3 (fun v => mFr d 46 13 loc (v :: st) h P)) ∧
  (∀ (d : Nat) (loc : List (Option Value)) (st : List Value) (h : MH) (P : MP), mFr d 46 13 loc st h P = mFr d 46 14 loc (.int 5 :: st) h P) ∧
  (∀ (d : Nat) (loc : List (Option Value)) (x y : Int32) (st : List Value) (h : MH) (P : MP), mFr d 46 14 loc (.int y :: .int x :: st) h P = if y < x then mFr d 46 35 loc (st) h P else mFr d 46 17 loc (st) h P) := ⟨fun _ _ _ _ _ => (mFr_S mq46 h46_9).trans rfl,
  fun _ _ _ _ _ _ => F_get mq46 h46_10 (Or.inl (rfl : _ = some (40, 0, 6, 3))),
  fun _ _ _ _ _ => (mFr_S mq46 h46_13).trans rfl,
  fun _ _ _ _ _ _ _ => (F_icmp 35 mq46 h46_14 (by decide)).trans mif_gt⟩
theorem E46_17 : (∀ (d : Nat) (x : Nat) (st : List Value) (h : MH) (P : MP), mFr d 46 17 [some (.ref x)] st h P = mFr d 46 18 [some (.ref x)] (.ref x :: st) h P) ∧
  (∀ (d : Nat) (loc : List (Option Value)) (a : Nat) (st : List Value) (h : MH) (P : MP), mFr d 46 18 loc (.ref a :: st) h P = pget h a 6 1 (fun v => mFr d 46 21 loc (v :: st) h P)) ∧
  (∀ (d : Nat) (x : Nat) (st : List Value) (h : MH) (P : MP), mFr d 46 21 [some (.ref x)] st h P = mFr d 46 22 [some (.ref x)] (.ref x :: st) h P) ∧
  (∀ (d : Nat) (loc : List (Option Value)) (a : Nat) (st : List Value) (h : MH) (P : MP), mFr d 46 22 loc (.ref a :: st) h P = pget h a 6 3 (fun v => mFr d 46 25 loc (v :: st) h P)) ∧
  (∀ (d : Nat) (loc : List (Option Value)) (b : Nat) (a0 : Int32) (h : MH) (P : MP), mFr d 46 25 loc ((.int a0) :: .ref b :: []) h P = if mrcv h b 5 = true then mRun d 31 [.ref b, .int a0] h (fun v h' => mFr d 46 28 loc (v.toList ++ []) h' P) else False) ∧
  (∀ (d : Nat) (x : Nat) (st : List Value) (h : MH) (P : MP), mFr d 46 28 [some (.ref x)] st h P = mFr d 46 29 [some (.ref x)] (.ref x :: st) h P) ∧
  (∀ (d : Nat) (loc : List (Option Value)) (b : Nat) (h : MH) (P : MP), mFr d 46 29 loc (.ref b :: []) h P = if mrcv h b 6 = true then mRun d 39 [.ref b] h (fun v h' => mFr d 46 32 loc (v.toList ++ []) h' P) else False) ∧
  (∀ (d : Nat) (loc : List (Option Value)) (st : List Value) (h : MH) (P : MP), mFr d 46 32 loc st h P = mFr d 46 121 loc (st) h P) := ⟨fun _ _ _ _ _ => (mFr_S mq46 h46_17).trans rfl,
  fun _ _ _ _ _ _ => F_get mq46 h46_18 (Or.inl (rfl : _ = some (20, 0, 6, 1))),
  fun _ _ _ _ _ => (mFr_S mq46 h46_21).trans rfl,
  fun _ _ _ _ _ _ => F_get mq46 h46_22 (Or.inl (rfl : _ = some (40, 0, 6, 3))),
  fun _ _ b a0 _ _ => F_callV (as := [.int a0]) (rest := []) mq46 (Or.inl h46_25) (rfl : _ = some (74, 6, 31, 1)) (Or.inl ⟨h46_25, by decide⟩) (by rfl) (by rfl) (by rfl) (Nat.le_of_ble_eq_true rfl),
  fun _ _ _ _ _ => (mFr_S mq46 h46_28).trans rfl,
  fun _ _ b _ _ => F_callV (as := []) (rest := []) mq46 (Or.inl h46_29) (rfl : _ = some (61, 6, 39, 0)) (Or.inl ⟨h46_29, by decide⟩) (by rfl) (by rfl) (by rfl) (Nat.le_of_ble_eq_true rfl),
  fun _ _ _ _ _ => F_goto 121 mq46 h46_32 (by decide)⟩
theorem E46_35 : (∀ (d : Nat) (x : Nat) (st : List Value) (h : MH) (P : MP), mFr d 46 35 [some (.ref x)] st h P = mFr d 46 36 [some (.ref x)] (.ref x :: st) h P) ∧
  (∀ (d : Nat) (loc : List (Option Value)) (a : Nat) (st : List Value) (h : MH) (P : MP), mFr d 46 36 loc (.ref a :: st) h P = pget h a 6 3 (fun v => mFr d 46 39 loc (v :: st) h P)) ∧
  (∀ (d : Nat) (loc : List (Option Value)) (st : List Value) (h : MH) (P : MP), mFr d 46 39 loc st h P = mFr d 46 41 loc (.int 16 :: st) h P) ∧
  (∀ (d : Nat) (loc : List (Option Value)) (x y : Int32) (st : List Value) (h : MH) (P : MP), mFr d 46 41 loc (.int y :: .int x :: st) h P = if x = y then mFr d 46 44 loc (st) h P else mFr d 46 77 loc (st) h P) := ⟨fun _ _ _ _ _ => (mFr_S mq46 h46_35).trans rfl,
  fun _ _ _ _ _ _ => F_get mq46 h46_36 (Or.inl (rfl : _ = some (40, 0, 6, 3))),
  fun _ _ _ _ _ => (mFr_S mq46 h46_39).trans rfl,
  fun _ _ _ _ _ _ _ => (F_icmp 77 mq46 h46_41 (by decide)).trans mif_ne⟩
theorem E46_44 : (∀ (d : Nat) (x : Nat) (st : List Value) (h : MH) (P : MP), mFr d 46 44 [some (.ref x)] st h P = mFr d 46 45 [some (.ref x)] (.ref x :: st) h P) ∧
  (∀ (d : Nat) (loc : List (Option Value)) (b : Nat) (h : MH) (P : MP), mFr d 46 45 loc (.ref b :: []) h P = if mrcv h b 6 = true then mRun d 47 [.ref b] h (fun v h' => mFr d 46 48 loc (v.toList ++ []) h' P) else False) ∧
  (∀ (d : Nat) (loc : List (Option Value)) (x : Int32) (st : List Value) (h : MH) (P : MP), mFr d 46 48 loc (.int x :: st) h P = if x = 0 then mFr d 46 121 loc (st) h P else mFr d 46 51 loc (st) h P) := ⟨fun _ _ _ _ _ => (mFr_S mq46 h46_44).trans rfl,
  fun _ _ b _ _ => F_callV (as := []) (rest := []) mq46 (Or.inl h46_45) (rfl : _ = some (83, 6, 47, 0)) (Or.inl ⟨h46_45, by decide⟩) (by rfl) (by rfl) (by rfl) (Nat.le_of_ble_eq_true rfl),
  fun _ _ _ _ _ _ => (F_ifz 121 mq46 h46_48 (by decide)).trans mif_eq⟩
theorem E46_51 : (∀ (d : Nat) (x : Nat) (st : List Value) (h : MH) (P : MP), mFr d 46 51 [some (.ref x)] st h P = mFr d 46 52 [some (.ref x)] (.ref x :: st) h P) ∧
  (∀ (d : Nat) (loc : List (Option Value)) (b : Nat) (h : MH) (P : MP), mFr d 46 52 loc (.ref b :: []) h P = if mrcv h b 6 = true then mRun d 46 [.ref b] h (fun v h' => mFr d 46 55 loc (v.toList ++ []) h' P) else False) ∧
  (∀ (d : Nat) (x : Nat) (st : List Value) (h : MH) (P : MP), mFr d 46 55 [some (.ref x)] st h P = mFr d 46 56 [some (.ref x)] (.ref x :: st) h P) ∧
  (∀ (d : Nat) (loc : List (Option Value)) (x : Nat) (st : List Value) (h : MH) (P : MP), mFr d 46 56 loc (.ref x :: st) h P = mFr d 46 57 loc (.ref x :: .ref x :: st) h P) ∧
  (∀ (d : Nat) (loc : List (Option Value)) (a : Nat) (st : List Value) (h : MH) (P : MP), mFr d 46 57 loc (.ref a :: st) h P = pget h a 6 4 (fun v => mFr d 46 60 loc (v :: st) h P)) ∧
  (∀ (d : Nat) (loc : List (Option Value)) (st : List Value) (h : MH) (P : MP), mFr d 46 60 loc st h P = mFr d 46 61 loc (.int 1 :: st) h P) ∧
  (∀ (d : Nat) (loc : List (Option Value)) (x y : Int32) (st : List Value) (h : MH) (P : MP), mFr d 46 61 loc (.int y :: .int x :: st) h P = mFr d 46 62 loc (.int (x - y) :: st) h P) ∧
  (∀ (d : Nat) (loc : List (Option Value)) (a : Nat) (x : Int32) (st : List Value) (h : MH) (P : MP), mFr d 46 62 loc (.int x :: .ref a :: st) h P = pput h a 6 4 (.int x) (fun h' => mFr d 46 65 loc (st) h' P)) ∧
  (∀ (d : Nat) (x : Nat) (st : List Value) (h : MH) (P : MP), mFr d 46 65 [some (.ref x)] st h P = mFr d 46 66 [some (.ref x)] (.ref x :: st) h P) ∧
  (∀ (d : Nat) (loc : List (Option Value)) (a : Nat) (st : List Value) (h : MH) (P : MP), mFr d 46 66 loc (.ref a :: st) h P = pget h a 6 1 (fun v => mFr d 46 69 loc (v :: st) h P)) ∧
  (∀ (d : Nat) (loc : List (Option Value)) (st : List Value) (h : MH) (P : MP), mFr d 46 69 loc st h P = mFr d 46 71 loc (.int 22 :: st) h P) ∧
  (∀ (d : Nat) (loc : List (Option Value)) (b : Nat) (a0 : Int32) (h : MH) (P : MP), mFr d 46 71 loc ((.int a0) :: .ref b :: []) h P = if mrcv h b 5 = true then mRun d 31 [.ref b, .int a0] h (fun v h' => mFr d 46 74 loc (v.toList ++ []) h' P) else False) ∧
  (∀ (d : Nat) (loc : List (Option Value)) (st : List Value) (h : MH) (P : MP), mFr d 46 74 loc st h P = mFr d 46 121 loc (st) h P) := ⟨fun _ _ _ _ _ => (mFr_S mq46 h46_51).trans rfl,
  fun _ _ b _ _ => F_callV (as := []) (rest := []) mq46 (Or.inl h46_52) (rfl : _ = some (80, 6, 46, 0)) (Or.inl ⟨h46_52, by decide⟩) (by rfl) (by rfl) (by rfl) (Nat.le_of_ble_eq_true rfl),
  fun _ _ _ _ _ => (mFr_S mq46 h46_55).trans rfl,
  fun _ _ _ _ _ _ => (mFr_S mq46 h46_56).trans rfl,
  fun _ _ _ _ _ _ => F_get mq46 h46_57 (Or.inl (rfl : _ = some (42, 0, 6, 4))),
  fun _ _ _ _ _ => (mFr_S mq46 h46_60).trans rfl,
  fun _ _ _ _ _ _ _ => (mFr_S mq46 h46_61).trans rfl,
  fun _ _ _ _ _ _ _ => F_put mq46 h46_62 (Or.inl ⟨(rfl : _ = some (42, 0, 6, 4)), Or.inl rfl⟩),
  fun _ _ _ _ _ => (mFr_S mq46 h46_65).trans rfl,
  fun _ _ _ _ _ _ => F_get mq46 h46_66 (Or.inl (rfl : _ = some (20, 0, 6, 1))),
  fun _ _ _ _ _ => (mFr_S mq46 h46_69).trans rfl,
  fun _ _ b a0 _ _ => F_callV (as := [.int a0]) (rest := []) mq46 (Or.inl h46_71) (rfl : _ = some (74, 6, 31, 1)) (Or.inl ⟨h46_71, by decide⟩) (by rfl) (by rfl) (by rfl) (Nat.le_of_ble_eq_true rfl),
  fun _ _ _ _ _ => F_goto 121 mq46 h46_74 (by decide)⟩
theorem E46_77 : (∀ (d : Nat) (x : Nat) (st : List Value) (h : MH) (P : MP), mFr d 46 77 [some (.ref x)] st h P = mFr d 46 78 [some (.ref x)] (.ref x :: st) h P) ∧
  (∀ (d : Nat) (loc : List (Option Value)) (a : Nat) (st : List Value) (h : MH) (P : MP), mFr d 46 78 loc (.ref a :: st) h P = pget h a 6 3 (fun v => mFr d 46 81 loc (v :: st) h P)) ∧
  (∀ (d : Nat) (loc : List (Option Value)) (st : List Value) (h : MH) (P : MP), mFr d 46 81 loc st h P = mFr d 46 83 loc (.int 12 :: st) h P) ∧
  (∀ (d : Nat) (loc : List (Option Value)) (x y : Int32) (st : List Value) (h : MH) (P : MP), mFr d 46 83 loc (.int y :: .int x :: st) h P = if x = y then mFr d 46 86 loc (st) h P else mFr d 46 117 loc (st) h P) := ⟨fun _ _ _ _ _ => (mFr_S mq46 h46_77).trans rfl,
  fun _ _ _ _ _ _ => F_get mq46 h46_78 (Or.inl (rfl : _ = some (40, 0, 6, 3))),
  fun _ _ _ _ _ => (mFr_S mq46 h46_81).trans rfl,
  fun _ _ _ _ _ _ _ => (F_icmp 117 mq46 h46_83 (by decide)).trans mif_ne⟩
theorem E46_86 : (∀ (d : Nat) (x : Nat) (st : List Value) (h : MH) (P : MP), mFr d 46 86 [some (.ref x)] st h P = mFr d 46 87 [some (.ref x)] (.ref x :: st) h P) ∧
  (∀ (d : Nat) (loc : List (Option Value)) (b : Nat) (h : MH) (P : MP), mFr d 46 87 loc (.ref b :: []) h P = if mrcv h b 6 = true then mRun d 47 [.ref b] h (fun v h' => mFr d 46 90 loc (v.toList ++ []) h' P) else False) ∧
  (∀ (d : Nat) (loc : List (Option Value)) (x : Int32) (st : List Value) (h : MH) (P : MP), mFr d 46 90 loc (.int x :: st) h P = if x = 0 then mFr d 46 121 loc (st) h P else mFr d 46 93 loc (st) h P) := ⟨fun _ _ _ _ _ => (mFr_S mq46 h46_86).trans rfl,
  fun _ _ b _ _ => F_callV (as := []) (rest := []) mq46 (Or.inl h46_87) (rfl : _ = some (83, 6, 47, 0)) (Or.inl ⟨h46_87, by decide⟩) (by rfl) (by rfl) (by rfl) (Nat.le_of_ble_eq_true rfl),
  fun _ _ _ _ _ _ => (F_ifz 121 mq46 h46_90 (by decide)).trans mif_eq⟩
theorem E46_93 : (∀ (d : Nat) (x : Nat) (st : List Value) (h : MH) (P : MP), mFr d 46 93 [some (.ref x)] st h P = mFr d 46 94 [some (.ref x)] (.ref x :: st) h P) ∧
  (∀ (d : Nat) (loc : List (Option Value)) (st : List Value) (h : MH) (P : MP), mFr d 46 94 loc st h P = mFr d 46 95 loc (.int 0 :: st) h P) ∧
  (∀ (d : Nat) (loc : List (Option Value)) (b : Nat) (a0 : Int32) (h : MH) (P : MP), mFr d 46 95 loc ((.int a0) :: .ref b :: []) h P = if mrcv h b 6 = true then mRun d 42 [.ref b, .int a0] h (fun v h' => mFr d 46 98 loc (v.toList ++ []) h' P) else False) ∧
  (∀ (d : Nat) (x : Nat) (st : List Value) (h : MH) (P : MP), mFr d 46 98 [some (.ref x)] st h P = mFr d 46 99 [some (.ref x)] (.ref x :: st) h P) ∧
  (∀ (d : Nat) (loc : List (Option Value)) (st : List Value) (h : MH) (P : MP), mFr d 46 99 loc st h P = mFr d 46 101 loc (.int 13 :: st) h P) ∧
  (∀ (d : Nat) (loc : List (Option Value)) (b : Nat) (a0 : Int32) (h : MH) (P : MP), mFr d 46 101 loc ((.int a0) :: .ref b :: []) h P = if mrcv h b 6 = true then mRun d 41 [.ref b, .int a0] h (fun v h' => mFr d 46 104 loc (v.toList ++ []) h' P) else False) ∧
  (∀ (d : Nat) (x : Nat) (st : List Value) (h : MH) (P : MP), mFr d 46 104 [some (.ref x)] st h P = mFr d 46 105 [some (.ref x)] (.ref x :: st) h P) ∧
  (∀ (d : Nat) (loc : List (Option Value)) (x : Nat) (st : List Value) (h : MH) (P : MP), mFr d 46 105 loc (.ref x :: st) h P = mFr d 46 106 loc (.ref x :: .ref x :: st) h P) ∧
  (∀ (d : Nat) (loc : List (Option Value)) (a : Nat) (st : List Value) (h : MH) (P : MP), mFr d 46 106 loc (.ref a :: st) h P = pget h a 6 4 (fun v => mFr d 46 109 loc (v :: st) h P)) ∧
  (∀ (d : Nat) (loc : List (Option Value)) (st : List Value) (h : MH) (P : MP), mFr d 46 109 loc st h P = mFr d 46 110 loc (.int 1 :: st) h P) ∧
  (∀ (d : Nat) (loc : List (Option Value)) (x y : Int32) (st : List Value) (h : MH) (P : MP), mFr d 46 110 loc (.int y :: .int x :: st) h P = mFr d 46 111 loc (.int (x - y) :: st) h P) ∧
  (∀ (d : Nat) (loc : List (Option Value)) (a : Nat) (x : Int32) (st : List Value) (h : MH) (P : MP), mFr d 46 111 loc (.int x :: .ref a :: st) h P = pput h a 6 4 (.int x) (fun h' => mFr d 46 114 loc (st) h' P)) ∧
  (∀ (d : Nat) (loc : List (Option Value)) (st : List Value) (h : MH) (P : MP), mFr d 46 114 loc st h P = mFr d 46 121 loc (st) h P) := ⟨fun _ _ _ _ _ => (mFr_S mq46 h46_93).trans rfl,
  fun _ _ _ _ _ => (mFr_S mq46 h46_94).trans rfl,
  fun _ _ b a0 _ _ => F_callV (as := [.int a0]) (rest := []) mq46 (Or.inl h46_95) (rfl : _ = some (52, 6, 42, 0)) (Or.inl ⟨h46_95, by decide⟩) (by rfl) (by rfl) (by rfl) (Nat.le_of_ble_eq_true rfl),
  fun _ _ _ _ _ => (mFr_S mq46 h46_98).trans rfl,
  fun _ _ _ _ _ => (mFr_S mq46 h46_99).trans rfl,
  fun _ _ b a0 _ _ => F_callV (as := [.int a0]) (rest := []) mq46 (Or.inl h46_101) (rfl : _ = some (48, 6, 41, 0)) (Or.inl ⟨h46_101, by decide⟩) (by rfl) (by rfl) (by rfl) (Nat.le_of_ble_eq_true rfl),
  fun _ _ _ _ _ => (mFr_S mq46 h46_104).trans rfl,
  fun _ _ _ _ _ _ => (mFr_S mq46 h46_105).trans rfl,
  fun _ _ _ _ _ _ => F_get mq46 h46_106 (Or.inl (rfl : _ = some (42, 0, 6, 4))),
  fun _ _ _ _ _ => (mFr_S mq46 h46_109).trans rfl,
  fun _ _ _ _ _ _ _ => (mFr_S mq46 h46_110).trans rfl,
  fun _ _ _ _ _ _ _ => F_put mq46 h46_111 (Or.inl ⟨(rfl : _ = some (42, 0, 6, 4)), Or.inl rfl⟩),
  fun _ _ _ _ _ => F_goto 121 mq46 h46_114 (by decide)⟩
theorem E46_117 : (∀ (d : Nat) (x : Nat) (st : List Value) (h : MH) (P : MP), mFr d 46 117 [some (.ref x)] st h P = mFr d 46 118 [some (.ref x)] (.ref x :: st) h P) ∧
  (∀ (d : Nat) (loc : List (Option Value)) (b : Nat) (h : MH) (P : MP), mFr d 46 118 loc (.ref b :: []) h P = if mrcv h b 6 = true then mRun d 40 [.ref b] h (fun v h' => mFr d 46 121 loc (v.toList ++ []) h' P) else False) := ⟨fun _ _ _ _ _ => (mFr_S mq46 h46_117).trans rfl,
  fun _ _ b _ _ => F_callV (as := []) (rest := []) mq46 (Or.inl h46_118) (rfl : _ = some (64, 6, 40, 0)) (Or.inl ⟨h46_118, by decide⟩) (by rfl) (by rfl) (by rfl) (Nat.le_of_ble_eq_true rfl)⟩
theorem E46_121 : (∀ (d : Nat) (loc : List (Option Value)) (h : MH) (P : MP), mFr d 46 121 loc [] h P = P none h) := fun _ _ _ _ => (mFr_S mq46 h46_121).trans rfl
theorem B46 : ∀ (d : Nat) (b : Nat) (h : MH) (P : MP), mRun (d + 1) 46 [.ref b] h P = mFr d 46 0 [some (.ref b)] [] h P := fun _ _ _ _ => mRun_S mq46 (Nat.le_of_ble_eq_true rfl)
-- 47: PuncturesAreViews$TextReader.opens()Z
def q47 : MI := (yX6_opens, cX6_opens, 1, (some .boolean), 6, 0)
theorem mq47 : mtab[47]? = some q47 := rfl
theorem h47_0 : mfetch q47.2.1 0 = some (.aload_n 0) := by decide +kernel
theorem h47_1 : mfetch q47.2.1 1 = some (.getfield 42) := by decide +kernel
theorem h47_4 : mfetch q47.2.1 4 = some (.iconst 5) := by decide +kernel
theorem h47_5 : mfetch q47.2.1 5 = some (.if_icmp .lt 9) := by decide +kernel
theorem h47_8 : mfetch q47.2.1 8 = some (.aload_n 0) := by decide +kernel
theorem h47_9 : mfetch q47.2.1 9 = some (.invokevirtual 64) := by decide +kernel
theorem h47_12 : mfetch q47.2.1 12 = some (.iconst 0) := by decide +kernel
theorem h47_13 : mfetch q47.2.1 13 = some (.ireturn) := by decide +kernel
theorem h47_14 : mfetch q47.2.1 14 = some (.aload_n 0) := by decide +kernel
theorem h47_15 : mfetch q47.2.1 15 = some (.dup) := by decide +kernel
theorem h47_16 : mfetch q47.2.1 16 = some (.getfield 42) := by decide +kernel
theorem h47_19 : mfetch q47.2.1 19 = some (.iconst 1) := by decide +kernel
theorem h47_20 : mfetch q47.2.1 20 = some (.iadd) := by decide +kernel
theorem h47_21 : mfetch q47.2.1 21 = some (.putfield 42) := by decide +kernel
theorem h47_24 : mfetch q47.2.1 24 = some (.aload_n 0) := by decide +kernel
theorem h47_25 : mfetch q47.2.1 25 = some (.invokevirtual 61) := by decide +kernel
theorem h47_28 : mfetch q47.2.1 28 = some (.iconst 1) := by decide +kernel
theorem h47_29 : mfetch q47.2.1 29 = some (.ireturn) := by decide +kernel
theorem E47_0 : (∀ (d : Nat) (x : Nat) (st : List Value) (h : MH) (P : MP), mFr d 47 0 [some (.ref x)] st h P = mFr d 47 1 [some (.ref x)] (.ref x :: st) h P) ∧
  (∀ (d : Nat) (loc : List (Option Value)) (a : Nat) (st : List Value) (h : MH) (P : MP), mFr d 47 1 loc (.ref a :: st) h P = pget h a 6 4 (fun v => mFr d 47 4 loc (v :: st) h P)) ∧
  (∀ (d : Nat) (loc : List (Option Value)) (st : List Value) (h : MH) (P : MP), mFr d 47 4 loc st h P = mFr d 47 5 loc (.int 5 :: st) h P) ∧
  (∀ (d : Nat) (loc : List (Option Value)) (x y : Int32) (st : List Value) (h : MH) (P : MP), mFr d 47 5 loc (.int y :: .int x :: st) h P = if x < y then mFr d 47 14 loc (st) h P else mFr d 47 8 loc (st) h P) := ⟨fun _ _ _ _ _ => (mFr_S mq47 h47_0).trans rfl,
  fun _ _ _ _ _ _ => F_get mq47 h47_1 (Or.inl (rfl : _ = some (42, 0, 6, 4))),
  fun _ _ _ _ _ => (mFr_S mq47 h47_4).trans rfl,
  fun _ _ _ _ _ _ _ => (F_icmp 14 mq47 h47_5 (by decide)).trans mif_lt⟩
theorem E47_8 : (∀ (d : Nat) (x : Nat) (st : List Value) (h : MH) (P : MP), mFr d 47 8 [some (.ref x)] st h P = mFr d 47 9 [some (.ref x)] (.ref x :: st) h P) ∧
  (∀ (d : Nat) (loc : List (Option Value)) (b : Nat) (h : MH) (P : MP), mFr d 47 9 loc (.ref b :: []) h P = if mrcv h b 6 = true then mRun d 40 [.ref b] h (fun v h' => mFr d 47 12 loc (v.toList ++ []) h' P) else False) ∧
  (∀ (d : Nat) (loc : List (Option Value)) (st : List Value) (h : MH) (P : MP), mFr d 47 12 loc st h P = mFr d 47 13 loc (.int 0 :: st) h P) ∧
  (∀ (d : Nat) (loc : List (Option Value)) (h : MH) (P : MP), mFr d 47 13 loc [.int 0] h P = P (some (.int 0)) h) ∧
  (∀ (d : Nat) (loc : List (Option Value)) (h : MH) (P : MP), mFr d 47 13 loc [.int 1] h P = P (some (.int 1)) h) ∧
  (∀ (d : Nat) (loc : List (Option Value)) (c : Prop) [Decidable c] (h : MH) (P : MP), mFr d 47 13 loc [.int (if c then 1 else 0)] h P = P (some (.int (if c then 1 else 0))) h) := ⟨fun _ _ _ _ _ => (mFr_S mq47 h47_8).trans rfl,
  fun _ _ b _ _ => F_callV (as := []) (rest := []) mq47 (Or.inl h47_9) (rfl : _ = some (64, 6, 40, 0)) (Or.inl ⟨h47_9, by decide⟩) (by rfl) (by rfl) (by rfl) (Nat.le_of_ble_eq_true rfl),
  fun _ _ _ _ _ => (mFr_S mq47 h47_12).trans rfl,
  fun _ _ _ _ => F_ret mq47 h47_13 rfl (by decide),
  fun _ _ _ _ => F_ret mq47 h47_13 rfl (by decide),
  fun _ _ _ _ _ _ => F_ret mq47 h47_13 rfl (by split <;> decide)⟩
theorem E47_14 : (∀ (d : Nat) (x : Nat) (st : List Value) (h : MH) (P : MP), mFr d 47 14 [some (.ref x)] st h P = mFr d 47 15 [some (.ref x)] (.ref x :: st) h P) ∧
  (∀ (d : Nat) (loc : List (Option Value)) (x : Nat) (st : List Value) (h : MH) (P : MP), mFr d 47 15 loc (.ref x :: st) h P = mFr d 47 16 loc (.ref x :: .ref x :: st) h P) ∧
  (∀ (d : Nat) (loc : List (Option Value)) (a : Nat) (st : List Value) (h : MH) (P : MP), mFr d 47 16 loc (.ref a :: st) h P = pget h a 6 4 (fun v => mFr d 47 19 loc (v :: st) h P)) ∧
  (∀ (d : Nat) (loc : List (Option Value)) (st : List Value) (h : MH) (P : MP), mFr d 47 19 loc st h P = mFr d 47 20 loc (.int 1 :: st) h P) ∧
  (∀ (d : Nat) (loc : List (Option Value)) (x y : Int32) (st : List Value) (h : MH) (P : MP), mFr d 47 20 loc (.int y :: .int x :: st) h P = mFr d 47 21 loc (.int (x + y) :: st) h P) ∧
  (∀ (d : Nat) (loc : List (Option Value)) (a : Nat) (x : Int32) (st : List Value) (h : MH) (P : MP), mFr d 47 21 loc (.int x :: .ref a :: st) h P = pput h a 6 4 (.int x) (fun h' => mFr d 47 24 loc (st) h' P)) ∧
  (∀ (d : Nat) (x : Nat) (st : List Value) (h : MH) (P : MP), mFr d 47 24 [some (.ref x)] st h P = mFr d 47 25 [some (.ref x)] (.ref x :: st) h P) ∧
  (∀ (d : Nat) (loc : List (Option Value)) (b : Nat) (h : MH) (P : MP), mFr d 47 25 loc (.ref b :: []) h P = if mrcv h b 6 = true then mRun d 39 [.ref b] h (fun v h' => mFr d 47 28 loc (v.toList ++ []) h' P) else False) ∧
  (∀ (d : Nat) (loc : List (Option Value)) (st : List Value) (h : MH) (P : MP), mFr d 47 28 loc st h P = mFr d 47 29 loc (.int 1 :: st) h P) ∧
  (∀ (d : Nat) (loc : List (Option Value)) (h : MH) (P : MP), mFr d 47 29 loc [.int 0] h P = P (some (.int 0)) h) ∧
  (∀ (d : Nat) (loc : List (Option Value)) (h : MH) (P : MP), mFr d 47 29 loc [.int 1] h P = P (some (.int 1)) h) ∧
  (∀ (d : Nat) (loc : List (Option Value)) (c : Prop) [Decidable c] (h : MH) (P : MP), mFr d 47 29 loc [.int (if c then 1 else 0)] h P = P (some (.int (if c then 1 else 0))) h) := ⟨fun _ _ _ _ _ => (mFr_S mq47 h47_14).trans rfl,
  fun _ _ _ _ _ _ => (mFr_S mq47 h47_15).trans rfl,
  fun _ _ _ _ _ _ => F_get mq47 h47_16 (Or.inl (rfl : _ = some (42, 0, 6, 4))),
  fun _ _ _ _ _ => (mFr_S mq47 h47_19).trans rfl,
  fun _ _ _ _ _ _ _ => (mFr_S mq47 h47_20).trans rfl,
  fun _ _ _ _ _ _ _ => F_put mq47 h47_21 (Or.inl ⟨(rfl : _ = some (42, 0, 6, 4)), Or.inl rfl⟩),
  fun _ _ _ _ _ => (mFr_S mq47 h47_24).trans rfl,
  fun _ _ b _ _ => F_callV (as := []) (rest := []) mq47 (Or.inl h47_25) (rfl : _ = some (61, 6, 39, 0)) (Or.inl ⟨h47_25, by decide⟩) (by rfl) (by rfl) (by rfl) (Nat.le_of_ble_eq_true rfl),
  fun _ _ _ _ _ => (mFr_S mq47 h47_28).trans rfl,
  fun _ _ _ _ => F_ret mq47 h47_29 rfl (by decide),
  fun _ _ _ _ => F_ret mq47 h47_29 rfl (by decide),
  fun _ _ _ _ _ _ => F_ret mq47 h47_29 rfl (by split <;> decide)⟩
theorem B47 : ∀ (d : Nat) (b : Nat) (h : MH) (P : MP), mRun (d + 1) 47 [.ref b] h P = mFr d 47 0 [some (.ref b)] [] h P := fun _ _ _ _ => mRun_S mq47 (Nat.le_of_ble_eq_true rfl)
