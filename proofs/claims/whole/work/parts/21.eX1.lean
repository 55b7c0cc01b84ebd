/-! the instructions as equations: PuncturesAreViews$Rider -/
-- 7: PuncturesAreViews$Rider.<init>()V
def q7 : MI := (yX1_init, cX1_init, 1, none, 1, 0)
theorem mq7 : mtab[7]? = some q7 := rfl
theorem h7_0 : mfetch q7.2.1 0 = some (.aload_n 0) := by decide +kernel
theorem h7_1 : mfetch q7.2.1 1 = some (.invokespecial 3) := by decide +kernel
theorem h7_4 : mfetch q7.2.1 4 = some (.return_) := by decide +kernel
theorem E7_0 : (∀ (d : Nat) (x : Nat) (st : List Value) (h : MH) (P : MP), mFr d 7 0 [some (.ref x)] st h P = mFr d 7 1 [some (.ref x)] (.ref x :: st) h P) ∧
  (∀ (d : Nat) (loc : List (Option Value)) (a : Nat) (h : MH) (P : MP), mFr d 7 1 loc [.ref a] h P = if a < 900 then mFr d 7 4 loc ([]) h P else False) ∧
  (∀ (d : Nat) (loc : List (Option Value)) (h : MH) (P : MP), mFr d 7 4 loc [] h P = P none h) := ⟨fun _ _ _ _ _ => (mFr_S mq7 h7_0).trans rfl,
  fun _ _ _ _ _ => F_obj mq7 h7_1 (rfl : _ = some (3, 7, 0, 0)) (Nat.zero_le _),
  fun _ _ _ _ => (mFr_S mq7 h7_4).trans rfl⟩
theorem B7 : ∀ (d : Nat) (b : Nat) (h : MH) (P : MP), mRun (d + 1) 7 [.ref b] h P = mFr d 7 0 [some (.ref b)] [] h P := fun _ _ _ _ => mRun_S mq7 (Nat.le_of_ble_eq_true rfl)
-- 8: PuncturesAreViews$Rider.come(III)V
def q8 : MI := (yX1_come, cX1_come, 4, none, 1, 3)
theorem mq8 : mtab[8]? = some q8 := rfl
theorem h8_0 : mfetch q8.2.1 0 = some (.aload_n 0) := by decide +kernel
theorem h8_1 : mfetch q8.2.1 1 = some (.iload_n 1) := by decide +kernel
theorem h8_2 : mfetch q8.2.1 2 = some (.putfield 9) := by decide +kernel
theorem h8_5 : mfetch q8.2.1 5 = some (.aload_n 0) := by decide +kernel
theorem h8_6 : mfetch q8.2.1 6 = some (.iload_n 2) := by decide +kernel
theorem h8_7 : mfetch q8.2.1 7 = some (.putfield 15) := by decide +kernel
theorem h8_10 : mfetch q8.2.1 10 = some (.aload_n 0) := by decide +kernel
theorem h8_11 : mfetch q8.2.1 11 = some (.iload_n 3) := by decide +kernel
theorem h8_12 : mfetch q8.2.1 12 = some (.putfield 18) := by decide +kernel
theorem h8_15 : mfetch q8.2.1 15 = some (.aload_n 0) := by decide +kernel
theorem h8_16 : mfetch q8.2.1 16 = some (.iconst 0) := by decide +kernel
theorem h8_17 : mfetch q8.2.1 17 = some (.putfield 21) := by decide +kernel
theorem h8_20 : mfetch q8.2.1 20 = some (.aload_n 0) := by decide +kernel
theorem h8_21 : mfetch q8.2.1 21 = some (.bipush 99) := by decide +kernel
theorem h8_23 : mfetch q8.2.1 23 = some (.putfield 24) := by decide +kernel
theorem h8_26 : mfetch q8.2.1 26 = some (.aload_n 0) := by decide +kernel
theorem h8_27 : mfetch q8.2.1 27 = some (.iconst 0) := by decide +kernel
theorem h8_28 : mfetch q8.2.1 28 = some (.putfield 27) := by decide +kernel
theorem h8_31 : mfetch q8.2.1 31 = some (.return_) := by decide +kernel
theorem E8_0 : (∀ (d : Nat) (l1 : Option Value) (l2 : Option Value) (l3 : Option Value) (x : Nat) (st : List Value) (h : MH) (P : MP), mFr d 8 0 [some (.ref x), l1, l2, l3] st h P = mFr d 8 1 [some (.ref x), l1, l2, l3] (.ref x :: st) h P) ∧
  (∀ (d : Nat) (l0 : Option Value) (l2 : Option Value) (l3 : Option Value) (x : Int32) (st : List Value) (h : MH) (P : MP), mFr d 8 1 [l0, some (.int x), l2, l3] st h P = mFr d 8 2 [l0, some (.int x), l2, l3] (.int x :: st) h P) ∧
  (∀ (d : Nat) (loc : List (Option Value)) (a : Nat) (x : Int32) (st : List Value) (h : MH) (P : MP), mFr d 8 2 loc (.int x :: .ref a :: st) h P = pput h a 1 0 (.int x) (fun h' => mFr d 8 5 loc (st) h' P)) ∧
  (∀ (d : Nat) (l1 : Option Value) (l2 : Option Value) (l3 : Option Value) (x : Nat) (st : List Value) (h : MH) (P : MP), mFr d 8 5 [some (.ref x), l1, l2, l3] st h P = mFr d 8 6 [some (.ref x), l1, l2, l3] (.ref x :: st) h P) ∧
  (∀ (d : Nat) (l0 : Option Value) (l1 : Option Value) (l3 : Option Value) (x : Int32) (st : List Value) (h : MH) (P : MP), mFr d 8 6 [l0, l1, some (.int x), l3] st h P = mFr d 8 7 [l0, l1, some (.int x), l3] (.int x :: st) h P) ∧
  (∀ (d : Nat) (loc : List (Option Value)) (a : Nat) (x : Int32) (st : List Value) (h : MH) (P : MP), mFr d 8 7 loc (.int x :: .ref a :: st) h P = pput h a 1 1 (.int x) (fun h' => mFr d 8 10 loc (st) h' P)) ∧
  (∀ (d : Nat) (l1 : Option Value) (l2 : Option Value) (l3 : Option Value) (x : Nat) (st : List Value) (h : MH) (P : MP), mFr d 8 10 [some (.ref x), l1, l2, l3] st h P = mFr d 8 11 [some (.ref x), l1, l2, l3] (.ref x :: st) h P) ∧
  (∀ (d : Nat) (l0 : Option Value) (l1 : Option Value) (l2 : Option Value) (x : Int32) (st : List Value) (h : MH) (P : MP), mFr d 8 11 [l0, l1, l2, some (.int x)] st h P = mFr d 8 12 [l0, l1, l2, some (.int x)] (.int x :: st) h P) ∧
  (∀ (d : Nat) (loc : List (Option Value)) (a : Nat) (x : Int32) (st : List Value) (h : MH) (P : MP), mFr d 8 12 loc (.int x :: .ref a :: st) h P = pput h a 1 2 (.int x) (fun h' => mFr d 8 15 loc (st) h' P)) ∧
  (∀ (d : Nat) (l1 : Option Value) (l2 : Option Value) (l3 : Option Value) (x : Nat) (st : List Value) (h : MH) (P : MP), mFr d 8 15 [some (.ref x), l1, l2, l3] st h P = mFr d 8 16 [some (.ref x), l1, l2, l3] (.ref x :: st) h P) ∧
  (∀ (d : Nat) (loc : List (Option Value)) (st : List Value) (h : MH) (P : MP), mFr d 8 16 loc st h P = mFr d 8 17 loc (.int 0 :: st) h P) ∧
  (∀ (d : Nat) (loc : List (Option Value)) (a : Nat) (x : Int32) (st : List Value) (h : MH) (P : MP), mFr d 8 17 loc (.int x :: .ref a :: st) h P = pput h a 1 3 (.int x) (fun h' => mFr d 8 20 loc (st) h' P)) ∧
  (∀ (d : Nat) (l1 : Option Value) (l2 : Option Value) (l3 : Option Value) (x : Nat) (st : List Value) (h : MH) (P : MP), mFr d 8 20 [some (.ref x), l1, l2, l3] st h P = mFr d 8 21 [some (.ref x), l1, l2, l3] (.ref x :: st) h P) ∧
  (∀ (d : Nat) (loc : List (Option Value)) (st : List Value) (h : MH) (P : MP), mFr d 8 21 loc st h P = mFr d 8 23 loc (.int 99 :: st) h P) ∧
  (∀ (d : Nat) (loc : List (Option Value)) (a : Nat) (x : Int32) (st : List Value) (h : MH) (P : MP), mFr d 8 23 loc (.int x :: .ref a :: st) h P = pput h a 1 4 (.int x) (fun h' => mFr d 8 26 loc (st) h' P)) ∧
  (∀ (d : Nat) (l1 : Option Value) (l2 : Option Value) (l3 : Option Value) (x : Nat) (st : List Value) (h : MH) (P : MP), mFr d 8 26 [some (.ref x), l1, l2, l3] st h P = mFr d 8 27 [some (.ref x), l1, l2, l3] (.ref x :: st) h P) ∧
  (∀ (d : Nat) (loc : List (Option Value)) (st : List Value) (h : MH) (P : MP), mFr d 8 27 loc st h P = mFr d 8 28 loc (.int 0 :: st) h P) ∧
  (∀ (d : Nat) (loc : List (Option Value)) (a : Nat) (x : Int32) (st : List Value) (h : MH) (P : MP), mFr d 8 28 loc (.int x :: .ref a :: st) h P = pput h a 1 5 (.int x) (fun h' => mFr d 8 31 loc (st) h' P)) ∧
  (∀ (d : Nat) (loc : List (Option Value)) (h : MH) (P : MP), mFr d 8 31 loc [] h P = P none h) := ⟨fun _ _ _ _ _ _ _ _ => (mFr_S mq8 h8_0).trans rfl,
  fun _ _ _ _ _ _ _ _ => (mFr_S mq8 h8_1).trans rfl,
  fun _ _ _ _ _ _ _ => F_put mq8 h8_2 (Or.inl ⟨(rfl : _ = some (9, 0, 1, 0)), Or.inl rfl⟩),
  fun _ _ _ _ _ _ _ _ => (mFr_S mq8 h8_5).trans rfl,
  fun _ _ _ _ _ _ _ _ => (mFr_S mq8 h8_6).trans rfl,
  fun _ _ _ _ _ _ _ => F_put mq8 h8_7 (Or.inl ⟨(rfl : _ = some (15, 0, 1, 1)), Or.inl rfl⟩),
  fun _ _ _ _ _ _ _ _ => (mFr_S mq8 h8_10).trans rfl,
  fun _ _ _ _ _ _ _ _ => (mFr_S mq8 h8_11).trans rfl,
  fun _ _ _ _ _ _ _ => F_put mq8 h8_12 (Or.inl ⟨(rfl : _ = some (18, 0, 1, 2)), Or.inl rfl⟩),
  fun _ _ _ _ _ _ _ _ => (mFr_S mq8 h8_15).trans rfl,
  fun _ _ _ _ _ => (mFr_S mq8 h8_16).trans rfl,
  fun _ _ _ _ _ _ _ => F_put mq8 h8_17 (Or.inl ⟨(rfl : _ = some (21, 0, 1, 3)), Or.inl rfl⟩),
  fun _ _ _ _ _ _ _ _ => (mFr_S mq8 h8_20).trans rfl,
  fun _ _ _ _ _ => (mFr_S mq8 h8_21).trans rfl,
  fun _ _ _ _ _ _ _ => F_put mq8 h8_23 (Or.inl ⟨(rfl : _ = some (24, 0, 1, 4)), Or.inl rfl⟩),
  fun _ _ _ _ _ _ _ _ => (mFr_S mq8 h8_26).trans rfl,
  fun _ _ _ _ _ => (mFr_S mq8 h8_27).trans rfl,
  fun _ _ _ _ _ _ _ => F_put mq8 h8_28 (Or.inl ⟨(rfl : _ = some (27, 0, 1, 5)), Or.inl rfl⟩),
  fun _ _ _ _ => (mFr_S mq8 h8_31).trans rfl⟩
theorem B8 : ∀ (d : Nat) (b : Nat) (a0 : Int32) (a1 : Int32) (a2 : Int32) (h : MH) (P : MP), mRun (d + 1) 8 [.ref b, .int a0, .int a1, .int a2] h P = mFr d 8 0 [some (.ref b), some (.int a0), some (.int a1), some (.int a2)] [] h P := fun _ _ _ _ _ _ _ => mRun_S mq8 (Nat.le_of_ble_eq_true rfl)
-- 9: PuncturesAreViews$Rider.become(LPuncturesAreViews$Rider;)V
def q9 : MI := (yX1_become, cX1_become, 2, none, 1, 1)
theorem mq9 : mtab[9]? = some q9 := rfl
theorem h9_0 : mfetch q9.2.1 0 = some (.aload_n 0) := by decide +kernel
theorem h9_1 : mfetch q9.2.1 1 = some (.aload_n 1) := by decide +kernel
theorem h9_2 : mfetch q9.2.1 2 = some (.getfield 9) := by decide +kernel
theorem h9_5 : mfetch q9.2.1 5 = some (.putfield 9) := by decide +kernel
theorem h9_8 : mfetch q9.2.1 8 = some (.aload_n 0) := by decide +kernel
theorem h9_9 : mfetch q9.2.1 9 = some (.aload_n 1) := by decide +kernel
theorem h9_10 : mfetch q9.2.1 10 = some (.getfield 15) := by decide +kernel
theorem h9_13 : mfetch q9.2.1 13 = some (.putfield 15) := by decide +kernel
theorem h9_16 : mfetch q9.2.1 16 = some (.aload_n 0) := by decide +kernel
theorem h9_17 : mfetch q9.2.1 17 = some (.aload_n 1) := by decide +kernel
theorem h9_18 : mfetch q9.2.1 18 = some (.getfield 18) := by decide +kernel
theorem h9_21 : mfetch q9.2.1 21 = some (.putfield 18) := by decide +kernel
theorem h9_24 : mfetch q9.2.1 24 = some (.aload_n 0) := by decide +kernel
theorem h9_25 : mfetch q9.2.1 25 = some (.aload_n 1) := by decide +kernel
theorem h9_26 : mfetch q9.2.1 26 = some (.getfield 21) := by decide +kernel
theorem h9_29 : mfetch q9.2.1 29 = some (.putfield 21) := by decide +kernel
theorem h9_32 : mfetch q9.2.1 32 = some (.aload_n 0) := by decide +kernel
theorem h9_33 : mfetch q9.2.1 33 = some (.aload_n 1) := by decide +kernel
theorem h9_34 : mfetch q9.2.1 34 = some (.getfield 24) := by decide +kernel
theorem h9_37 : mfetch q9.2.1 37 = some (.putfield 24) := by decide +kernel
theorem h9_40 : mfetch q9.2.1 40 = some (.aload_n 0) := by decide +kernel
theorem h9_41 : mfetch q9.2.1 41 = some (.aload_n 1) := by decide +kernel
theorem h9_42 : mfetch q9.2.1 42 = some (.getfield 27) := by decide +kernel
theorem h9_45 : mfetch q9.2.1 45 = some (.putfield 27) := by decide +kernel
theorem h9_48 : mfetch q9.2.1 48 = some (.return_) := by decide +kernel
theorem E9_0 : (∀ (d : Nat) (l1 : Option Value) (x : Nat) (st : List Value) (h : MH) (P : MP), mFr d 9 0 [some (.ref x), l1] st h P = mFr d 9 1 [some (.ref x), l1] (.ref x :: st) h P) ∧
  (∀ (d : Nat) (l0 : Option Value) (x : Nat) (st : List Value) (h : MH) (P : MP), mFr d 9 1 [l0, some (.ref x)] st h P = mFr d 9 2 [l0, some (.ref x)] (.ref x :: st) h P) ∧
  (∀ (d : Nat) (l0 : Option Value) (st : List Value) (h : MH) (P : MP), mFr d 9 1 [l0, some .null] st h P = mFr d 9 2 [l0, some .null] (.null :: st) h P) ∧
  (∀ (d : Nat) (loc : List (Option Value)) (a : Nat) (st : List Value) (h : MH) (P : MP), mFr d 9 2 loc (.ref a :: st) h P = pget h a 1 0 (fun v => mFr d 9 5 loc (v :: st) h P)) ∧
  (∀ (d : Nat) (loc : List (Option Value)) (a : Nat) (x : Int32) (st : List Value) (h : MH) (P : MP), mFr d 9 5 loc (.int x :: .ref a :: st) h P = pput h a 1 0 (.int x) (fun h' => mFr d 9 8 loc (st) h' P)) ∧
  (∀ (d : Nat) (l1 : Option Value) (x : Nat) (st : List Value) (h : MH) (P : MP), mFr d 9 8 [some (.ref x), l1] st h P = mFr d 9 9 [some (.ref x), l1] (.ref x :: st) h P) ∧
  (∀ (d : Nat) (l0 : Option Value) (x : Nat) (st : List Value) (h : MH) (P : MP), mFr d 9 9 [l0, some (.ref x)] st h P = mFr d 9 10 [l0, some (.ref x)] (.ref x :: st) h P) ∧
  (∀ (d : Nat) (l0 : Option Value) (st : List Value) (h : MH) (P : MP), mFr d 9 9 [l0, some .null] st h P = mFr d 9 10 [l0, some .null] (.null :: st) h P) ∧
  (∀ (d : Nat) (loc : List (Option Value)) (a : Nat) (st : List Value) (h : MH) (P : MP), mFr d 9 10 loc (.ref a :: st) h P = pget h a 1 1 (fun v => mFr d 9 13 loc (v :: st) h P)) ∧
  (∀ (d : Nat) (loc : List (Option Value)) (a : Nat) (x : Int32) (st : List Value) (h : MH) (P : MP), mFr d 9 13 loc (.int x :: .ref a :: st) h P = pput h a 1 1 (.int x) (fun h' => mFr d 9 16 loc (st) h' P)) ∧
  (∀ (d : Nat) (l1 : Option Value) (x : Nat) (st : List Value) (h : MH) (P : MP), mFr d 9 16 [some (.ref x), l1] st h P = mFr d 9 17 [some (.ref x), l1] (.ref x :: st) h P) ∧
  (∀ (d : Nat) (l0 : Option Value) (x : Nat) (st : List Value) (h : MH) (P : MP), mFr d 9 17 [l0, some (.ref x)] st h P = mFr d 9 18 [l0, some (.ref x)] (.ref x :: st) h P) ∧
  (∀ (d : Nat) (l0 : Option Value) (st : List Value) (h : MH) (P : MP), mFr d 9 17 [l0, some .null] st h P = mFr d 9 18 [l0, some .null] (.null :: st) h P) ∧
  (∀ (d : Nat) (loc : List (Option Value)) (a : Nat) (st : List Value) (h : MH) (P : MP), mFr d 9 18 loc (.ref a :: st) h P = pget h a 1 2 (fun v => mFr d 9 21 loc (v :: st) h P)) ∧
  (∀ (d : Nat) (loc : List (Option Value)) (a : Nat) (x : Int32) (st : List Value) (h : MH) (P : MP), mFr d 9 21 loc (.int x :: .ref a :: st) h P = pput h a 1 2 (.int x) (fun h' => mFr d 9 24 loc (st) h' P)) ∧
  (∀ (d : Nat) (l1 : Option Value) (x : Nat) (st : List Value) (h : MH) (P : MP), mFr d 9 24 [some (.ref x), l1] st h P = mFr d 9 25 [some (.ref x), l1] (.ref x :: st) h P) ∧
  (∀ (d : Nat) (l0 : Option Value) (x : Nat) (st : List Value) (h : MH) (P : MP), mFr d 9 25 [l0, some (.ref x)] st h P = mFr d 9 26 [l0, some (.ref x)] (.ref x :: st) h P) ∧
  (∀ (d : Nat) (l0 : Option Value) (st : List Value) (h : MH) (P : MP), mFr d 9 25 [l0, some .null] st h P = mFr d 9 26 [l0, some .null] (.null :: st) h P) ∧
  (∀ (d : Nat) (loc : List (Option Value)) (a : Nat) (st : List Value) (h : MH) (P : MP), mFr d 9 26 loc (.ref a :: st) h P = pget h a 1 3 (fun v => mFr d 9 29 loc (v :: st) h P)) ∧
  (∀ (d : Nat) (loc : List (Option Value)) (a : Nat) (x : Int32) (st : List Value) (h : MH) (P : MP), mFr d 9 29 loc (.int x :: .ref a :: st) h P = pput h a 1 3 (.int x) (fun h' => mFr d 9 32 loc (st) h' P)) ∧
  (∀ (d : Nat) (l1 : Option Value) (x : Nat) (st : List Value) (h : MH) (P : MP), mFr d 9 32 [some (.ref x), l1] st h P = mFr d 9 33 [some (.ref x), l1] (.ref x :: st) h P) ∧
  (∀ (d : Nat) (l0 : Option Value) (x : Nat) (st : List Value) (h : MH) (P : MP), mFr d 9 33 [l0, some (.ref x)] st h P = mFr d 9 34 [l0, some (.ref x)] (.ref x :: st) h P) ∧
  (∀ (d : Nat) (l0 : Option Value) (st : List Value) (h : MH) (P : MP), mFr d 9 33 [l0, some .null] st h P = mFr d 9 34 [l0, some .null] (.null :: st) h P) ∧
  (∀ (d : Nat) (loc : List (Option Value)) (a : Nat) (st : List Value) (h : MH) (P : MP), mFr d 9 34 loc (.ref a :: st) h P = pget h a 1 4 (fun v => mFr d 9 37 loc (v :: st) h P)) ∧
  (∀ (d : Nat) (loc : List (Option Value)) (a : Nat) (x : Int32) (st : List Value) (h : MH) (P : MP), mFr d 9 37 loc (.int x :: .ref a :: st) h P = pput h a 1 4 (.int x) (fun h' => mFr d 9 40 loc (st) h' P)) ∧
  (∀ (d : Nat) (l1 : Option Value) (x : Nat) (st : List Value) (h : MH) (P : MP), mFr d 9 40 [some (.ref x), l1] st h P = mFr d 9 41 [some (.ref x), l1] (.ref x :: st) h P) ∧
  (∀ (d : Nat) (l0 : Option Value) (x : Nat) (st : List Value) (h : MH) (P : MP), mFr d 9 41 [l0, some (.ref x)] st h P = mFr d 9 42 [l0, some (.ref x)] (.ref x :: st) h P) ∧
  (∀ (d : Nat) (l0 : Option Value) (st : List Value) (h : MH) (P : MP), mFr d 9 41 [l0, some .null] st h P = mFr d 9 42 [l0, some .null] (.null :: st) h P) ∧
  (∀ (d : Nat) (loc : List (Option Value)) (a : Nat) (st : List Value) (h : MH) (P : MP), mFr d 9 42 loc (.ref a :: st) h P = pget h a 1 5 (fun v => mFr d 9 45 loc (v :: st) h P)) ∧
  (∀ (d : Nat) (loc : List (Option Value)) (a : Nat) (x : Int32) (st : List Value) (h : MH) (P : MP), mFr d 9 45 loc (.int x :: .ref a :: st) h P = pput h a 1 5 (.int x) (fun h' => mFr d 9 48 loc (st) h' P)) ∧
  (∀ (d : Nat) (loc : List (Option Value)) (h : MH) (P : MP), mFr d 9 48 loc [] h P = P none h) := ⟨fun _ _ _ _ _ _ => (mFr_S mq9 h9_0).trans rfl,
  fun _ _ _ _ _ _ => (mFr_S mq9 h9_1).trans rfl,
  fun _ _ _ _ _ => (mFr_S mq9 h9_1).trans rfl,
  fun _ _ _ _ _ _ => F_get mq9 h9_2 (Or.inl (rfl : _ = some (9, 0, 1, 0))),
  fun _ _ _ _ _ _ _ => F_put mq9 h9_5 (Or.inl ⟨(rfl : _ = some (9, 0, 1, 0)), Or.inl rfl⟩),
  fun _ _ _ _ _ _ => (mFr_S mq9 h9_8).trans rfl,
  fun _ _ _ _ _ _ => (mFr_S mq9 h9_9).trans rfl,
  fun _ _ _ _ _ => (mFr_S mq9 h9_9).trans rfl,
  fun _ _ _ _ _ _ => F_get mq9 h9_10 (Or.inl (rfl : _ = some (15, 0, 1, 1))),
  fun _ _ _ _ _ _ _ => F_put mq9 h9_13 (Or.inl ⟨(rfl : _ = some (15, 0, 1, 1)), Or.inl rfl⟩),
  fun _ _ _ _ _ _ => (mFr_S mq9 h9_16).trans rfl,
  fun _ _ _ _ _ _ => (mFr_S mq9 h9_17).trans rfl,
  fun _ _ _ _ _ => (mFr_S mq9 h9_17).trans rfl,
  fun _ _ _ _ _ _ => F_get mq9 h9_18 (Or.inl (rfl : _ = some (18, 0, 1, 2))),
  fun _ _ _ _ _ _ _ => F_put mq9 h9_21 (Or.inl ⟨(rfl : _ = some (18, 0, 1, 2)), Or.inl rfl⟩),
  fun _ _ _ _ _ _ => (mFr_S mq9 h9_24).trans rfl,
  fun _ _ _ _ _ _ => (mFr_S mq9 h9_25).trans rfl,
  fun _ _ _ _ _ => (mFr_S mq9 h9_25).trans rfl,
  fun _ _ _ _ _ _ => F_get mq9 h9_26 (Or.inl (rfl : _ = some (21, 0, 1, 3))),
  fun _ _ _ _ _ _ _ => F_put mq9 h9_29 (Or.inl ⟨(rfl : _ = some (21, 0, 1, 3)), Or.inl rfl⟩),
  fun _ _ _ _ _ _ => (mFr_S mq9 h9_32).trans rfl,
  fun _ _ _ _ _ _ => (mFr_S mq9 h9_33).trans rfl,
  fun _ _ _ _ _ => (mFr_S mq9 h9_33).trans rfl,
  fun _ _ _ _ _ _ => F_get mq9 h9_34 (Or.inl (rfl : _ = some (24, 0, 1, 4))),
  fun _ _ _ _ _ _ _ => F_put mq9 h9_37 (Or.inl ⟨(rfl : _ = some (24, 0, 1, 4)), Or.inl rfl⟩),
  fun _ _ _ _ _ _ => (mFr_S mq9 h9_40).trans rfl,
  fun _ _ _ _ _ _ => (mFr_S mq9 h9_41).trans rfl,
  fun _ _ _ _ _ => (mFr_S mq9 h9_41).trans rfl,
  fun _ _ _ _ _ _ => F_get mq9 h9_42 (Or.inl (rfl : _ = some (27, 0, 1, 5))),
  fun _ _ _ _ _ _ _ => F_put mq9 h9_45 (Or.inl ⟨(rfl : _ = some (27, 0, 1, 5)), Or.inl rfl⟩),
  fun _ _ _ _ => (mFr_S mq9 h9_48).trans rfl⟩
theorem B9 : ∀ (d : Nat) (b : Nat) (a0 : Nat) (h : MH) (P : MP), mRun (d + 1) 9 [.ref b, .ref a0] h P = mFr d 9 0 [some (.ref b), some (.ref a0)] [] h P := fun _ _ _ _ _ => mRun_S mq9 (Nat.le_of_ble_eq_true rfl)
-- 10: PuncturesAreViews$Rider.isHome()Z
def q10 : MI := (yX1_isHome, cX1_isHome, 1, (some .boolean), 1, 0)
theorem mq10 : mtab[10]? = some q10 := rfl
theorem h10_0 : mfetch q10.2.1 0 = some (.aload_n 0) := by decide +kernel
theorem h10_1 : mfetch q10.2.1 1 = some (.getfield 21) := by decide +kernel
theorem h10_4 : mfetch q10.2.1 4 = some (.bipush 23) := by decide +kernel
theorem h10_6 : mfetch q10.2.1 6 = some (.if_icmp .lt 7) := by decide +kernel
theorem h10_9 : mfetch q10.2.1 9 = some (.iconst 1) := by decide +kernel
theorem h10_10 : mfetch q10.2.1 10 = some (.goto 4) := by decide +kernel
theorem h10_13 : mfetch q10.2.1 13 = some (.iconst 0) := by decide +kernel
theorem h10_14 : mfetch q10.2.1 14 = some (.ireturn) := by decide +kernel
theorem E10_0 : (∀ (d : Nat) (x : Nat) (st : List Value) (h : MH) (P : MP), mFr d 10 0 [some (.ref x)] st h P = mFr d 10 1 [some (.ref x)] (.ref x :: st) h P) ∧
  (∀ (d : Nat) (loc : List (Option Value)) (a : Nat) (st : List Value) (h : MH) (P : MP), mFr d 10 1 loc (.ref a :: st) h P = pget h a 1 3 (fun v => mFr d 10 4 loc (v :: st) h P)) ∧
  (∀ (d : Nat) (loc : List (Option Value)) (st : List Value) (h : MH) (P : MP), mFr d 10 4 loc st h P = mFr d 10 6 loc (.int 23 :: st) h P) ∧
  (∀ (d : Nat) (loc : List (Option Value)) (x y : Int32) (st : List Value) (h : MH) (P : MP), mFr d 10 6 loc (.int y :: .int x :: st) h P = if x < y then mFr d 10 13 loc (st) h P else mFr d 10 9 loc (st) h P) := ⟨fun _ _ _ _ _ => (mFr_S mq10 h10_0).trans rfl,
  fun _ _ _ _ _ _ => F_get mq10 h10_1 (Or.inl (rfl : _ = some (21, 0, 1, 3))),
  fun _ _ _ _ _ => (mFr_S mq10 h10_4).trans rfl,
  fun _ _ _ _ _ _ _ => (F_icmp 13 mq10 h10_6 (by decide)).trans mif_lt⟩
theorem E10_9 : (∀ (d : Nat) (loc : List (Option Value)) (st : List Value) (h : MH) (P : MP), mFr d 10 9 loc st h P = mFr d 10 10 loc (.int 1 :: st) h P) ∧
  (∀ (d : Nat) (loc : List (Option Value)) (st : List Value) (h : MH) (P : MP), mFr d 10 10 loc st h P = mFr d 10 14 loc (st) h P) := ⟨fun _ _ _ _ _ => (mFr_S mq10 h10_9).trans rfl,
  fun _ _ _ _ _ => F_goto 14 mq10 h10_10 (by decide)⟩
theorem E10_13 : (∀ (d : Nat) (loc : List (Option Value)) (st : List Value) (h : MH) (P : MP), mFr d 10 13 loc st h P = mFr d 10 14 loc (.int 0 :: st) h P) := fun _ _ _ _ _ => (mFr_S mq10 h10_13).trans rfl
theorem E10_14 : (∀ (d : Nat) (loc : List (Option Value)) (h : MH) (P : MP), mFr d 10 14 loc [.int 0] h P = P (some (.int 0)) h) ∧
  (∀ (d : Nat) (loc : List (Option Value)) (h : MH) (P : MP), mFr d 10 14 loc [.int 1] h P = P (some (.int 1)) h) ∧
  (∀ (d : Nat) (loc : List (Option Value)) (c : Prop) [Decidable c] (h : MH) (P : MP), mFr d 10 14 loc [.int (if c then 1 else 0)] h P = P (some (.int (if c then 1 else 0))) h) := ⟨fun _ _ _ _ => F_ret mq10 h10_14 rfl (by decide),
  fun _ _ _ _ => F_ret mq10 h10_14 rfl (by decide),
  fun _ _ _ _ _ _ => F_ret mq10 h10_14 rfl (by split <;> decide)⟩
theorem B10 : ∀ (d : Nat) (b : Nat) (h : MH) (P : MP), mRun (d + 1) 10 [.ref b] h P = mFr d 10 0 [some (.ref b)] [] h P := fun _ _ _ _ => mRun_S mq10 (Nat.le_of_ble_eq_true rfl)
-- 11: PuncturesAreViews$Rider.goOn(LPuncturesAreViews$Road;)I
def q11 : MI := (yX1_goOn, cX1_goOn, 4, (some .int), 1, 1)
theorem mq11 : mtab[11]? = some q11 := rfl
theorem h11_0 : mfetch q11.2.1 0 = some (.aload_n 0) := by decide +kernel
theorem h11_1 : mfetch q11.2.1 1 = some (.invokevirtual 30) := by decide +kernel
theorem h11_4 : mfetch q11.2.1 4 = some (.ifCond .eq 5) := by decide +kernel
theorem h11_7 : mfetch q11.2.1 7 = some (.iconst 0) := by decide +kernel
theorem h11_8 : mfetch q11.2.1 8 = some (.ireturn) := by decide +kernel
theorem h11_9 : mfetch q11.2.1 9 = some (.aload_n 0) := by decide +kernel
theorem h11_10 : mfetch q11.2.1 10 = some (.getfield 24) := by decide +kernel
theorem h11_13 : mfetch q11.2.1 13 = some (.ifCond .ne 22) := by decide +kernel
theorem h11_16 : mfetch q11.2.1 16 = some (.aload_n 0) := by decide +kernel
theorem h11_17 : mfetch q11.2.1 17 = some (.getfield 18) := by decide +kernel
theorem h11_20 : mfetch q11.2.1 20 = some (.ifCond .ne 15) := by decide +kernel
theorem h11_23 : mfetch q11.2.1 23 = some (.aload_n 0) := by decide +kernel
theorem h11_24 : mfetch q11.2.1 24 = some (.dup) := by decide +kernel
theorem h11_25 : mfetch q11.2.1 25 = some (.getfield 21) := by decide +kernel
theorem h11_28 : mfetch q11.2.1 28 = some (.iconst 1) := by decide +kernel
theorem h11_29 : mfetch q11.2.1 29 = some (.iadd) := by decide +kernel
theorem h11_30 : mfetch q11.2.1 30 = some (.putfield 21) := by decide +kernel
theorem h11_33 : mfetch q11.2.1 33 = some (.iconst 1) := by decide +kernel
theorem h11_34 : mfetch q11.2.1 34 = some (.ireturn) := by decide +kernel
theorem h11_35 : mfetch q11.2.1 35 = some (.aload_n 0) := by decide +kernel
theorem h11_36 : mfetch q11.2.1 36 = some (.getfield 24) := by decide +kernel
theorem h11_39 : mfetch q11.2.1 39 = some (.ifCond .ne 24) := by decide +kernel
theorem h11_42 : mfetch q11.2.1 42 = some (.aload_n 0) := by decide +kernel
theorem h11_43 : mfetch q11.2.1 43 = some (.aload_n 0) := by decide +kernel
theorem h11_44 : mfetch q11.2.1 44 = some (.aload_n 1) := by decide +kernel
theorem h11_45 : mfetch q11.2.1 45 = some (.invokevirtual 34) := by decide +kernel
theorem h11_48 : mfetch q11.2.1 48 = some (.putfield 24) := by decide +kernel
theorem h11_51 : mfetch q11.2.1 51 = some (.aload_n 0) := by decide +kernel
theorem h11_52 : mfetch q11.2.1 52 = some (.dup) := by decide +kernel
theorem h11_53 : mfetch q11.2.1 53 = some (.getfield 18) := by decide +kernel
theorem h11_56 : mfetch q11.2.1 56 = some (.iconst 1) := by decide +kernel
theorem h11_57 : mfetch q11.2.1 57 = some (.isub) := by decide +kernel
theorem h11_58 : mfetch q11.2.1 58 = some (.putfield 18) := by decide +kernel
theorem h11_61 : mfetch q11.2.1 61 = some (.iconst 2) := by decide +kernel
theorem h11_62 : mfetch q11.2.1 62 = some (.ireturn) := by decide +kernel
theorem h11_63 : mfetch q11.2.1 63 = some (.aload_n 0) := by decide +kernel
theorem h11_64 : mfetch q11.2.1 64 = some (.dup) := by decide +kernel
theorem h11_65 : mfetch q11.2.1 65 = some (.getfield 21) := by decide +kernel
theorem h11_68 : mfetch q11.2.1 68 = some (.iconst 1) := by decide +kernel
theorem h11_69 : mfetch q11.2.1 69 = some (.iadd) := by decide +kernel
theorem h11_70 : mfetch q11.2.1 70 = some (.putfield 21) := by decide +kernel
theorem h11_73 : mfetch q11.2.1 73 = some (.aload_n 0) := by decide +kernel
theorem h11_74 : mfetch q11.2.1 74 = some (.aload_n 1) := by decide +kernel
theorem h11_75 : mfetch q11.2.1 75 = some (.invokevirtual 38) := by decide +kernel
theorem h11_78 : mfetch q11.2.1 78 = some (.istore_n 2) := by decide +kernel
theorem h11_79 : mfetch q11.2.1 79 = some (.aload_n 0) := by decide +kernel
theorem h11_80 : mfetch q11.2.1 80 = some (.aload_n 1) := by decide +kernel
theorem h11_81 : mfetch q11.2.1 81 = some (.invokevirtual 41) := by decide +kernel
theorem h11_84 : mfetch q11.2.1 84 = some (.istore_n 3) := by decide +kernel
theorem h11_85 : mfetch q11.2.1 85 = some (.aload_n 0) := by decide +kernel
theorem h11_86 : mfetch q11.2.1 86 = some (.aload_n 0) := by decide +kernel
theorem h11_87 : mfetch q11.2.1 87 = some (.getfield 24) := by decide +kernel
theorem h11_90 : mfetch q11.2.1 90 = some (.iload_n 2) := by decide +kernel
theorem h11_91 : mfetch q11.2.1 91 = some (.iadd) := by decide +kernel
theorem h11_92 : mfetch q11.2.1 92 = some (.bipush 99) := by decide +kernel
theorem h11_94 : mfetch q11.2.1 94 = some (.invokestatic 44) := by decide +kernel
theorem h11_97 : mfetch q11.2.1 97 = some (.iload_n 3) := by decide +kernel
theorem h11_98 : mfetch q11.2.1 98 = some (.isub) := by decide +kernel
theorem h11_99 : mfetch q11.2.1 99 = some (.iconst 0) := by decide +kernel
theorem h11_100 : mfetch q11.2.1 100 = some (.invokestatic 50) := by decide +kernel
theorem h11_103 : mfetch q11.2.1 103 = some (.putfield 24) := by decide +kernel
theorem h11_106 : mfetch q11.2.1 106 = some (.aload_n 0) := by decide +kernel
theorem h11_107 : mfetch q11.2.1 107 = some (.getfield 24) := by decide +kernel
theorem h11_110 : mfetch q11.2.1 110 = some (.ifCond .le 5) := by decide +kernel
theorem h11_113 : mfetch q11.2.1 113 = some (.iconst 3) := by decide +kernel
theorem h11_114 : mfetch q11.2.1 114 = some (.ireturn) := by decide +kernel
theorem h11_115 : mfetch q11.2.1 115 = some (.aload_n 0) := by decide +kernel
theorem h11_116 : mfetch q11.2.1 116 = some (.aload_n 0) := by decide +kernel
theorem h11_117 : mfetch q11.2.1 117 = some (.getfield 27) := by decide +kernel
theorem h11_120 : mfetch q11.2.1 120 = some (.iconst 1) := by decide +kernel
theorem h11_121 : mfetch q11.2.1 121 = some (.iadd) := by decide +kernel
theorem h11_122 : mfetch q11.2.1 122 = some (.sipush 999) := by decide +kernel
theorem h11_125 : mfetch q11.2.1 125 = some (.invokestatic 44) := by decide +kernel
theorem h11_128 : mfetch q11.2.1 128 = some (.putfield 27) := by decide +kernel
theorem h11_131 : mfetch q11.2.1 131 = some (.iconst 4) := by decide +kernel
theorem h11_132 : mfetch q11.2.1 132 = some (.ireturn) := by decide +kernel
theorem E11_0 : (∀ (d : Nat) (l1 : Option Value) (l2 : Option Value) (l3 : Option Value) (x : Nat) (st : List Value) (h : MH) (P : MP), mFr d 11 0 [some (.ref x), l1, l2, l3] st h P = mFr d 11 1 [some (.ref x), l1, l2, l3] (.ref x :: st) h P) ∧
  (∀ (d : Nat) (loc : List (Option Value)) (b : Nat) (h : MH) (P : MP), mFr d 11 1 loc (.ref b :: []) h P = if mrcv h b 1 = true then mRun d 10 [.ref b] h (fun v h' => mFr d 11 4 loc (v.toList ++ []) h' P) else False) ∧
  (∀ (d : Nat) (loc : List (Option Value)) (x : Int32) (st : List Value) (h : MH) (P : MP), mFr d 11 4 loc (.int x :: st) h P = if x = 0 then mFr d 11 9 loc (st) h P else mFr d 11 7 loc (st) h P) := ⟨fun _ _ _ _ _ _ _ _ => (mFr_S mq11 h11_0).trans rfl,
  fun _ _ b _ _ => F_callV (as := []) (rest := []) mq11 (Or.inl h11_1) (rfl : _ = some (30, 6, 10, 0)) (Or.inl ⟨h11_1, by decide⟩) (by rfl) (by rfl) (by rfl) (Nat.le_of_ble_eq_true rfl),
  fun _ _ _ _ _ _ => (F_ifz 9 mq11 h11_4 (by decide)).trans mif_eq⟩
theorem E11_7 : (∀ (d : Nat) (loc : List (Option Value)) (st : List Value) (h : MH) (P : MP), mFr d 11 7 loc st h P = mFr d 11 8 loc (.int 0 :: st) h P) ∧
  (∀ (d : Nat) (loc : List (Option Value)) (x : Int32) (h : MH) (P : MP), mFr d 11 8 loc [.int x] h P = P (some (.int x)) h) := ⟨fun _ _ _ _ _ => (mFr_S mq11 h11_7).trans rfl,
  fun _ _ _ _ _ => F_ret mq11 h11_8 rfl rfl⟩
theorem E11_9 : (∀ (d : Nat) (l1 : Option Value) (l2 : Option Value) (l3 : Option Value) (x : Nat) (st : List Value) (h : MH) (P : MP), mFr d 11 9 [some (.ref x), l1, l2, l3] st h P = mFr d 11 10 [some (.ref x), l1, l2, l3] (.ref x :: st) h P) ∧
  (∀ (d : Nat) (loc : List (Option Value)) (a : Nat) (st : List Value) (h : MH) (P : MP), mFr d 11 10 loc (.ref a :: st) h P = pget h a 1 4 (fun v => mFr d 11 13 loc (v :: st) h P)) ∧
  (∀ (d : Nat) (loc : List (Option Value)) (x : Int32) (st : List Value) (h : MH) (P : MP), mFr d 11 13 loc (.int x :: st) h P = if x = 0 then mFr d 11 16 loc (st) h P else mFr d 11 35 loc (st) h P) := ⟨fun _ _ _ _ _ _ _ _ => (mFr_S mq11 h11_9).trans rfl,
  fun _ _ _ _ _ _ => F_get mq11 h11_10 (Or.inl (rfl : _ = some (24, 0, 1, 4))),
  fun _ _ _ _ _ _ => (F_ifz 35 mq11 h11_13 (by decide)).trans mif_ne⟩
theorem E11_16 : (∀ (d : Nat) (l1 : Option Value) (l2 : Option Value) (l3 : Option Value) (x : Nat) (st : List Value) (h : MH) (P : MP), mFr d 11 16 [some (.ref x), l1, l2, l3] st h P = mFr d 11 17 [some (.ref x), l1, l2, l3] (.ref x :: st) h P) ∧
  (∀ (d : Nat) (loc : List (Option Value)) (a : Nat) (st : List Value) (h : MH) (P : MP), mFr d 11 17 loc (.ref a :: st) h P = pget h a 1 2 (fun v => mFr d 11 20 loc (v :: st) h P)) ∧
  (∀ (d : Nat) (loc : List (Option Value)) (x : Int32) (st : List Value) (h : MH) (P : MP), mFr d 11 20 loc (.int x :: st) h P = if x = 0 then mFr d 11 23 loc (st) h P else mFr d 11 35 loc (st) h P) := ⟨fun _ _ _ _ _ _ _ _ => (mFr_S mq11 h11_16).trans rfl,
  fun _ _ _ _ _ _ => F_get mq11 h11_17 (Or.inl (rfl : _ = some (18, 0, 1, 2))),
  fun _ _ _ _ _ _ => (F_ifz 35 mq11 h11_20 (by decide)).trans mif_ne⟩
theorem E11_23 : (∀ (d : Nat) (l1 : Option Value) (l2 : Option Value) (l3 : Option Value) (x : Nat) (st : List Value) (h : MH) (P : MP), mFr d 11 23 [some (.ref x), l1, l2, l3] st h P = mFr d 11 24 [some (.ref x), l1, l2, l3] (.ref x :: st) h P) ∧
  (∀ (d : Nat) (loc : List (Option Value)) (x : Nat) (st : List Value) (h : MH) (P : MP), mFr d 11 24 loc (.ref x :: st) h P = mFr d 11 25 loc (.ref x :: .ref x :: st) h P) ∧
  (∀ (d : Nat) (loc : List (Option Value)) (a : Nat) (st : List Value) (h : MH) (P : MP), mFr d 11 25 loc (.ref a :: st) h P = pget h a 1 3 (fun v => mFr d 11 28 loc (v :: st) h P)) ∧
  (∀ (d : Nat) (loc : List (Option Value)) (st : List Value) (h : MH) (P : MP), mFr d 11 28 loc st h P = mFr d 11 29 loc (.int 1 :: st) h P) ∧
  (∀ (d : Nat) (loc : List (Option Value)) (x y : Int32) (st : List Value) (h : MH) (P : MP), mFr d 11 29 loc (.int y :: .int x :: st) h P = mFr d 11 30 loc (.int (x + y) :: st) h P) ∧
  (∀ (d : Nat) (loc : List (Option Value)) (a : Nat) (x : Int32) (st : List Value) (h : MH) (P : MP), mFr d 11 30 loc (.int x :: .ref a :: st) h P = pput h a 1 3 (.int x) (fun h' => mFr d 11 33 loc (st) h' P)) ∧
  (∀ (d : Nat) (loc : List (Option Value)) (st : List Value) (h : MH) (P : MP), mFr d 11 33 loc st h P = mFr d 11 34 loc (.int 1 :: st) h P) ∧
  (∀ (d : Nat) (loc : List (Option Value)) (x : Int32) (h : MH) (P : MP), mFr d 11 34 loc [.int x] h P = P (some (.int x)) h) := ⟨fun _ _ _ _ _ _ _ _ => (mFr_S mq11 h11_23).trans rfl,
  fun _ _ _ _ _ _ => (mFr_S mq11 h11_24).trans rfl,
  fun _ _ _ _ _ _ => F_get mq11 h11_25 (Or.inl (rfl : _ = some (21, 0, 1, 3))),
  fun _ _ _ _ _ => (mFr_S mq11 h11_28).trans rfl,
  fun _ _ _ _ _ _ _ => (mFr_S mq11 h11_29).trans rfl,
  fun _ _ _ _ _ _ _ => F_put mq11 h11_30 (Or.inl ⟨(rfl : _ = some (21, 0, 1, 3)), Or.inl rfl⟩),
  fun _ _ _ _ _ => (mFr_S mq11 h11_33).trans rfl,
  fun _ _ _ _ _ => F_ret mq11 h11_34 rfl rfl⟩
theorem E11_35 : (∀ (d : Nat) (l1 : Option Value) (l2 : Option Value) (l3 : Option Value) (x : Nat) (st : List Value) (h : MH) (P : MP), mFr d 11 35 [some (.ref x), l1, l2, l3] st h P = mFr d 11 36 [some (.ref x), l1, l2, l3] (.ref x :: st) h P) ∧
  (∀ (d : Nat) (loc : List (Option Value)) (a : Nat) (st : List Value) (h : MH) (P : MP), mFr d 11 36 loc (.ref a :: st) h P = pget h a 1 4 (fun v => mFr d 11 39 loc (v :: st) h P)) ∧
  (∀ (d : Nat) (loc : List (Option Value)) (x : Int32) (st : List Value) (h : MH) (P : MP), mFr d 11 39 loc (.int x :: st) h P = if x = 0 then mFr d 11 42 loc (st) h P else mFr d 11 63 loc (st) h P) := ⟨fun _ _ _ _ _ _ _ _ => (mFr_S mq11 h11_35).trans rfl,
  fun _ _ _ _ _ _ => F_get mq11 h11_36 (Or.inl (rfl : _ = some (24, 0, 1, 4))),
  fun _ _ _ _ _ _ => (F_ifz 63 mq11 h11_39 (by decide)).trans mif_ne⟩
theorem E11_42 : (∀ (d : Nat) (l1 : Option Value) (l2 : Option Value) (l3 : Option Value) (x : Nat) (st : List Value) (h : MH) (P : MP), mFr d 11 42 [some (.ref x), l1, l2, l3] st h P = mFr d 11 43 [some (.ref x), l1, l2, l3] (.ref x :: st) h P) ∧
  (∀ (d : Nat) (l1 : Option Value) (l2 : Option Value) (l3 : Option Value) (x : Nat) (st : List Value) (h : MH) (P : MP), mFr d 11 43 [some (.ref x), l1, l2, l3] st h P = mFr d 11 44 [some (.ref x), l1, l2, l3] (.ref x :: st) h P) ∧
  (∀ (d : Nat) (l0 : Option Value) (l2 : Option Value) (l3 : Option Value) (x : Nat) (st : List Value) (h : MH) (P : MP), mFr d 11 44 [l0, some (.ref x), l2, l3] st h P = mFr d 11 45 [l0, some (.ref x), l2, l3] (.ref x :: st) h P) ∧
  (∀ (d : Nat) (l0 : Option Value) (l2 : Option Value) (l3 : Option Value) (st : List Value) (h : MH) (P : MP), mFr d 11 44 [l0, some .null, l2, l3] st h P = mFr d 11 45 [l0, some .null, l2, l3] (.null :: st) h P) ∧
  (∀ (d : Nat) (loc : List (Option Value)) (b : Nat) (a0 : Nat) (s0 : Nat) (h : MH) (P : MP), mFr d 11 45 loc ((.ref a0) :: .ref b :: [.ref s0]) h P = if mrcv h b 1 = true then mRun d 14 [.ref b, .ref a0] h (fun v h' => mFr d 11 48 loc (v.toList ++ [.ref s0]) h' P) else False) ∧
  (∀ (d : Nat) (loc : List (Option Value)) (a : Nat) (x : Int32) (st : List Value) (h : MH) (P : MP), mFr d 11 48 loc (.int x :: .ref a :: st) h P = pput h a 1 4 (.int x) (fun h' => mFr d 11 51 loc (st) h' P)) ∧
  (∀ (d : Nat) (l1 : Option Value) (l2 : Option Value) (l3 : Option Value) (x : Nat) (st : List Value) (h : MH) (P : MP), mFr d 11 51 [some (.ref x), l1, l2, l3] st h P = mFr d 11 52 [some (.ref x), l1, l2, l3] (.ref x :: st) h P) ∧
  (∀ (d : Nat) (loc : List (Option Value)) (x : Nat) (st : List Value) (h : MH) (P : MP), mFr d 11 52 loc (.ref x :: st) h P = mFr d 11 53 loc (.ref x :: .ref x :: st) h P) ∧
  (∀ (d : Nat) (loc : List (Option Value)) (a : Nat) (st : List Value) (h : MH) (P : MP), mFr d 11 53 loc (.ref a :: st) h P = pget h a 1 2 (fun v => mFr d 11 56 loc (v :: st) h P)) ∧
  (∀ (d : Nat) (loc : List (Option Value)) (st : List Value) (h : MH) (P : MP), mFr d 11 56 loc st h P = mFr d 11 57 loc (.int 1 :: st) h P) ∧
  (∀ (d : Nat) (loc : List (Option Value)) (x y : Int32) (st : List Value) (h : MH) (P : MP), mFr d 11 57 loc (.int y :: .int x :: st) h P = mFr d 11 58 loc (.int (x - y) :: st) h P) ∧
  (∀ (d : Nat) (loc : List (Option Value)) (a : Nat) (x : Int32) (st : List Value) (h : MH) (P : MP), mFr d 11 58 loc (.int x :: .ref a :: st) h P = pput h a 1 2 (.int x) (fun h' => mFr d 11 61 loc (st) h' P)) ∧
  (∀ (d : Nat) (loc : List (Option Value)) (st : List Value) (h : MH) (P : MP), mFr d 11 61 loc st h P = mFr d 11 62 loc (.int 2 :: st) h P) ∧
  (∀ (d : Nat) (loc : List (Option Value)) (x : Int32) (h : MH) (P : MP), mFr d 11 62 loc [.int x] h P = P (some (.int x)) h) := ⟨fun _ _ _ _ _ _ _ _ => (mFr_S mq11 h11_42).trans rfl,
  fun _ _ _ _ _ _ _ _ => (mFr_S mq11 h11_43).trans rfl,
  fun _ _ _ _ _ _ _ _ => (mFr_S mq11 h11_44).trans rfl,
  fun _ _ _ _ _ _ _ => (mFr_S mq11 h11_44).trans rfl,
  fun _ _ b a0 s0 _ _ => F_callV (as := [.ref a0]) (rest := [.ref s0]) mq11 (Or.inl h11_45) (rfl : _ = some (34, 6, 14, 0)) (Or.inl ⟨h11_45, by decide⟩) (by rfl) (by rfl) (by rfl) (Nat.le_of_ble_eq_true rfl),
  fun _ _ _ _ _ _ _ => F_put mq11 h11_48 (Or.inl ⟨(rfl : _ = some (24, 0, 1, 4)), Or.inl rfl⟩),
  fun _ _ _ _ _ _ _ _ => (mFr_S mq11 h11_51).trans rfl,
  fun _ _ _ _ _ _ => (mFr_S mq11 h11_52).trans rfl,
  fun _ _ _ _ _ _ => F_get mq11 h11_53 (Or.inl (rfl : _ = some (18, 0, 1, 2))),
  fun _ _ _ _ _ => (mFr_S mq11 h11_56).trans rfl,
  fun _ _ _ _ _ _ _ => (mFr_S mq11 h11_57).trans rfl,
  fun _ _ _ _ _ _ _ => F_put mq11 h11_58 (Or.inl ⟨(rfl : _ = some (18, 0, 1, 2)), Or.inl rfl⟩),
  fun _ _ _ _ _ => (mFr_S mq11 h11_61).trans rfl,
  fun _ _ _ _ _ => F_ret mq11 h11_62 rfl rfl⟩
theorem E11_63 : (∀ (d : Nat) (l1 : Option Value) (l2 : Option Value) (l3 : Option Value) (x : Nat) (st : List Value) (h : MH) (P : MP), mFr d 11 63 [some (.ref x), l1, l2, l3] st h P = mFr d 11 64 [some (.ref x), l1, l2, l3] (.ref x :: st) h P) ∧
  (∀ (d : Nat) (loc : List (Option Value)) (x : Nat) (st : List Value) (h : MH) (P : MP), mFr d 11 64 loc (.ref x :: st) h P = mFr d 11 65 loc (.ref x :: .ref x :: st) h P) ∧
  (∀ (d : Nat) (loc : List (Option Value)) (a : Nat) (st : List Value) (h : MH) (P : MP), mFr d 11 65 loc (.ref a :: st) h P = pget h a 1 3 (fun v => mFr d 11 68 loc (v :: st) h P)) ∧
  (∀ (d : Nat) (loc : List (Option Value)) (st : List Value) (h : MH) (P : MP), mFr d 11 68 loc st h P = mFr d 11 69 loc (.int 1 :: st) h P) ∧
  (∀ (d : Nat) (loc : List (Option Value)) (x y : Int32) (st : List Value) (h : MH) (P : MP), mFr d 11 69 loc (.int y :: .int x :: st) h P = mFr d 11 70 loc (.int (x + y) :: st) h P) ∧
  (∀ (d : Nat) (loc : List (Option Value)) (a : Nat) (x : Int32) (st : List Value) (h : MH) (P : MP), mFr d 11 70 loc (.int x :: .ref a :: st) h P = pput h a 1 3 (.int x) (fun h' => mFr d 11 73 loc (st) h' P)) ∧
  (∀ (d : Nat) (l1 : Option Value) (l2 : Option Value) (l3 : Option Value) (x : Nat) (st : List Value) (h : MH) (P : MP), mFr d 11 73 [some (.ref x), l1, l2, l3] st h P = mFr d 11 74 [some (.ref x), l1, l2, l3] (.ref x :: st) h P) ∧
  (∀ (d : Nat) (l0 : Option Value) (l2 : Option Value) (l3 : Option Value) (x : Nat) (st : List Value) (h : MH) (P : MP), mFr d 11 74 [l0, some (.ref x), l2, l3] st h P = mFr d 11 75 [l0, some (.ref x), l2, l3] (.ref x :: st) h P) ∧
  (∀ (d : Nat) (l0 : Option Value) (l2 : Option Value) (l3 : Option Value) (st : List Value) (h : MH) (P : MP), mFr d 11 74 [l0, some .null, l2, l3] st h P = mFr d 11 75 [l0, some .null, l2, l3] (.null :: st) h P) ∧
  (∀ (d : Nat) (loc : List (Option Value)) (b : Nat) (a0 : Nat) (h : MH) (P : MP), mFr d 11 75 loc ((.ref a0) :: .ref b :: []) h P = if mrcv h b 1 = true then mRun d 15 [.ref b, .ref a0] h (fun v h' => mFr d 11 78 loc (v.toList ++ []) h' P) else False) ∧
  (∀ (d : Nat) (l0 : Option Value) (l1 : Option Value) (l2 : Option Value) (l3 : Option Value) (x : Int32) (st : List Value) (h : MH) (P : MP), mnl l1 = true → mFr d 11 78 [l0, l1, l2, l3] (.int x :: st) h P = mFr d 11 79 [l0, l1, some (.int x), l3] (st) h P) ∧
  (∀ (d : Nat) (l1 : Option Value) (l2 : Option Value) (l3 : Option Value) (x : Nat) (st : List Value) (h : MH) (P : MP), mFr d 11 79 [some (.ref x), l1, l2, l3] st h P = mFr d 11 80 [some (.ref x), l1, l2, l3] (.ref x :: st) h P) ∧
  (∀ (d : Nat) (l0 : Option Value) (l2 : Option Value) (l3 : Option Value) (x : Nat) (st : List Value) (h : MH) (P : MP), mFr d 11 80 [l0, some (.ref x), l2, l3] st h P = mFr d 11 81 [l0, some (.ref x), l2, l3] (.ref x :: st) h P) ∧
  (∀ (d : Nat) (l0 : Option Value) (l2 : Option Value) (l3 : Option Value) (st : List Value) (h : MH) (P : MP), mFr d 11 80 [l0, some .null, l2, l3] st h P = mFr d 11 81 [l0, some .null, l2, l3] (.null :: st) h P) ∧
  (∀ (d : Nat) (loc : List (Option Value)) (b : Nat) (a0 : Nat) (h : MH) (P : MP), mFr d 11 81 loc ((.ref a0) :: .ref b :: []) h P = if mrcv h b 1 = true then mRun d 12 [.ref b, .ref a0] h (fun v h' => mFr d 11 84 loc (v.toList ++ []) h' P) else False) ∧
  (∀ (d : Nat) (l0 : Option Value) (l1 : Option Value) (l2 : Option Value) (l3 : Option Value) (x : Int32) (st : List Value) (h : MH) (P : MP), mnl l2 = true → mFr d 11 84 [l0, l1, l2, l3] (.int x :: st) h P = mFr d 11 85 [l0, l1, l2, some (.int x)] (st) h P) ∧
  (∀ (d : Nat) (l1 : Option Value) (l2 : Option Value) (l3 : Option Value) (x : Nat) (st : List Value) (h : MH) (P : MP), mFr d 11 85 [some (.ref x), l1, l2, l3] st h P = mFr d 11 86 [some (.ref x), l1, l2, l3] (.ref x :: st) h P) ∧
  (∀ (d : Nat) (l1 : Option Value) (l2 : Option Value) (l3 : Option Value) (x : Nat) (st : List Value) (h : MH) (P : MP), mFr d 11 86 [some (.ref x), l1, l2, l3] st h P = mFr d 11 87 [some (.ref x), l1, l2, l3] (.ref x :: st) h P) ∧
  (∀ (d : Nat) (loc : List (Option Value)) (a : Nat) (st : List Value) (h : MH) (P : MP), mFr d 11 87 loc (.ref a :: st) h P = pget h a 1 4 (fun v => mFr d 11 90 loc (v :: st) h P)) ∧
  (∀ (d : Nat) (l0 : Option Value) (l1 : Option Value) (l3 : Option Value) (x : Int32) (st : List Value) (h : MH) (P : MP), mFr d 11 90 [l0, l1, some (.int x), l3] st h P = mFr d 11 91 [l0, l1, some (.int x), l3] (.int x :: st) h P) ∧
  (∀ (d : Nat) (loc : List (Option Value)) (x y : Int32) (st : List Value) (h : MH) (P : MP), mFr d 11 91 loc (.int y :: .int x :: st) h P = mFr d 11 92 loc (.int (x + y) :: st) h P) ∧
  (∀ (d : Nat) (loc : List (Option Value)) (st : List Value) (h : MH) (P : MP), mFr d 11 92 loc st h P = mFr d 11 94 loc (.int 99 :: st) h P) ∧
  (∀ (d : Nat) (loc : List (Option Value)) (x y : Int32) (s0 : Nat) (h : MH) (P : MP), mFr d 11 94 loc (.int y :: .int x :: [.ref s0]) h P = mFr d 11 97 loc (.int (if y < x then y else x) :: [.ref s0]) h P) ∧
  (∀ (d : Nat) (l0 : Option Value) (l1 : Option Value) (l2 : Option Value) (x : Int32) (st : List Value) (h : MH) (P : MP), mFr d 11 97 [l0, l1, l2, some (.int x)] st h P = mFr d 11 98 [l0, l1, l2, some (.int x)] (.int x :: st) h P) ∧
  (∀ (d : Nat) (loc : List (Option Value)) (x y : Int32) (st : List Value) (h : MH) (P : MP), mFr d 11 98 loc (.int y :: .int x :: st) h P = mFr d 11 99 loc (.int (x - y) :: st) h P) ∧
  (∀ (d : Nat) (loc : List (Option Value)) (st : List Value) (h : MH) (P : MP), mFr d 11 99 loc st h P = mFr d 11 100 loc (.int 0 :: st) h P) ∧
  (∀ (d : Nat) (loc : List (Option Value)) (x y : Int32) (s0 : Nat) (h : MH) (P : MP), mFr d 11 100 loc (.int y :: .int x :: [.ref s0]) h P = mFr d 11 103 loc (.int (if x < y then y else x) :: [.ref s0]) h P) ∧
  (∀ (d : Nat) (loc : List (Option Value)) (a : Nat) (x : Int32) (st : List Value) (h : MH) (P : MP), mFr d 11 103 loc (.int x :: .ref a :: st) h P = pput h a 1 4 (.int x) (fun h' => mFr d 11 106 loc (st) h' P)) ∧
  (∀ (d : Nat) (l1 : Option Value) (l2 : Option Value) (l3 : Option Value) (x : Nat) (st : List Value) (h : MH) (P : MP), mFr d 11 106 [some (.ref x), l1, l2, l3] st h P = mFr d 11 107 [some (.ref x), l1, l2, l3] (.ref x :: st) h P) ∧
  (∀ (d : Nat) (loc : List (Option Value)) (a : Nat) (st : List Value) (h : MH) (P : MP), mFr d 11 107 loc (.ref a :: st) h P = pget h a 1 4 (fun v => mFr d 11 110 loc (v :: st) h P)) ∧
  (∀ (d : Nat) (loc : List (Option Value)) (x : Int32) (st : List Value) (h : MH) (P : MP), mFr d 11 110 loc (.int x :: st) h P = if 0 < x then mFr d 11 113 loc (st) h P else mFr d 11 115 loc (st) h P) := ⟨fun _ _ _ _ _ _ _ _ => (mFr_S mq11 h11_63).trans rfl,
  fun _ _ _ _ _ _ => (mFr_S mq11 h11_64).trans rfl,
  fun _ _ _ _ _ _ => F_get mq11 h11_65 (Or.inl (rfl : _ = some (21, 0, 1, 3))),
  fun _ _ _ _ _ => (mFr_S mq11 h11_68).trans rfl,
  fun _ _ _ _ _ _ _ => (mFr_S mq11 h11_69).trans rfl,
  fun _ _ _ _ _ _ _ => F_put mq11 h11_70 (Or.inl ⟨(rfl : _ = some (21, 0, 1, 3)), Or.inl rfl⟩),
  fun _ _ _ _ _ _ _ _ => (mFr_S mq11 h11_73).trans rfl,
  fun _ _ _ _ _ _ _ _ => (mFr_S mq11 h11_74).trans rfl,
  fun _ _ _ _ _ _ _ => (mFr_S mq11 h11_74).trans rfl,
  fun _ _ b a0 _ _ => F_callV (as := [.ref a0]) (rest := []) mq11 (Or.inl h11_75) (rfl : _ = some (38, 6, 15, 0)) (Or.inl ⟨h11_75, by decide⟩) (by rfl) (by rfl) (by rfl) (Nat.le_of_ble_eq_true rfl),
  fun _ _ _ _ _ _ _ _ _ hm => (mFr_S mq11 h11_78).trans (by simp only [mgo.eq_1, mstep, mi1, ml1, mast, mst, mst2, mprev, List.length_cons, List.length_nil, List.getElem?_cons_succ, List.getElem?_cons_zero, hm]; rfl),
  fun _ _ _ _ _ _ _ _ => (mFr_S mq11 h11_79).trans rfl,
  fun _ _ _ _ _ _ _ _ => (mFr_S mq11 h11_80).trans rfl,
  fun _ _ _ _ _ _ _ => (mFr_S mq11 h11_80).trans rfl,
  fun _ _ b a0 _ _ => F_callV (as := [.ref a0]) (rest := []) mq11 (Or.inl h11_81) (rfl : _ = some (41, 6, 12, 0)) (Or.inl ⟨h11_81, by decide⟩) (by rfl) (by rfl) (by rfl) (Nat.le_of_ble_eq_true rfl),
  fun _ _ _ _ _ _ _ _ _ hm => (mFr_S mq11 h11_84).trans (by simp only [mgo.eq_1, mstep, mi1, ml1, mast, mst, mst2, mprev, List.length_cons, List.length_nil, List.getElem?_cons_succ, List.getElem?_cons_zero, hm]; rfl),
  fun _ _ _ _ _ _ _ _ => (mFr_S mq11 h11_85).trans rfl,
  fun _ _ _ _ _ _ _ _ => (mFr_S mq11 h11_86).trans rfl,
  fun _ _ _ _ _ _ => F_get mq11 h11_87 (Or.inl (rfl : _ = some (24, 0, 1, 4))),
  fun _ _ _ _ _ _ _ _ => (mFr_S mq11 h11_90).trans rfl,
  fun _ _ _ _ _ _ _ => (mFr_S mq11 h11_91).trans rfl,
  fun _ _ _ _ _ => (mFr_S mq11 h11_92).trans rfl,
  fun _ _ _ _ _ _ _ => F_min mq11 h11_94 (rfl : _ = some (44, 11, 0, 0)) (Nat.le_of_ble_eq_true rfl),
  fun _ _ _ _ _ _ _ _ => (mFr_S mq11 h11_97).trans rfl,
  fun _ _ _ _ _ _ _ => (mFr_S mq11 h11_98).trans rfl,
  fun _ _ _ _ _ => (mFr_S mq11 h11_99).trans rfl,
  fun _ _ _ _ _ _ _ => F_max mq11 h11_100 (rfl : _ = some (50, 10, 0, 0)) (Nat.le_of_ble_eq_true rfl),
  fun _ _ _ _ _ _ _ => F_put mq11 h11_103 (Or.inl ⟨(rfl : _ = some (24, 0, 1, 4)), Or.inl rfl⟩),
  fun _ _ _ _ _ _ _ _ => (mFr_S mq11 h11_106).trans rfl,
  fun _ _ _ _ _ _ => F_get mq11 h11_107 (Or.inl (rfl : _ = some (24, 0, 1, 4))),
  fun _ _ _ _ _ _ => (F_ifz 115 mq11 h11_110 (by decide)).trans mif_le⟩
theorem E11_113 : (∀ (d : Nat) (loc : List (Option Value)) (st : List Value) (h : MH) (P : MP), mFr d 11 113 loc st h P = mFr d 11 114 loc (.int 3 :: st) h P) ∧
  (∀ (d : Nat) (loc : List (Option Value)) (x : Int32) (h : MH) (P : MP), mFr d 11 114 loc [.int x] h P = P (some (.int x)) h) := ⟨fun _ _ _ _ _ => (mFr_S mq11 h11_113).trans rfl,
  fun _ _ _ _ _ => F_ret mq11 h11_114 rfl rfl⟩
theorem E11_115 : (∀ (d : Nat) (l1 : Option Value) (l2 : Option Value) (l3 : Option Value) (x : Nat) (st : List Value) (h : MH) (P : MP), mFr d 11 115 [some (.ref x), l1, l2, l3] st h P = mFr d 11 116 [some (.ref x), l1, l2, l3] (.ref x :: st) h P) ∧
  (∀ (d : Nat) (l1 : Option Value) (l2 : Option Value) (l3 : Option Value) (x : Nat) (st : List Value) (h : MH) (P : MP), mFr d 11 116 [some (.ref x), l1, l2, l3] st h P = mFr d 11 117 [some (.ref x), l1, l2, l3] (.ref x :: st) h P) ∧
  (∀ (d : Nat) (loc : List (Option Value)) (a : Nat) (st : List Value) (h : MH) (P : MP), mFr d 11 117 loc (.ref a :: st) h P = pget h a 1 5 (fun v => mFr d 11 120 loc (v :: st) h P)) ∧
  (∀ (d : Nat) (loc : List (Option Value)) (st : List Value) (h : MH) (P : MP), mFr d 11 120 loc st h P = mFr d 11 121 loc (.int 1 :: st) h P) ∧
  (∀ (d : Nat) (loc : List (Option Value)) (x y : Int32) (st : List Value) (h : MH) (P : MP), mFr d 11 121 loc (.int y :: .int x :: st) h P = mFr d 11 122 loc (.int (x + y) :: st) h P) ∧
  (∀ (d : Nat) (loc : List (Option Value)) (st : List Value) (h : MH) (P : MP), mFr d 11 122 loc st h P = mFr d 11 125 loc (.int 999 :: st) h P) ∧
  (∀ (d : Nat) (loc : List (Option Value)) (x y : Int32) (s0 : Nat) (h : MH) (P : MP), mFr d 11 125 loc (.int y :: .int x :: [.ref s0]) h P = mFr d 11 128 loc (.int (if y < x then y else x) :: [.ref s0]) h P) ∧
  (∀ (d : Nat) (loc : List (Option Value)) (a : Nat) (x : Int32) (st : List Value) (h : MH) (P : MP), mFr d 11 128 loc (.int x :: .ref a :: st) h P = pput h a 1 5 (.int x) (fun h' => mFr d 11 131 loc (st) h' P)) ∧
  (∀ (d : Nat) (loc : List (Option Value)) (st : List Value) (h : MH) (P : MP), mFr d 11 131 loc st h P = mFr d 11 132 loc (.int 4 :: st) h P) ∧
  (∀ (d : Nat) (loc : List (Option Value)) (x : Int32) (h : MH) (P : MP), mFr d 11 132 loc [.int x] h P = P (some (.int x)) h) := ⟨fun _ _ _ _ _ _ _ _ => (mFr_S mq11 h11_115).trans rfl,
  fun _ _ _ _ _ _ _ _ => (mFr_S mq11 h11_116).trans rfl,
  fun _ _ _ _ _ _ => F_get mq11 h11_117 (Or.inl (rfl : _ = some (27, 0, 1, 5))),
  fun _ _ _ _ _ => (mFr_S mq11 h11_120).trans rfl,
  fun _ _ _ _ _ _ _ => (mFr_S mq11 h11_121).trans rfl,
  fun _ _ _ _ _ => (mFr_S mq11 h11_122).trans rfl,
  fun _ _ _ _ _ _ _ => F_min mq11 h11_125 (rfl : _ = some (44, 11, 0, 0)) (Nat.le_of_ble_eq_true rfl),
  fun _ _ _ _ _ _ _ => F_put mq11 h11_128 (Or.inl ⟨(rfl : _ = some (27, 0, 1, 5)), Or.inl rfl⟩),
  fun _ _ _ _ _ => (mFr_S mq11 h11_131).trans rfl,
  fun _ _ _ _ _ => F_ret mq11 h11_132 rfl rfl⟩
theorem B11 : ∀ (d : Nat) (b : Nat) (a0 : Nat) (h : MH) (P : MP), mRun (d + 1) 11 [.ref b, .ref a0] h P = mFr d 11 0 [some (.ref b), some (.ref a0), none, none] [] h P := fun _ _ _ _ _ => mRun_S mq11 (Nat.le_of_ble_eq_true rfl)
-- 12: PuncturesAreViews$Rider.letsOut(LPuncturesAreViews$Road;)I
def q12 : MI := (yX1_letsOut, cX1_letsOut, 4, (some .int), 1, 1)
theorem mq12 : mtab[12]? = some q12 := rfl
theorem h12_0 : mfetch q12.2.1 0 = some (.aload_n 1) := by decide +kernel
theorem h12_1 : mfetch q12.2.1 1 = some (.getfield 53) := by decide +kernel
theorem h12_4 : mfetch q12.2.1 4 = some (.iconst 0) := by decide +kernel
theorem h12_5 : mfetch q12.2.1 5 = some (.aload_n 0) := by decide +kernel
theorem h12_6 : mfetch q12.2.1 6 = some (.aload_n 1) := by decide +kernel
theorem h12_7 : mfetch q12.2.1 7 = some (.invokevirtual 59) := by decide +kernel
theorem h12_10 : mfetch q12.2.1 10 = some (.istore_n 2) := by decide +kernel
theorem h12_11 : mfetch q12.2.1 11 = some (.iload_n 2) := by decide +kernel
theorem h12_12 : mfetch q12.2.1 12 = some (.istore_n 3) := by decide +kernel
theorem h12_13 : mfetch q12.2.1 13 = some (.aload_n 0) := by decide +kernel
theorem h12_14 : mfetch q12.2.1 14 = some (.getfield 9) := by decide +kernel
theorem h12_17 : mfetch q12.2.1 17 = some (.tableswitch 93 1 5 #[35, 44, 51, 65, 88]) := by decide +kernel
theorem h12_52 : mfetch q12.2.1 52 = some (.aload_n 0) := by decide +kernel
theorem h12_53 : mfetch q12.2.1 53 = some (.iload_n 2) := by decide +kernel
theorem h12_54 : mfetch q12.2.1 54 = some (.invokevirtual 65) := by decide +kernel
theorem h12_57 : mfetch q12.2.1 57 = some (.istore_n 3) := by decide +kernel
theorem h12_58 : mfetch q12.2.1 58 = some (.goto 52) := by decide +kernel
theorem h12_61 : mfetch q12.2.1 61 = some (.iload_n 2) := by decide +kernel
theorem h12_62 : mfetch q12.2.1 62 = some (.iconst 2) := by decide +kernel
theorem h12_63 : mfetch q12.2.1 63 = some (.idiv) := by decide +kernel
theorem h12_64 : mfetch q12.2.1 64 = some (.istore_n 3) := by decide +kernel
theorem h12_65 : mfetch q12.2.1 65 = some (.goto 45) := by decide +kernel
theorem h12_68 : mfetch q12.2.1 68 = some (.aload_n 0) := by decide +kernel
theorem h12_69 : mfetch q12.2.1 69 = some (.iload_n 2) := by decide +kernel
theorem h12_70 : mfetch q12.2.1 70 = some (.invokevirtual 65) := by decide +kernel
theorem h12_73 : mfetch q12.2.1 73 = some (.aload_n 0) := by decide +kernel
theorem h12_74 : mfetch q12.2.1 74 = some (.getfield 15) := by decide +kernel
theorem h12_77 : mfetch q12.2.1 77 = some (.iadd) := by decide +kernel
theorem h12_78 : mfetch q12.2.1 78 = some (.istore_n 3) := by decide +kernel
theorem h12_79 : mfetch q12.2.1 79 = some (.goto 31) := by decide +kernel
theorem h12_82 : mfetch q12.2.1 82 = some (.aload_n 1) := by decide +kernel
theorem h12_83 : mfetch q12.2.1 83 = some (.aload_n 0) := by decide +kernel
theorem h12_84 : mfetch q12.2.1 84 = some (.getfield 21) := by decide +kernel
theorem h12_87 : mfetch q12.2.1 87 = some (.invokevirtual 69) := by decide +kernel
theorem h12_90 : mfetch q12.2.1 90 = some (.iconst 4) := by decide +kernel
theorem h12_91 : mfetch q12.2.1 91 = some (.if_icmp .ge 7) := by decide +kernel
theorem h12_94 : mfetch q12.2.1 94 = some (.iconst 0) := by decide +kernel
theorem h12_95 : mfetch q12.2.1 95 = some (.goto 6) := by decide +kernel
theorem h12_98 : mfetch q12.2.1 98 = some (.iload_n 2) := by decide +kernel
theorem h12_99 : mfetch q12.2.1 99 = some (.iconst 2) := by decide +kernel
theorem h12_100 : mfetch q12.2.1 100 = some (.idiv) := by decide +kernel
theorem h12_101 : mfetch q12.2.1 101 = some (.istore_n 3) := by decide +kernel
theorem h12_102 : mfetch q12.2.1 102 = some (.goto 8) := by decide +kernel
theorem h12_105 : mfetch q12.2.1 105 = some (.iconst 0) := by decide +kernel
theorem h12_106 : mfetch q12.2.1 106 = some (.istore_n 3) := by decide +kernel
theorem h12_107 : mfetch q12.2.1 107 = some (.goto 3) := by decide +kernel
theorem h12_110 : mfetch q12.2.1 110 = some (.iconst 0) := by decide +kernel
theorem h12_111 : mfetch q12.2.1 111 = some (.iload_n 3) := by decide +kernel
theorem h12_112 : mfetch q12.2.1 112 = some (.bipush 99) := by decide +kernel
theorem h12_114 : mfetch q12.2.1 114 = some (.invokestatic 44) := by decide +kernel
theorem h12_117 : mfetch q12.2.1 117 = some (.invokestatic 50) := by decide +kernel
theorem h12_120 : mfetch q12.2.1 120 = some (.ireturn) := by decide +kernel
theorem E12_0 : (∀ (d : Nat) (l0 : Option Value) (l2 : Option Value) (l3 : Option Value) (x : Nat) (st : List Value) (h : MH) (P : MP), mFr d 12 0 [l0, some (.ref x), l2, l3] st h P = mFr d 12 1 [l0, some (.ref x), l2, l3] (.ref x :: st) h P) ∧
  (∀ (d : Nat) (l0 : Option Value) (l2 : Option Value) (l3 : Option Value) (st : List Value) (h : MH) (P : MP), mFr d 12 0 [l0, some .null, l2, l3] st h P = mFr d 12 1 [l0, some .null, l2, l3] (.null :: st) h P) ∧
  (∀ (d : Nat) (loc : List (Option Value)) (a : Nat) (st : List Value) (h : MH) (P : MP), mFr d 12 1 loc (.ref a :: st) h P = pget h a 2 2 (fun v => mFr d 12 4 loc (v :: st) h P)) ∧
  (∀ (d : Nat) (loc : List (Option Value)) (st : List Value) (h : MH) (P : MP), mFr d 12 4 loc st h P = mFr d 12 5 loc (.int 0 :: st) h P) ∧
  (∀ (d : Nat) (l1 : Option Value) (l2 : Option Value) (l3 : Option Value) (x : Nat) (st : List Value) (h : MH) (P : MP), mFr d 12 5 [some (.ref x), l1, l2, l3] st h P = mFr d 12 6 [some (.ref x), l1, l2, l3] (.ref x :: st) h P) ∧
  (∀ (d : Nat) (l0 : Option Value) (l2 : Option Value) (l3 : Option Value) (x : Nat) (st : List Value) (h : MH) (P : MP), mFr d 12 6 [l0, some (.ref x), l2, l3] st h P = mFr d 12 7 [l0, some (.ref x), l2, l3] (.ref x :: st) h P) ∧
  (∀ (d : Nat) (l0 : Option Value) (l2 : Option Value) (l3 : Option Value) (st : List Value) (h : MH) (P : MP), mFr d 12 6 [l0, some .null, l2, l3] st h P = mFr d 12 7 [l0, some .null, l2, l3] (.null :: st) h P) ∧
  (∀ (d : Nat) (loc : List (Option Value)) (b : Nat) (a0 : Int32) (a1 : Nat) (a2 : Nat) (h : MH) (P : MP), mFr d 12 7 loc ((.ref a2) :: (.ref a1) :: (.int a0) :: .ref b :: []) h P = if mrcv h b 5 = true then mRun d 33 [.ref b, .int a0, .ref a1, .ref a2] h (fun v h' => mFr d 12 10 loc (v.toList ++ []) h' P) else False) ∧
  (∀ (d : Nat) (l0 : Option Value) (l1 : Option Value) (l2 : Option Value) (l3 : Option Value) (x : Int32) (st : List Value) (h : MH) (P : MP), mnl l1 = true → mFr d 12 10 [l0, l1, l2, l3] (.int x :: st) h P = mFr d 12 11 [l0, l1, some (.int x), l3] (st) h P) ∧
  (∀ (d : Nat) (l0 : Option Value) (l1 : Option Value) (l3 : Option Value) (x : Int32) (st : List Value) (h : MH) (P : MP), mFr d 12 11 [l0, l1, some (.int x), l3] st h P = mFr d 12 12 [l0, l1, some (.int x), l3] (.int x :: st) h P) ∧
  (∀ (d : Nat) (l0 : Option Value) (l1 : Option Value) (l2 : Option Value) (l3 : Option Value) (x : Int32) (st : List Value) (h : MH) (P : MP), mnl l2 = true → mFr d 12 12 [l0, l1, l2, l3] (.int x :: st) h P = mFr d 12 13 [l0, l1, l2, some (.int x)] (st) h P) ∧
  (∀ (d : Nat) (l1 : Option Value) (l2 : Option Value) (l3 : Option Value) (x : Nat) (st : List Value) (h : MH) (P : MP), mFr d 12 13 [some (.ref x), l1, l2, l3] st h P = mFr d 12 14 [some (.ref x), l1, l2, l3] (.ref x :: st) h P) ∧
  (∀ (d : Nat) (loc : List (Option Value)) (a : Nat) (st : List Value) (h : MH) (P : MP), mFr d 12 14 loc (.ref a :: st) h P = pget h a 1 0 (fun v => mFr d 12 17 loc (v :: st) h P)) ∧
  (∀ (d : Nat) (loc : List (Option Value)) (x : Int32) (st : List Value) (h : MH) (P : MP), mFr d 12 17 loc (.int x :: st) h P = if x = 1 then mFr d 12 52 loc (st) h P else if x = 2 then mFr d 12 61 loc (st) h P else if x = 3 then mFr d 12 68 loc (st) h P else if x = 4 then mFr d 12 82 loc (st) h P else if x = 5 then mFr d 12 105 loc (st) h P else mFr d 12 110 loc (st) h P) := ⟨fun _ _ _ _ _ _ _ _ => (mFr_S mq12 h12_0).trans rfl,
  fun _ _ _ _ _ _ _ => (mFr_S mq12 h12_0).trans rfl,
  fun _ _ _ _ _ _ => F_get mq12 h12_1 (Or.inr (rfl : _ = some (53, 1, 2, 2))),
  fun _ _ _ _ _ => (mFr_S mq12 h12_4).trans rfl,
  fun _ _ _ _ _ _ _ _ => (mFr_S mq12 h12_5).trans rfl,
  fun _ _ _ _ _ _ _ _ => (mFr_S mq12 h12_6).trans rfl,
  fun _ _ _ _ _ _ _ => (mFr_S mq12 h12_6).trans rfl,
  fun _ _ b a0 a1 a2 _ _ => F_callV (as := [.int a0, .ref a1, .ref a2]) (rest := []) mq12 (Or.inl h12_7) (rfl : _ = some (59, 6, 33, 1)) (Or.inl ⟨h12_7, by decide⟩) (by rfl) (by rfl) (by rfl) (Nat.le_of_ble_eq_true rfl),
  fun _ _ _ _ _ _ _ _ _ hm => (mFr_S mq12 h12_10).trans (by simp only [mgo.eq_1, mstep, mi1, ml1, mast, mst, mst2, mprev, List.length_cons, List.length_nil, List.getElem?_cons_succ, List.getElem?_cons_zero, hm]; rfl),
  fun _ _ _ _ _ _ _ _ => (mFr_S mq12 h12_11).trans rfl,
  fun _ _ _ _ _ _ _ _ _ hm => (mFr_S mq12 h12_12).trans (by simp only [mgo.eq_1, mstep, mi1, ml1, mast, mst, mst2, mprev, List.length_cons, List.length_nil, List.getElem?_cons_succ, List.getElem?_cons_zero, hm]; rfl),
  fun _ _ _ _ _ _ _ _ => (mFr_S mq12 h12_13).trans rfl,
  fun _ _ _ _ _ _ => F_get mq12 h12_14 (Or.inl (rfl : _ = some (9, 0, 1, 0))),
  fun _ _ _ _ _ _ => F_table 110 [(1, 52), (2, 61), (3, 68), (4, 82), (5, 105)] mq12 h12_17 (by decide) (by decide +kernel) (by decide)⟩
theorem E12_52 : (∀ (d : Nat) (l1 : Option Value) (l2 : Option Value) (l3 : Option Value) (x : Nat) (st : List Value) (h : MH) (P : MP), mFr d 12 52 [some (.ref x), l1, l2, l3] st h P = mFr d 12 53 [some (.ref x), l1, l2, l3] (.ref x :: st) h P) ∧
  (∀ (d : Nat) (l0 : Option Value) (l1 : Option Value) (l3 : Option Value) (x : Int32) (st : List Value) (h : MH) (P : MP), mFr d 12 53 [l0, l1, some (.int x), l3] st h P = mFr d 12 54 [l0, l1, some (.int x), l3] (.int x :: st) h P) ∧
  (∀ (d : Nat) (loc : List (Option Value)) (b : Nat) (a0 : Int32) (h : MH) (P : MP), mFr d 12 54 loc ((.int a0) :: .ref b :: []) h P = if mrcv h b 1 = true then mRun d 13 [.ref b, .int a0] h (fun v h' => mFr d 12 57 loc (v.toList ++ []) h' P) else False) ∧
  (∀ (d : Nat) (l0 : Option Value) (l1 : Option Value) (l2 : Option Value) (l3 : Option Value) (x : Int32) (st : List Value) (h : MH) (P : MP), mnl l2 = true → mFr d 12 57 [l0, l1, l2, l3] (.int x :: st) h P = mFr d 12 58 [l0, l1, l2, some (.int x)] (st) h P) ∧
  (∀ (d : Nat) (loc : List (Option Value)) (st : List Value) (h : MH) (P : MP), mFr d 12 58 loc st h P = mFr d 12 110 loc (st) h P) := ⟨fun _ _ _ _ _ _ _ _ => (mFr_S mq12 h12_52).trans rfl,
  fun _ _ _ _ _ _ _ _ => (mFr_S mq12 h12_53).trans rfl,
  fun _ _ b a0 _ _ => F_callV (as := [.int a0]) (rest := []) mq12 (Or.inl h12_54) (rfl : _ = some (65, 6, 13, 0)) (Or.inl ⟨h12_54, by decide⟩) (by rfl) (by rfl) (by rfl) (Nat.le_of_ble_eq_true rfl),
  fun _ _ _ _ _ _ _ _ _ hm => (mFr_S mq12 h12_57).trans (by simp only [mgo.eq_1, mstep, mi1, ml1, mast, mst, mst2, mprev, List.length_cons, List.length_nil, List.getElem?_cons_succ, List.getElem?_cons_zero, hm]; rfl),
  fun _ _ _ _ _ => F_goto 110 mq12 h12_58 (by decide)⟩
theorem E12_61 : (∀ (d : Nat) (l0 : Option Value) (l1 : Option Value) (l3 : Option Value) (x : Int32) (st : List Value) (h : MH) (P : MP), mFr d 12 61 [l0, l1, some (.int x), l3] st h P = mFr d 12 62 [l0, l1, some (.int x), l3] (.int x :: st) h P) ∧
  (∀ (d : Nat) (loc : List (Option Value)) (st : List Value) (h : MH) (P : MP), mFr d 12 62 loc st h P = mFr d 12 63 loc (.int 2 :: st) h P) ∧
  (∀ (d : Nat) (loc : List (Option Value)) (x y : Int32) (st : List Value) (h : MH) (P : MP), mFr d 12 63 loc (.int y :: .int x :: st) h P = if y = 0 then False else mFr d 12 64 loc (.int (x / y) :: st) h P) ∧
  (∀ (d : Nat) (l0 : Option Value) (l1 : Option Value) (l2 : Option Value) (l3 : Option Value) (x : Int32) (st : List Value) (h : MH) (P : MP), mnl l2 = true → mFr d 12 64 [l0, l1, l2, l3] (.int x :: st) h P = mFr d 12 65 [l0, l1, l2, some (.int x)] (st) h P) ∧
  (∀ (d : Nat) (loc : List (Option Value)) (st : List Value) (h : MH) (P : MP), mFr d 12 65 loc st h P = mFr d 12 110 loc (st) h P) := ⟨fun _ _ _ _ _ _ _ _ => (mFr_S mq12 h12_61).trans rfl,
  fun _ _ _ _ _ => (mFr_S mq12 h12_62).trans rfl,
  fun _ _ _ _ _ _ _ => F_div mq12 h12_63,
  fun _ _ _ _ _ _ _ _ _ hm => (mFr_S mq12 h12_64).trans (by simp only [mgo.eq_1, mstep, mi1, ml1, mast, mst, mst2, mprev, List.length_cons, List.length_nil, List.getElem?_cons_succ, List.getElem?_cons_zero, hm]; rfl),
  fun _ _ _ _ _ => F_goto 110 mq12 h12_65 (by decide)⟩
theorem E12_68 : (∀ (d : Nat) (l1 : Option Value) (l2 : Option Value) (l3 : Option Value) (x : Nat) (st : List Value) (h : MH) (P : MP), mFr d 12 68 [some (.ref x), l1, l2, l3] st h P = mFr d 12 69 [some (.ref x), l1, l2, l3] (.ref x :: st) h P) ∧
  (∀ (d : Nat) (l0 : Option Value) (l1 : Option Value) (l3 : Option Value) (x : Int32) (st : List Value) (h : MH) (P : MP), mFr d 12 69 [l0, l1, some (.int x), l3] st h P = mFr d 12 70 [l0, l1, some (.int x), l3] (.int x :: st) h P) ∧
  (∀ (d : Nat) (loc : List (Option Value)) (b : Nat) (a0 : Int32) (h : MH) (P : MP), mFr d 12 70 loc ((.int a0) :: .ref b :: []) h P = if mrcv h b 1 = true then mRun d 13 [.ref b, .int a0] h (fun v h' => mFr d 12 73 loc (v.toList ++ []) h' P) else False) ∧
  (∀ (d : Nat) (l1 : Option Value) (l2 : Option Value) (l3 : Option Value) (x : Nat) (st : List Value) (h : MH) (P : MP), mFr d 12 73 [some (.ref x), l1, l2, l3] st h P = mFr d 12 74 [some (.ref x), l1, l2, l3] (.ref x :: st) h P) ∧
  (∀ (d : Nat) (loc : List (Option Value)) (a : Nat) (st : List Value) (h : MH) (P : MP), mFr d 12 74 loc (.ref a :: st) h P = pget h a 1 1 (fun v => mFr d 12 77 loc (v :: st) h P)) ∧
  (∀ (d : Nat) (loc : List (Option Value)) (x y : Int32) (st : List Value) (h : MH) (P : MP), mFr d 12 77 loc (.int y :: .int x :: st) h P = mFr d 12 78 loc (.int (x + y) :: st) h P) ∧
  (∀ (d : Nat) (l0 : Option Value) (l1 : Option Value) (l2 : Option Value) (l3 : Option Value) (x : Int32) (st : List Value) (h : MH) (P : MP), mnl l2 = true → mFr d 12 78 [l0, l1, l2, l3] (.int x :: st) h P = mFr d 12 79 [l0, l1, l2, some (.int x)] (st) h P) ∧
  (∀ (d : Nat) (loc : List (Option Value)) (st : List Value) (h : MH) (P : MP), mFr d 12 79 loc st h P = mFr d 12 110 loc (st) h P) := ⟨fun _ _ _ _ _ _ _ _ => (mFr_S mq12 h12_68).trans rfl,
  fun _ _ _ _ _ _ _ _ => (mFr_S mq12 h12_69).trans rfl,
  fun _ _ b a0 _ _ => F_callV (as := [.int a0]) (rest := []) mq12 (Or.inl h12_70) (rfl : _ = some (65, 6, 13, 0)) (Or.inl ⟨h12_70, by decide⟩) (by rfl) (by rfl) (by rfl) (Nat.le_of_ble_eq_true rfl),
  fun _ _ _ _ _ _ _ _ => (mFr_S mq12 h12_73).trans rfl,
  fun _ _ _ _ _ _ => F_get mq12 h12_74 (Or.inl (rfl : _ = some (15, 0, 1, 1))),
  fun _ _ _ _ _ _ _ => (mFr_S mq12 h12_77).trans rfl,
  fun _ _ _ _ _ _ _ _ _ hm => (mFr_S mq12 h12_78).trans (by simp only [mgo.eq_1, mstep, mi1, ml1, mast, mst, mst2, mprev, List.length_cons, List.length_nil, List.getElem?_cons_succ, List.getElem?_cons_zero, hm]; rfl),
  fun _ _ _ _ _ => F_goto 110 mq12 h12_79 (by decide)⟩
theorem E12_82 : (∀ (d : Nat) (l0 : Option Value) (l2 : Option Value) (l3 : Option Value) (x : Nat) (st : List Value) (h : MH) (P : MP), mFr d 12 82 [l0, some (.ref x), l2, l3] st h P = mFr d 12 83 [l0, some (.ref x), l2, l3] (.ref x :: st) h P) ∧
  (∀ (d : Nat) (l0 : Option Value) (l2 : Option Value) (l3 : Option Value) (st : List Value) (h : MH) (P : MP), mFr d 12 82 [l0, some .null, l2, l3] st h P = mFr d 12 83 [l0, some .null, l2, l3] (.null :: st) h P) ∧
  (∀ (d : Nat) (l1 : Option Value) (l2 : Option Value) (l3 : Option Value) (x : Nat) (st : List Value) (h : MH) (P : MP), mFr d 12 83 [some (.ref x), l1, l2, l3] st h P = mFr d 12 84 [some (.ref x), l1, l2, l3] (.ref x :: st) h P) ∧
  (∀ (d : Nat) (loc : List (Option Value)) (a : Nat) (st : List Value) (h : MH) (P : MP), mFr d 12 84 loc (.ref a :: st) h P = pget h a 1 3 (fun v => mFr d 12 87 loc (v :: st) h P)) ∧
  (∀ (d : Nat) (loc : List (Option Value)) (b : Nat) (a0 : Int32) (h : MH) (P : MP), mFr d 12 87 loc ((.int a0) :: .ref b :: []) h P = if mrcv h b 2 = true then mRun d 17 [.ref b, .int a0] h (fun v h' => mFr d 12 90 loc (v.toList ++ []) h' P) else False) ∧
  (∀ (d : Nat) (loc : List (Option Value)) (st : List Value) (h : MH) (P : MP), mFr d 12 90 loc st h P = mFr d 12 91 loc (.int 4 :: st) h P) ∧
  (∀ (d : Nat) (loc : List (Option Value)) (x y : Int32) (st : List Value) (h : MH) (P : MP), mFr d 12 91 loc (.int y :: .int x :: st) h P = if x < y then mFr d 12 94 loc (st) h P else mFr d 12 98 loc (st) h P) := ⟨fun _ _ _ _ _ _ _ _ => (mFr_S mq12 h12_82).trans rfl,
  fun _ _ _ _ _ _ _ => (mFr_S mq12 h12_82).trans rfl,
  fun _ _ _ _ _ _ _ _ => (mFr_S mq12 h12_83).trans rfl,
  fun _ _ _ _ _ _ => F_get mq12 h12_84 (Or.inl (rfl : _ = some (21, 0, 1, 3))),
  fun _ _ b a0 _ _ => F_callV (as := [.int a0]) (rest := []) mq12 (Or.inl h12_87) (rfl : _ = some (69, 6, 17, 1)) (Or.inl ⟨h12_87, by decide⟩) (by rfl) (by rfl) (by rfl) (Nat.le_of_ble_eq_true rfl),
  fun _ _ _ _ _ => (mFr_S mq12 h12_90).trans rfl,
  fun _ _ _ _ _ _ _ => (F_icmp 98 mq12 h12_91 (by decide)).trans mif_ge⟩
theorem E12_94 : (∀ (d : Nat) (loc : List (Option Value)) (st : List Value) (h : MH) (P : MP), mFr d 12 94 loc st h P = mFr d 12 95 loc (.int 0 :: st) h P) ∧
  (∀ (d : Nat) (loc : List (Option Value)) (st : List Value) (h : MH) (P : MP), mFr d 12 95 loc st h P = mFr d 12 101 loc (st) h P) := ⟨fun _ _ _ _ _ => (mFr_S mq12 h12_94).trans rfl,
  fun _ _ _ _ _ => F_goto 101 mq12 h12_95 (by decide)⟩
theorem E12_98 : (∀ (d : Nat) (l0 : Option Value) (l1 : Option Value) (l3 : Option Value) (x : Int32) (st : List Value) (h : MH) (P : MP), mFr d 12 98 [l0, l1, some (.int x), l3] st h P = mFr d 12 99 [l0, l1, some (.int x), l3] (.int x :: st) h P) ∧
  (∀ (d : Nat) (loc : List (Option Value)) (st : List Value) (h : MH) (P : MP), mFr d 12 99 loc st h P = mFr d 12 100 loc (.int 2 :: st) h P) ∧
  (∀ (d : Nat) (loc : List (Option Value)) (x y : Int32) (st : List Value) (h : MH) (P : MP), mFr d 12 100 loc (.int y :: .int x :: st) h P = if y = 0 then False else mFr d 12 101 loc (.int (x / y) :: st) h P) := ⟨fun _ _ _ _ _ _ _ _ => (mFr_S mq12 h12_98).trans rfl,
  fun _ _ _ _ _ => (mFr_S mq12 h12_99).trans rfl,
  fun _ _ _ _ _ _ _ => F_div mq12 h12_100⟩
theorem E12_101 : (∀ (d : Nat) (l0 : Option Value) (l1 : Option Value) (l2 : Option Value) (l3 : Option Value) (x : Int32) (st : List Value) (h : MH) (P : MP), mnl l2 = true → mFr d 12 101 [l0, l1, l2, l3] (.int x :: st) h P = mFr d 12 102 [l0, l1, l2, some (.int x)] (st) h P) ∧
  (∀ (d : Nat) (loc : List (Option Value)) (st : List Value) (h : MH) (P : MP), mFr d 12 102 loc st h P = mFr d 12 110 loc (st) h P) := ⟨fun _ _ _ _ _ _ _ _ _ hm => (mFr_S mq12 h12_101).trans (by simp only [mgo.eq_1, mstep, mi1, ml1, mast, mst, mst2, mprev, List.length_cons, List.length_nil, List.getElem?_cons_succ, List.getElem?_cons_zero, hm]; rfl),
  fun _ _ _ _ _ => F_goto 110 mq12 h12_102 (by decide)⟩
theorem E12_105 : (∀ (d : Nat) (loc : List (Option Value)) (st : List Value) (h : MH) (P : MP), mFr d 12 105 loc st h P = mFr d 12 106 loc (.int 0 :: st) h P) ∧
  (∀ (d : Nat) (l0 : Option Value) (l1 : Option Value) (l2 : Option Value) (l3 : Option Value) (x : Int32) (st : List Value) (h : MH) (P : MP), mnl l2 = true → mFr d 12 106 [l0, l1, l2, l3] (.int x :: st) h P = mFr d 12 107 [l0, l1, l2, some (.int x)] (st) h P) ∧
  (∀ (d : Nat) (loc : List (Option Value)) (st : List Value) (h : MH) (P : MP), mFr d 12 107 loc st h P = mFr d 12 110 loc (st) h P) := ⟨fun _ _ _ _ _ => (mFr_S mq12 h12_105).trans rfl,
  fun _ _ _ _ _ _ _ _ _ hm => (mFr_S mq12 h12_106).trans (by simp only [mgo.eq_1, mstep, mi1, ml1, mast, mst, mst2, mprev, List.length_cons, List.length_nil, List.getElem?_cons_succ, List.getElem?_cons_zero, hm]; rfl),
  fun _ _ _ _ _ => F_goto 110 mq12 h12_107 (by decide)⟩
theorem E12_110 : (∀ (d : Nat) (loc : List (Option Value)) (st : List Value) (h : MH) (P : MP), mFr d 12 110 loc st h P = mFr d 12 111 loc (.int 0 :: st) h P) ∧
  (∀ (d : Nat) (l0 : Option Value) (l1 : Option Value) (l2 : Option Value) (x : Int32) (st : List Value) (h : MH) (P : MP), mFr d 12 111 [l0, l1, l2, some (.int x)] st h P = mFr d 12 112 [l0, l1, l2, some (.int x)] (.int x :: st) h P) ∧
  (∀ (d : Nat) (loc : List (Option Value)) (st : List Value) (h : MH) (P : MP), mFr d 12 112 loc st h P = mFr d 12 114 loc (.int 99 :: st) h P) ∧
  (∀ (d : Nat) (loc : List (Option Value)) (x y : Int32) (s0 : Int32) (h : MH) (P : MP), mFr d 12 114 loc (.int y :: .int x :: [.int s0]) h P = mFr d 12 117 loc (.int (if y < x then y else x) :: [.int s0]) h P) ∧
  (∀ (d : Nat) (loc : List (Option Value)) (x y : Int32) (h : MH) (P : MP), mFr d 12 117 loc (.int y :: .int x :: []) h P = mFr d 12 120 loc (.int (if x < y then y else x) :: []) h P) ∧
  (∀ (d : Nat) (loc : List (Option Value)) (x : Int32) (h : MH) (P : MP), mFr d 12 120 loc [.int x] h P = P (some (.int x)) h) := ⟨fun _ _ _ _ _ => (mFr_S mq12 h12_110).trans rfl,
  fun _ _ _ _ _ _ _ _ => (mFr_S mq12 h12_111).trans rfl,
  fun _ _ _ _ _ => (mFr_S mq12 h12_112).trans rfl,
  fun _ _ _ _ _ _ _ => F_min mq12 h12_114 (rfl : _ = some (44, 11, 0, 0)) (Nat.le_of_ble_eq_true rfl),
  fun _ _ _ _ _ _ => F_max mq12 h12_117 (rfl : _ = some (50, 10, 0, 0)) (Nat.le_of_ble_eq_true rfl),
  fun _ _ _ _ _ => F_ret mq12 h12_120 rfl rfl⟩
theorem B12 : ∀ (d : Nat) (b : Nat) (a0 : Nat) (h : MH) (P : MP), mRun (d + 1) 12 [.ref b, .ref a0] h P = mFr d 12 0 [some (.ref b), some (.ref a0), none, none] [] h P := fun _ _ _ _ _ => mRun_S mq12 (Nat.le_of_ble_eq_true rfl)
-- 13: PuncturesAreViews$Rider.curateLets(I)I
def q13 : MI := (yX1_curateLets, cX1_curateLets, 2, (some .int), 1, 1)
theorem mq13 : mtab[13]? = some q13 := rfl
theorem h13_0 : mfetch q13.2.1 0 = some (.aload_n 0) := by decide +kernel
theorem h13_1 : mfetch q13.2.1 1 = some (.getfield 21) := by decide +kernel
theorem h13_4 : mfetch q13.2.1 4 = some (.iconst 5) := by decide +kernel
theorem h13_5 : mfetch q13.2.1 5 = some (.irem) := by decide +kernel
theorem h13_6 : mfetch q13.2.1 6 = some (.aload_n 0) := by decide +kernel
theorem h13_7 : mfetch q13.2.1 7 = some (.getfield 15) := by decide +kernel
theorem h13_10 : mfetch q13.2.1 10 = some (.iconst 5) := by decide +kernel
theorem h13_11 : mfetch q13.2.1 11 = some (.irem) := by decide +kernel
theorem h13_12 : mfetch q13.2.1 12 = some (.if_icmp .ne 9) := by decide +kernel
theorem h13_15 : mfetch q13.2.1 15 = some (.iconst 2) := by decide +kernel
theorem h13_16 : mfetch q13.2.1 16 = some (.iload_n 1) := by decide +kernel
theorem h13_17 : mfetch q13.2.1 17 = some (.imul) := by decide +kernel
theorem h13_18 : mfetch q13.2.1 18 = some (.goto 4) := by decide +kernel
theorem h13_21 : mfetch q13.2.1 21 = some (.iload_n 1) := by decide +kernel
theorem h13_22 : mfetch q13.2.1 22 = some (.ireturn) := by decide +kernel
theorem E13_0 : (∀ (d : Nat) (l1 : Option Value) (x : Nat) (st : List Value) (h : MH) (P : MP), mFr d 13 0 [some (.ref x), l1] st h P = mFr d 13 1 [some (.ref x), l1] (.ref x :: st) h P) ∧
  (∀ (d : Nat) (loc : List (Option Value)) (a : Nat) (st : List Value) (h : MH) (P : MP), mFr d 13 1 loc (.ref a :: st) h P = pget h a 1 3 (fun v => mFr d 13 4 loc (v :: st) h P)) ∧
  (∀ (d : Nat) (loc : List (Option Value)) (st : List Value) (h : MH) (P : MP), mFr d 13 4 loc st h P = mFr d 13 5 loc (.int 5 :: st) h P) ∧
  (∀ (d : Nat) (loc : List (Option Value)) (x y : Int32) (st : List Value) (h : MH) (P : MP), mFr d 13 5 loc (.int y :: .int x :: st) h P = if y = 0 then False else mFr d 13 6 loc (.int (x - x / y * y) :: st) h P) ∧
  (∀ (d : Nat) (l1 : Option Value) (x : Nat) (st : List Value) (h : MH) (P : MP), mFr d 13 6 [some (.ref x), l1] st h P = mFr d 13 7 [some (.ref x), l1] (.ref x :: st) h P) ∧
  (∀ (d : Nat) (loc : List (Option Value)) (a : Nat) (st : List Value) (h : MH) (P : MP), mFr d 13 7 loc (.ref a :: st) h P = pget h a 1 1 (fun v => mFr d 13 10 loc (v :: st) h P)) ∧
  (∀ (d : Nat) (loc : List (Option Value)) (st : List Value) (h : MH) (P : MP), mFr d 13 10 loc st h P = mFr d 13 11 loc (.int 5 :: st) h P) ∧
  (∀ (d : Nat) (loc : List (Option Value)) (x y : Int32) (st : List Value) (h : MH) (P : MP), mFr d 13 11 loc (.int y :: .int x :: st) h P = if y = 0 then False else mFr d 13 12 loc (.int (x - x / y * y) :: st) h P) ∧
  (∀ (d : Nat) (loc : List (Option Value)) (x y : Int32) (st : List Value) (h : MH) (P : MP), mFr d 13 12 loc (.int y :: .int x :: st) h P = if x = y then mFr d 13 15 loc (st) h P else mFr d 13 21 loc (st) h P) := ⟨fun _ _ _ _ _ _ => (mFr_S mq13 h13_0).trans rfl,
  fun _ _ _ _ _ _ => F_get mq13 h13_1 (Or.inl (rfl : _ = some (21, 0, 1, 3))),
  fun _ _ _ _ _ => (mFr_S mq13 h13_4).trans rfl,
  fun _ _ _ _ _ _ _ => F_rem mq13 h13_5,
  fun _ _ _ _ _ _ => (mFr_S mq13 h13_6).trans rfl,
  fun _ _ _ _ _ _ => F_get mq13 h13_7 (Or.inl (rfl : _ = some (15, 0, 1, 1))),
  fun _ _ _ _ _ => (mFr_S mq13 h13_10).trans rfl,
  fun _ _ _ _ _ _ _ => F_rem mq13 h13_11,
  fun _ _ _ _ _ _ _ => (F_icmp 21 mq13 h13_12 (by decide)).trans mif_ne⟩
theorem E13_15 : (∀ (d : Nat) (loc : List (Option Value)) (st : List Value) (h : MH) (P : MP), mFr d 13 15 loc st h P = mFr d 13 16 loc (.int 2 :: st) h P) ∧
  (∀ (d : Nat) (l0 : Option Value) (x : Int32) (st : List Value) (h : MH) (P : MP), mFr d 13 16 [l0, some (.int x)] st h P = mFr d 13 17 [l0, some (.int x)] (.int x :: st) h P) ∧
  (∀ (d : Nat) (loc : List (Option Value)) (x y : Int32) (st : List Value) (h : MH) (P : MP), mFr d 13 17 loc (.int y :: .int x :: st) h P = mFr d 13 18 loc (.int (x * y) :: st) h P) ∧
  (∀ (d : Nat) (loc : List (Option Value)) (st : List Value) (h : MH) (P : MP), mFr d 13 18 loc st h P = mFr d 13 22 loc (st) h P) := ⟨fun _ _ _ _ _ => (mFr_S mq13 h13_15).trans rfl,
  fun _ _ _ _ _ _ => (mFr_S mq13 h13_16).trans rfl,
  fun _ _ _ _ _ _ _ => (mFr_S mq13 h13_17).trans rfl,
  fun _ _ _ _ _ => F_goto 22 mq13 h13_18 (by decide)⟩
theorem E13_21 : (∀ (d : Nat) (l0 : Option Value) (x : Int32) (st : List Value) (h : MH) (P : MP), mFr d 13 21 [l0, some (.int x)] st h P = mFr d 13 22 [l0, some (.int x)] (.int x :: st) h P) := fun _ _ _ _ _ _ => (mFr_S mq13 h13_21).trans rfl
theorem E13_22 : (∀ (d : Nat) (loc : List (Option Value)) (x : Int32) (h : MH) (P : MP), mFr d 13 22 loc [.int x] h P = P (some (.int x)) h) := fun _ _ _ _ _ => F_ret mq13 h13_22 rfl rfl
theorem B13 : ∀ (d : Nat) (b : Nat) (a0 : Int32) (h : MH) (P : MP), mRun (d + 1) 13 [.ref b, .int a0] h P = mFr d 13 0 [some (.ref b), some (.int a0)] [] h P := fun _ _ _ _ _ => mRun_S mq13 (Nat.le_of_ble_eq_true rfl)
-- 14: PuncturesAreViews$Rider.holdsBehindPatch(LPuncturesAreViews$Road;)I
def q14 : MI := (yX1_holdsBehindPatch, cX1_holdsBehindPatch, 4, (some .int), 1, 1)
theorem mq14 : mtab[14]? = some q14 := rfl
theorem h14_0 : mfetch q14.2.1 0 = some (.aload_n 1) := by decide +kernel
theorem h14_1 : mfetch q14.2.1 1 = some (.getfield 53) := by decide +kernel
theorem h14_4 : mfetch q14.2.1 4 = some (.iconst 1) := by decide +kernel
theorem h14_5 : mfetch q14.2.1 5 = some (.aload_n 0) := by decide +kernel
theorem h14_6 : mfetch q14.2.1 6 = some (.aload_n 1) := by decide +kernel
theorem h14_7 : mfetch q14.2.1 7 = some (.invokevirtual 59) := by decide +kernel
theorem h14_10 : mfetch q14.2.1 10 = some (.istore_n 2) := by decide +kernel
theorem h14_11 : mfetch q14.2.1 11 = some (.iload_n 2) := by decide +kernel
theorem h14_12 : mfetch q14.2.1 12 = some (.istore_n 3) := by decide +kernel
theorem h14_13 : mfetch q14.2.1 13 = some (.aload_n 0) := by decide +kernel
theorem h14_14 : mfetch q14.2.1 14 = some (.getfield 9) := by decide +kernel
theorem h14_17 : mfetch q14.2.1 17 = some (.tableswitch 65 1 5 #[35, 65, 43, 53, 60]) := by decide +kernel
theorem h14_52 : mfetch q14.2.1 52 = some (.iload_n 2) := by decide +kernel
theorem h14_53 : mfetch q14.2.1 53 = some (.bipush 10) := by decide +kernel
theorem h14_55 : mfetch q14.2.1 55 = some (.isub) := by decide +kernel
theorem h14_56 : mfetch q14.2.1 56 = some (.istore_n 3) := by decide +kernel
theorem h14_57 : mfetch q14.2.1 57 = some (.goto 25) := by decide +kernel
theorem h14_60 : mfetch q14.2.1 60 = some (.iload_n 2) := by decide +kernel
theorem h14_61 : mfetch q14.2.1 61 = some (.bipush 10) := by decide +kernel
theorem h14_63 : mfetch q14.2.1 63 = some (.isub) := by decide +kernel
theorem h14_64 : mfetch q14.2.1 64 = some (.iconst 2) := by decide +kernel
theorem h14_65 : mfetch q14.2.1 65 = some (.idiv) := by decide +kernel
theorem h14_66 : mfetch q14.2.1 66 = some (.istore_n 3) := by decide +kernel
theorem h14_67 : mfetch q14.2.1 67 = some (.goto 15) := by decide +kernel
theorem h14_70 : mfetch q14.2.1 70 = some (.iload_n 2) := by decide +kernel
theorem h14_71 : mfetch q14.2.1 71 = some (.iconst 5) := by decide +kernel
theorem h14_72 : mfetch q14.2.1 72 = some (.iadd) := by decide +kernel
theorem h14_73 : mfetch q14.2.1 73 = some (.istore_n 3) := by decide +kernel
theorem h14_74 : mfetch q14.2.1 74 = some (.goto 8) := by decide +kernel
theorem h14_77 : mfetch q14.2.1 77 = some (.iconst 1) := by decide +kernel
theorem h14_78 : mfetch q14.2.1 78 = some (.istore_n 3) := by decide +kernel
theorem h14_79 : mfetch q14.2.1 79 = some (.goto 3) := by decide +kernel
theorem h14_82 : mfetch q14.2.1 82 = some (.iconst 1) := by decide +kernel
theorem h14_83 : mfetch q14.2.1 83 = some (.iload_n 3) := by decide +kernel
theorem h14_84 : mfetch q14.2.1 84 = some (.bipush 99) := by decide +kernel
theorem h14_86 : mfetch q14.2.1 86 = some (.invokestatic 44) := by decide +kernel
theorem h14_89 : mfetch q14.2.1 89 = some (.invokestatic 50) := by decide +kernel
theorem h14_92 : mfetch q14.2.1 92 = some (.ireturn) := by decide +kernel
theorem E14_0 : (∀ (d : Nat) (l0 : Option Value) (l2 : Option Value) (l3 : Option Value) (x : Nat) (st : List Value) (h : MH) (P : MP), mFr d 14 0 [l0, some (.ref x), l2, l3] st h P = mFr d 14 1 [l0, some (.ref x), l2, l3] (.ref x :: st) h P) ∧
  (∀ (d : Nat) (l0 : Option Value) (l2 : Option Value) (l3 : Option Value) (st : List Value) (h : MH) (P : MP), mFr d 14 0 [l0, some .null, l2, l3] st h P = mFr d 14 1 [l0, some .null, l2, l3] (.null :: st) h P) ∧
  (∀ (d : Nat) (loc : List (Option Value)) (a : Nat) (st : List Value) (h : MH) (P : MP), mFr d 14 1 loc (.ref a :: st) h P = pget h a 2 2 (fun v => mFr d 14 4 loc (v :: st) h P)) ∧
  (∀ (d : Nat) (loc : List (Option Value)) (st : List Value) (h : MH) (P : MP), mFr d 14 4 loc st h P = mFr d 14 5 loc (.int 1 :: st) h P) ∧
  (∀ (d : Nat) (l1 : Option Value) (l2 : Option Value) (l3 : Option Value) (x : Nat) (st : List Value) (h : MH) (P : MP), mFr d 14 5 [some (.ref x), l1, l2, l3] st h P = mFr d 14 6 [some (.ref x), l1, l2, l3] (.ref x :: st) h P) ∧
  (∀ (d : Nat) (l0 : Option Value) (l2 : Option Value) (l3 : Option Value) (x : Nat) (st : List Value) (h : MH) (P : MP), mFr d 14 6 [l0, some (.ref x), l2, l3] st h P = mFr d 14 7 [l0, some (.ref x), l2, l3] (.ref x :: st) h P) ∧
  (∀ (d : Nat) (l0 : Option Value) (l2 : Option Value) (l3 : Option Value) (st : List Value) (h : MH) (P : MP), mFr d 14 6 [l0, some .null, l2, l3] st h P = mFr d 14 7 [l0, some .null, l2, l3] (.null :: st) h P) ∧
  (∀ (d : Nat) (loc : List (Option Value)) (b : Nat) (a0 : Int32) (a1 : Nat) (a2 : Nat) (h : MH) (P : MP), mFr d 14 7 loc ((.ref a2) :: (.ref a1) :: (.int a0) :: .ref b :: []) h P = if mrcv h b 5 = true then mRun d 33 [.ref b, .int a0, .ref a1, .ref a2] h (fun v h' => mFr d 14 10 loc (v.toList ++ []) h' P) else False) ∧
  (∀ (d : Nat) (l0 : Option Value) (l1 : Option Value) (l2 : Option Value) (l3 : Option Value) (x : Int32) (st : List Value) (h : MH) (P : MP), mnl l1 = true → mFr d 14 10 [l0, l1, l2, l3] (.int x :: st) h P = mFr d 14 11 [l0, l1, some (.int x), l3] (st) h P) ∧
  (∀ (d : Nat) (l0 : Option Value) (l1 : Option Value) (l3 : Option Value) (x : Int32) (st : List Value) (h : MH) (P : MP), mFr d 14 11 [l0, l1, some (.int x), l3] st h P = mFr d 14 12 [l0, l1, some (.int x), l3] (.int x :: st) h P) ∧
  (∀ (d : Nat) (l0 : Option Value) (l1 : Option Value) (l2 : Option Value) (l3 : Option Value) (x : Int32) (st : List Value) (h : MH) (P : MP), mnl l2 = true → mFr d 14 12 [l0, l1, l2, l3] (.int x :: st) h P = mFr d 14 13 [l0, l1, l2, some (.int x)] (st) h P) ∧
  (∀ (d : Nat) (l1 : Option Value) (l2 : Option Value) (l3 : Option Value) (x : Nat) (st : List Value) (h : MH) (P : MP), mFr d 14 13 [some (.ref x), l1, l2, l3] st h P = mFr d 14 14 [some (.ref x), l1, l2, l3] (.ref x :: st) h P) ∧
  (∀ (d : Nat) (loc : List (Option Value)) (a : Nat) (st : List Value) (h : MH) (P : MP), mFr d 14 14 loc (.ref a :: st) h P = pget h a 1 0 (fun v => mFr d 14 17 loc (v :: st) h P)) ∧
  (∀ (d : Nat) (loc : List (Option Value)) (x : Int32) (st : List Value) (h : MH) (P : MP), mFr d 14 17 loc (.int x :: st) h P = if x = 1 then mFr d 14 52 loc (st) h P else if x = 2 then mFr d 14 82 loc (st) h P else if x = 3 then mFr d 14 60 loc (st) h P else if x = 4 then mFr d 14 70 loc (st) h P else if x = 5 then mFr d 14 77 loc (st) h P else mFr d 14 82 loc (st) h P) := ⟨fun _ _ _ _ _ _ _ _ => (mFr_S mq14 h14_0).trans rfl,
  fun _ _ _ _ _ _ _ => (mFr_S mq14 h14_0).trans rfl,
  fun _ _ _ _ _ _ => F_get mq14 h14_1 (Or.inr (rfl : _ = some (53, 1, 2, 2))),
  fun _ _ _ _ _ => (mFr_S mq14 h14_4).trans rfl,
  fun _ _ _ _ _ _ _ _ => (mFr_S mq14 h14_5).trans rfl,
  fun _ _ _ _ _ _ _ _ => (mFr_S mq14 h14_6).trans rfl,
  fun _ _ _ _ _ _ _ => (mFr_S mq14 h14_6).trans rfl,
  fun _ _ b a0 a1 a2 _ _ => F_callV (as := [.int a0, .ref a1, .ref a2]) (rest := []) mq14 (Or.inl h14_7) (rfl : _ = some (59, 6, 33, 1)) (Or.inl ⟨h14_7, by decide⟩) (by rfl) (by rfl) (by rfl) (Nat.le_of_ble_eq_true rfl),
  fun _ _ _ _ _ _ _ _ _ hm => (mFr_S mq14 h14_10).trans (by simp only [mgo.eq_1, mstep, mi1, ml1, mast, mst, mst2, mprev, List.length_cons, List.length_nil, List.getElem?_cons_succ, List.getElem?_cons_zero, hm]; rfl),
  fun _ _ _ _ _ _ _ _ => (mFr_S mq14 h14_11).trans rfl,
  fun _ _ _ _ _ _ _ _ _ hm => (mFr_S mq14 h14_12).trans (by simp only [mgo.eq_1, mstep, mi1, ml1, mast, mst, mst2, mprev, List.length_cons, List.length_nil, List.getElem?_cons_succ, List.getElem?_cons_zero, hm]; rfl),
  fun _ _ _ _ _ _ _ _ => (mFr_S mq14 h14_13).trans rfl,
  fun _ _ _ _ _ _ => F_get mq14 h14_14 (Or.inl (rfl : _ = some (9, 0, 1, 0))),
  fun _ _ _ _ _ _ => F_table 82 [(1, 52), (2, 82), (3, 60), (4, 70), (5, 77)] mq14 h14_17 (by decide) (by decide +kernel) (by decide)⟩
theorem E14_52 : (∀ (d : Nat) (l0 : Option Value) (l1 : Option Value) (l3 : Option Value) (x : Int32) (st : List Value) (h : MH) (P : MP), mFr d 14 52 [l0, l1, some (.int x), l3] st h P = mFr d 14 53 [l0, l1, some (.int x), l3] (.int x :: st) h P) ∧
  (∀ (d : Nat) (loc : List (Option Value)) (st : List Value) (h : MH) (P : MP), mFr d 14 53 loc st h P = mFr d 14 55 loc (.int 10 :: st) h P) ∧
  (∀ (d : Nat) (loc : List (Option Value)) (x y : Int32) (st : List Value) (h : MH) (P : MP), mFr d 14 55 loc (.int y :: .int x :: st) h P = mFr d 14 56 loc (.int (x - y) :: st) h P) ∧
  (∀ (d : Nat) (l0 : Option Value) (l1 : Option Value) (l2 : Option Value) (l3 : Option Value) (x : Int32) (st : List Value) (h : MH) (P : MP), mnl l2 = true → mFr d 14 56 [l0, l1, l2, l3] (.int x :: st) h P = mFr d 14 57 [l0, l1, l2, some (.int x)] (st) h P) ∧
  (∀ (d : Nat) (loc : List (Option Value)) (st : List Value) (h : MH) (P : MP), mFr d 14 57 loc st h P = mFr d 14 82 loc (st) h P) := ⟨fun _ _ _ _ _ _ _ _ => (mFr_S mq14 h14_52).trans rfl,
  fun _ _ _ _ _ => (mFr_S mq14 h14_53).trans rfl,
  fun _ _ _ _ _ _ _ => (mFr_S mq14 h14_55).trans rfl,
  fun _ _ _ _ _ _ _ _ _ hm => (mFr_S mq14 h14_56).trans (by simp only [mgo.eq_1, mstep, mi1, ml1, mast, mst, mst2, mprev, List.length_cons, List.length_nil, List.getElem?_cons_succ, List.getElem?_cons_zero, hm]; rfl),
  fun _ _ _ _ _ => F_goto 82 mq14 h14_57 (by decide)⟩
theorem E14_60 : (∀ (d : Nat) (l0 : Option Value) (l1 : Option Value) (l3 : Option Value) (x : Int32) (st : List Value) (h : MH) (P : MP), mFr d 14 60 [l0, l1, some (.int x), l3] st h P = mFr d 14 61 [l0, l1, some (.int x), l3] (.int x :: st) h P) ∧
  (∀ (d : Nat) (loc : List (Option Value)) (st : List Value) (h : MH) (P : MP), mFr d 14 61 loc st h P = mFr d 14 63 loc (.int 10 :: st) h P) ∧
  (∀ (d : Nat) (loc : List (Option Value)) (x y : Int32) (st : List Value) (h : MH) (P : MP), mFr d 14 63 loc (.int y :: .int x :: st) h P = mFr d 14 64 loc (.int (x - y) :: st) h P) ∧
  (∀ (d : Nat) (loc : List (Option Value)) (st : List Value) (h : MH) (P : MP), mFr d 14 64 loc st h P = mFr d 14 65 loc (.int 2 :: st) h P) ∧
  (∀ (d : Nat) (loc : List (Option Value)) (x y : Int32) (st : List Value) (h : MH) (P : MP), mFr d 14 65 loc (.int y :: .int x :: st) h P = if y = 0 then False else mFr d 14 66 loc (.int (x / y) :: st) h P) ∧
  (∀ (d : Nat) (l0 : Option Value) (l1 : Option Value) (l2 : Option Value) (l3 : Option Value) (x : Int32) (st : List Value) (h : MH) (P : MP), mnl l2 = true → mFr d 14 66 [l0, l1, l2, l3] (.int x :: st) h P = mFr d 14 67 [l0, l1, l2, some (.int x)] (st) h P) ∧
  (∀ (d : Nat) (loc : List (Option Value)) (st : List Value) (h : MH) (P : MP), mFr d 14 67 loc st h P = mFr d 14 82 loc (st) h P) := ⟨fun _ _ _ _ _ _ _ _ => (mFr_S mq14 h14_60).trans rfl,
  fun _ _ _ _ _ => (mFr_S mq14 h14_61).trans rfl,
  fun _ _ _ _ _ _ _ => (mFr_S mq14 h14_63).trans rfl,
  fun _ _ _ _ _ => (mFr_S mq14 h14_64).trans rfl,
  fun _ _ _ _ _ _ _ => F_div mq14 h14_65,
  fun _ _ _ _ _ _ _ _ _ hm => (mFr_S mq14 h14_66).trans (by simp only [mgo.eq_1, mstep, mi1, ml1, mast, mst, mst2, mprev, List.length_cons, List.length_nil, List.getElem?_cons_succ, List.getElem?_cons_zero, hm]; rfl),
  fun _ _ _ _ _ => F_goto 82 mq14 h14_67 (by decide)⟩
theorem E14_70 : (∀ (d : Nat) (l0 : Option Value) (l1 : Option Value) (l3 : Option Value) (x : Int32) (st : List Value) (h : MH) (P : MP), mFr d 14 70 [l0, l1, some (.int x), l3] st h P = mFr d 14 71 [l0, l1, some (.int x), l3] (.int x :: st) h P) ∧
  (∀ (d : Nat) (loc : List (Option Value)) (st : List Value) (h : MH) (P : MP), mFr d 14 71 loc st h P = mFr d 14 72 loc (.int 5 :: st) h P) ∧
  (∀ (d : Nat) (loc : List (Option Value)) (x y : Int32) (st : List Value) (h : MH) (P : MP), mFr d 14 72 loc (.int y :: .int x :: st) h P = mFr d 14 73 loc (.int (x + y) :: st) h P) ∧
  (∀ (d : Nat) (l0 : Option Value) (l1 : Option Value) (l2 : Option Value) (l3 : Option Value) (x : Int32) (st : List Value) (h : MH) (P : MP), mnl l2 = true → mFr d 14 73 [l0, l1, l2, l3] (.int x :: st) h P = mFr d 14 74 [l0, l1, l2, some (.int x)] (st) h P) ∧
  (∀ (d : Nat) (loc : List (Option Value)) (st : List Value) (h : MH) (P : MP), mFr d 14 74 loc st h P = mFr d 14 82 loc (st) h P) := ⟨fun _ _ _ _ _ _ _ _ => (mFr_S mq14 h14_70).trans rfl,
  fun _ _ _ _ _ => (mFr_S mq14 h14_71).trans rfl,
  fun _ _ _ _ _ _ _ => (mFr_S mq14 h14_72).trans rfl,
  fun _ _ _ _ _ _ _ _ _ hm => (mFr_S mq14 h14_73).trans (by simp only [mgo.eq_1, mstep, mi1, ml1, mast, mst, mst2, mprev, List.length_cons, List.length_nil, List.getElem?_cons_succ, List.getElem?_cons_zero, hm]; rfl),
  fun _ _ _ _ _ => F_goto 82 mq14 h14_74 (by decide)⟩
theorem E14_77 : (∀ (d : Nat) (loc : List (Option Value)) (st : List Value) (h : MH) (P : MP), mFr d 14 77 loc st h P = mFr d 14 78 loc (.int 1 :: st) h P) ∧
  (∀ (d : Nat) (l0 : Option Value) (l1 : Option Value) (l2 : Option Value) (l3 : Option Value) (x : Int32) (st : List Value) (h : MH) (P : MP), mnl l2 = true → mFr d 14 78 [l0, l1, l2, l3] (.int x :: st) h P = mFr d 14 79 [l0, l1, l2, some (.int x)] (st) h P) ∧
  (∀ (d : Nat) (loc : List (Option Value)) (st : List Value) (h : MH) (P : MP), mFr d 14 79 loc st h P = mFr d 14 82 loc (st) h P) := ⟨fun _ _ _ _ _ => (mFr_S mq14 h14_77).trans rfl,
  fun _ _ _ _ _ _ _ _ _ hm => (mFr_S mq14 h14_78).trans (by simp only [mgo.eq_1, mstep, mi1, ml1, mast, mst, mst2, mprev, List.length_cons, List.length_nil, List.getElem?_cons_succ, List.getElem?_cons_zero, hm]; rfl),
  fun _ _ _ _ _ => F_goto 82 mq14 h14_79 (by decide)⟩
theorem E14_82 : (∀ (d : Nat) (loc : List (Option Value)) (st : List Value) (h : MH) (P : MP), mFr d 14 82 loc st h P = mFr d 14 83 loc (.int 1 :: st) h P) ∧
  (∀ (d : Nat) (l0 : Option Value) (l1 : Option Value) (l2 : Option Value) (x : Int32) (st : List Value) (h : MH) (P : MP), mFr d 14 83 [l0, l1, l2, some (.int x)] st h P = mFr d 14 84 [l0, l1, l2, some (.int x)] (.int x :: st) h P) ∧
  (∀ (d : Nat) (loc : List (Option Value)) (st : List Value) (h : MH) (P : MP), mFr d 14 84 loc st h P = mFr d 14 86 loc (.int 99 :: st) h P) ∧
  (∀ (d : Nat) (loc : List (Option Value)) (x y : Int32) (s0 : Int32) (h : MH) (P : MP), mFr d 14 86 loc (.int y :: .int x :: [.int s0]) h P = mFr d 14 89 loc (.int (if y < x then y else x) :: [.int s0]) h P) ∧
  (∀ (d : Nat) (loc : List (Option Value)) (x y : Int32) (h : MH) (P : MP), mFr d 14 89 loc (.int y :: .int x :: []) h P = mFr d 14 92 loc (.int (if x < y then y else x) :: []) h P) ∧
  (∀ (d : Nat) (loc : List (Option Value)) (x : Int32) (h : MH) (P : MP), mFr d 14 92 loc [.int x] h P = P (some (.int x)) h) := ⟨fun _ _ _ _ _ => (mFr_S mq14 h14_82).trans rfl,
  fun _ _ _ _ _ _ _ _ => (mFr_S mq14 h14_83).trans rfl,
  fun _ _ _ _ _ => (mFr_S mq14 h14_84).trans rfl,
  fun _ _ _ _ _ _ _ => F_min mq14 h14_86 (rfl : _ = some (44, 11, 0, 0)) (Nat.le_of_ble_eq_true rfl),
  fun _ _ _ _ _ _ => F_max mq14 h14_89 (rfl : _ = some (50, 10, 0, 0)) (Nat.le_of_ble_eq_true rfl),
  fun _ _ _ _ _ => F_ret mq14 h14_92 rfl rfl⟩
theorem B14 : ∀ (d : Nat) (b : Nat) (a0 : Nat) (h : MH) (P : MP), mRun (d + 1) 14 [.ref b, .ref a0] h P = mFr d 14 0 [some (.ref b), some (.ref a0), none, none] [] h P := fun _ _ _ _ _ => mRun_S mq14 (Nat.le_of_ble_eq_true rfl)
-- 15: PuncturesAreViews$Rider.pumpsIn(LPuncturesAreViews$Road;)I
def q15 : MI := (yX1_pumpsIn, cX1_pumpsIn, 4, (some .int), 1, 1)
theorem mq15 : mtab[15]? = some q15 := rfl
theorem h15_0 : mfetch q15.2.1 0 = some (.aload_n 1) := by decide +kernel
theorem h15_1 : mfetch q15.2.1 1 = some (.getfield 53) := by decide +kernel
theorem h15_4 : mfetch q15.2.1 4 = some (.iconst 2) := by decide +kernel
theorem h15_5 : mfetch q15.2.1 5 = some (.aload_n 0) := by decide +kernel
theorem h15_6 : mfetch q15.2.1 6 = some (.aload_n 1) := by decide +kernel
theorem h15_7 : mfetch q15.2.1 7 = some (.invokevirtual 59) := by decide +kernel
theorem h15_10 : mfetch q15.2.1 10 = some (.istore_n 2) := by decide +kernel
theorem h15_11 : mfetch q15.2.1 11 = some (.iload_n 2) := by decide +kernel
theorem h15_12 : mfetch q15.2.1 12 = some (.istore_n 3) := by decide +kernel
theorem h15_13 : mfetch q15.2.1 13 = some (.aload_n 0) := by decide +kernel
theorem h15_14 : mfetch q15.2.1 14 = some (.getfield 9) := by decide +kernel
theorem h15_17 : mfetch q15.2.1 17 = some (.tableswitch 65 2 5 #[31, 38, 31, 57]) := by decide +kernel
theorem h15_48 : mfetch q15.2.1 48 = some (.iload_n 2) := by decide +kernel
theorem h15_49 : mfetch q15.2.1 49 = some (.iconst 1) := by decide +kernel
theorem h15_50 : mfetch q15.2.1 50 = some (.iadd) := by decide +kernel
theorem h15_51 : mfetch q15.2.1 51 = some (.istore_n 3) := by decide +kernel
theorem h15_52 : mfetch q15.2.1 52 = some (.goto 30) := by decide +kernel
theorem h15_55 : mfetch q15.2.1 55 = some (.aload_n 1) := by decide +kernel
theorem h15_56 : mfetch q15.2.1 56 = some (.getfield 72) := by decide +kernel
theorem h15_59 : mfetch q15.2.1 59 = some (.iconst 2) := by decide +kernel
theorem h15_60 : mfetch q15.2.1 60 = some (.irem) := by decide +kernel
theorem h15_61 : mfetch q15.2.1 61 = some (.iconst 1) := by decide +kernel
theorem h15_62 : mfetch q15.2.1 62 = some (.if_icmp .ne 7) := by decide +kernel
theorem h15_65 : mfetch q15.2.1 65 = some (.iconst 0) := by decide +kernel
theorem h15_66 : mfetch q15.2.1 66 = some (.goto 4) := by decide +kernel
theorem h15_69 : mfetch q15.2.1 69 = some (.iload_n 2) := by decide +kernel
theorem h15_70 : mfetch q15.2.1 70 = some (.istore_n 3) := by decide +kernel
theorem h15_71 : mfetch q15.2.1 71 = some (.goto 11) := by decide +kernel
theorem h15_74 : mfetch q15.2.1 74 = some (.aload_n 0) := by decide +kernel
theorem h15_75 : mfetch q15.2.1 75 = some (.getfield 15) := by decide +kernel
theorem h15_78 : mfetch q15.2.1 78 = some (.istore_n 3) := by decide +kernel
theorem h15_79 : mfetch q15.2.1 79 = some (.goto 3) := by decide +kernel
theorem h15_82 : mfetch q15.2.1 82 = some (.iconst 0) := by decide +kernel
theorem h15_83 : mfetch q15.2.1 83 = some (.iload_n 3) := by decide +kernel
theorem h15_84 : mfetch q15.2.1 84 = some (.bipush 99) := by decide +kernel
theorem h15_86 : mfetch q15.2.1 86 = some (.invokestatic 44) := by decide +kernel
theorem h15_89 : mfetch q15.2.1 89 = some (.invokestatic 50) := by decide +kernel
theorem h15_92 : mfetch q15.2.1 92 = some (.ireturn) := by decide +kernel
theorem E15_0 : (∀ (d : Nat) (l0 : Option Value) (l2 : Option Value) (l3 : Option Value) (x : Nat) (st : List Value) (h : MH) (P : MP), mFr d 15 0 [l0, some (.ref x), l2, l3] st h P = mFr d 15 1 [l0, some (.ref x), l2, l3] (.ref x :: st) h P) ∧
  (∀ (d : Nat) (l0 : Option Value) (l2 : Option Value) (l3 : Option Value) (st : List Value) (h : MH) (P : MP), mFr d 15 0 [l0, some .null, l2, l3] st h P = mFr d 15 1 [l0, some .null, l2, l3] (.null :: st) h P) ∧
  (∀ (d : Nat) (loc : List (Option Value)) (a : Nat) (st : List Value) (h : MH) (P : MP), mFr d 15 1 loc (.ref a :: st) h P = pget h a 2 2 (fun v => mFr d 15 4 loc (v :: st) h P)) ∧
  (∀ (d : Nat) (loc : List (Option Value)) (st : List Value) (h : MH) (P : MP), mFr d 15 4 loc st h P = mFr d 15 5 loc (.int 2 :: st) h P) ∧
  (∀ (d : Nat) (l1 : Option Value) (l2 : Option Value) (l3 : Option Value) (x : Nat) (st : List Value) (h : MH) (P : MP), mFr d 15 5 [some (.ref x), l1, l2, l3] st h P = mFr d 15 6 [some (.ref x), l1, l2, l3] (.ref x :: st) h P) ∧
  (∀ (d : Nat) (l0 : Option Value) (l2 : Option Value) (l3 : Option Value) (x : Nat) (st : List Value) (h : MH) (P : MP), mFr d 15 6 [l0, some (.ref x), l2, l3] st h P = mFr d 15 7 [l0, some (.ref x), l2, l3] (.ref x :: st) h P) ∧
  (∀ (d : Nat) (l0 : Option Value) (l2 : Option Value) (l3 : Option Value) (st : List Value) (h : MH) (P : MP), mFr d 15 6 [l0, some .null, l2, l3] st h P = mFr d 15 7 [l0, some .null, l2, l3] (.null :: st) h P) ∧
  (∀ (d : Nat) (loc : List (Option Value)) (b : Nat) (a0 : Int32) (a1 : Nat) (a2 : Nat) (h : MH) (P : MP), mFr d 15 7 loc ((.ref a2) :: (.ref a1) :: (.int a0) :: .ref b :: []) h P = if mrcv h b 5 = true then mRun d 33 [.ref b, .int a0, .ref a1, .ref a2] h (fun v h' => mFr d 15 10 loc (v.toList ++ []) h' P) else False) ∧
  (∀ (d : Nat) (l0 : Option Value) (l1 : Option Value) (l2 : Option Value) (l3 : Option Value) (x : Int32) (st : List Value) (h : MH) (P : MP), mnl l1 = true → mFr d 15 10 [l0, l1, l2, l3] (.int x :: st) h P = mFr d 15 11 [l0, l1, some (.int x), l3] (st) h P) ∧
  (∀ (d : Nat) (l0 : Option Value) (l1 : Option Value) (l3 : Option Value) (x : Int32) (st : List Value) (h : MH) (P : MP), mFr d 15 11 [l0, l1, some (.int x), l3] st h P = mFr d 15 12 [l0, l1, some (.int x), l3] (.int x :: st) h P) ∧
  (∀ (d : Nat) (l0 : Option Value) (l1 : Option Value) (l2 : Option Value) (l3 : Option Value) (x : Int32) (st : List Value) (h : MH) (P : MP), mnl l2 = true → mFr d 15 12 [l0, l1, l2, l3] (.int x :: st) h P = mFr d 15 13 [l0, l1, l2, some (.int x)] (st) h P) ∧
  (∀ (d : Nat) (l1 : Option Value) (l2 : Option Value) (l3 : Option Value) (x : Nat) (st : List Value) (h : MH) (P : MP), mFr d 15 13 [some (.ref x), l1, l2, l3] st h P = mFr d 15 14 [some (.ref x), l1, l2, l3] (.ref x :: st) h P) ∧
  (∀ (d : Nat) (loc : List (Option Value)) (a : Nat) (st : List Value) (h : MH) (P : MP), mFr d 15 14 loc (.ref a :: st) h P = pget h a 1 0 (fun v => mFr d 15 17 loc (v :: st) h P)) ∧
  (∀ (d : Nat) (loc : List (Option Value)) (x : Int32) (st : List Value) (h : MH) (P : MP), mFr d 15 17 loc (.int x :: st) h P = if x = 2 then mFr d 15 48 loc (st) h P else if x = 3 then mFr d 15 55 loc (st) h P else if x = 4 then mFr d 15 48 loc (st) h P else if x = 5 then mFr d 15 74 loc (st) h P else mFr d 15 82 loc (st) h P) := ⟨fun _ _ _ _ _ _ _ _ => (mFr_S mq15 h15_0).trans rfl,
  fun _ _ _ _ _ _ _ => (mFr_S mq15 h15_0).trans rfl,
  fun _ _ _ _ _ _ => F_get mq15 h15_1 (Or.inr (rfl : _ = some (53, 1, 2, 2))),
  fun _ _ _ _ _ => (mFr_S mq15 h15_4).trans rfl,
  fun _ _ _ _ _ _ _ _ => (mFr_S mq15 h15_5).trans rfl,
  fun _ _ _ _ _ _ _ _ => (mFr_S mq15 h15_6).trans rfl,
  fun _ _ _ _ _ _ _ => (mFr_S mq15 h15_6).trans rfl,
  fun _ _ b a0 a1 a2 _ _ => F_callV (as := [.int a0, .ref a1, .ref a2]) (rest := []) mq15 (Or.inl h15_7) (rfl : _ = some (59, 6, 33, 1)) (Or.inl ⟨h15_7, by decide⟩) (by rfl) (by rfl) (by rfl) (Nat.le_of_ble_eq_true rfl),
  fun _ _ _ _ _ _ _ _ _ hm => (mFr_S mq15 h15_10).trans (by simp only [mgo.eq_1, mstep, mi1, ml1, mast, mst, mst2, mprev, List.length_cons, List.length_nil, List.getElem?_cons_succ, List.getElem?_cons_zero, hm]; rfl),
  fun _ _ _ _ _ _ _ _ => (mFr_S mq15 h15_11).trans rfl,
  fun _ _ _ _ _ _ _ _ _ hm => (mFr_S mq15 h15_12).trans (by simp only [mgo.eq_1, mstep, mi1, ml1, mast, mst, mst2, mprev, List.length_cons, List.length_nil, List.getElem?_cons_succ, List.getElem?_cons_zero, hm]; rfl),
  fun _ _ _ _ _ _ _ _ => (mFr_S mq15 h15_13).trans rfl,
  fun _ _ _ _ _ _ => F_get mq15 h15_14 (Or.inl (rfl : _ = some (9, 0, 1, 0))),
  fun _ _ _ _ _ _ => F_table 82 [(2, 48), (3, 55), (4, 48), (5, 74)] mq15 h15_17 (by decide) (by decide +kernel) (by decide)⟩
theorem E15_48 : (∀ (d : Nat) (l0 : Option Value) (l1 : Option Value) (l3 : Option Value) (x : Int32) (st : List Value) (h : MH) (P : MP), mFr d 15 48 [l0, l1, some (.int x), l3] st h P = mFr d 15 49 [l0, l1, some (.int x), l3] (.int x :: st) h P) ∧
  (∀ (d : Nat) (loc : List (Option Value)) (st : List Value) (h : MH) (P : MP), mFr d 15 49 loc st h P = mFr d 15 50 loc (.int 1 :: st) h P) ∧
  (∀ (d : Nat) (loc : List (Option Value)) (x y : Int32) (st : List Value) (h : MH) (P : MP), mFr d 15 50 loc (.int y :: .int x :: st) h P = mFr d 15 51 loc (.int (x + y) :: st) h P) ∧
  (∀ (d : Nat) (l0 : Option Value) (l1 : Option Value) (l2 : Option Value) (l3 : Option Value) (x : Int32) (st : List Value) (h : MH) (P : MP), mnl l2 = true → mFr d 15 51 [l0, l1, l2, l3] (.int x :: st) h P = mFr d 15 52 [l0, l1, l2, some (.int x)] (st) h P) ∧
  (∀ (d : Nat) (loc : List (Option Value)) (st : List Value) (h : MH) (P : MP), mFr d 15 52 loc st h P = mFr d 15 82 loc (st) h P) := ⟨fun _ _ _ _ _ _ _ _ => (mFr_S mq15 h15_48).trans rfl,
  fun _ _ _ _ _ => (mFr_S mq15 h15_49).trans rfl,
  fun _ _ _ _ _ _ _ => (mFr_S mq15 h15_50).trans rfl,
  fun _ _ _ _ _ _ _ _ _ hm => (mFr_S mq15 h15_51).trans (by simp only [mgo.eq_1, mstep, mi1, ml1, mast, mst, mst2, mprev, List.length_cons, List.length_nil, List.getElem?_cons_succ, List.getElem?_cons_zero, hm]; rfl),
  fun _ _ _ _ _ => F_goto 82 mq15 h15_52 (by decide)⟩
theorem E15_55 : (∀ (d : Nat) (l0 : Option Value) (l2 : Option Value) (l3 : Option Value) (x : Nat) (st : List Value) (h : MH) (P : MP), mFr d 15 55 [l0, some (.ref x), l2, l3] st h P = mFr d 15 56 [l0, some (.ref x), l2, l3] (.ref x :: st) h P) ∧
  (∀ (d : Nat) (l0 : Option Value) (l2 : Option Value) (l3 : Option Value) (st : List Value) (h : MH) (P : MP), mFr d 15 55 [l0, some .null, l2, l3] st h P = mFr d 15 56 [l0, some .null, l2, l3] (.null :: st) h P) ∧
  (∀ (d : Nat) (loc : List (Option Value)) (a : Nat) (st : List Value) (h : MH) (P : MP), mFr d 15 56 loc (.ref a :: st) h P = pget h a 2 1 (fun v => mFr d 15 59 loc (v :: st) h P)) ∧
  (∀ (d : Nat) (loc : List (Option Value)) (st : List Value) (h : MH) (P : MP), mFr d 15 59 loc st h P = mFr d 15 60 loc (.int 2 :: st) h P) ∧
  (∀ (d : Nat) (loc : List (Option Value)) (x y : Int32) (st : List Value) (h : MH) (P : MP), mFr d 15 60 loc (.int y :: .int x :: st) h P = if y = 0 then False else mFr d 15 61 loc (.int (x - x / y * y) :: st) h P) ∧
  (∀ (d : Nat) (loc : List (Option Value)) (st : List Value) (h : MH) (P : MP), mFr d 15 61 loc st h P = mFr d 15 62 loc (.int 1 :: st) h P) ∧
  (∀ (d : Nat) (loc : List (Option Value)) (x y : Int32) (st : List Value) (h : MH) (P : MP), mFr d 15 62 loc (.int y :: .int x :: st) h P = if x = y then mFr d 15 65 loc (st) h P else mFr d 15 69 loc (st) h P) := ⟨fun _ _ _ _ _ _ _ _ => (mFr_S mq15 h15_55).trans rfl,
  fun _ _ _ _ _ _ _ => (mFr_S mq15 h15_55).trans rfl,
  fun _ _ _ _ _ _ => F_get mq15 h15_56 (Or.inr (rfl : _ = some (72, 1, 2, 1))),
  fun _ _ _ _ _ => (mFr_S mq15 h15_59).trans rfl,
  fun _ _ _ _ _ _ _ => F_rem mq15 h15_60,
  fun _ _ _ _ _ => (mFr_S mq15 h15_61).trans rfl,
  fun _ _ _ _ _ _ _ => (F_icmp 69 mq15 h15_62 (by decide)).trans mif_ne⟩
theorem E15_65 : (∀ (d : Nat) (loc : List (Option Value)) (st : List Value) (h : MH) (P : MP), mFr d 15 65 loc st h P = mFr d 15 66 loc (.int 0 :: st) h P) ∧
  (∀ (d : Nat) (loc : List (Option Value)) (st : List Value) (h : MH) (P : MP), mFr d 15 66 loc st h P = mFr d 15 70 loc (st) h P) := ⟨fun _ _ _ _ _ => (mFr_S mq15 h15_65).trans rfl,
  fun _ _ _ _ _ => F_goto 70 mq15 h15_66 (by decide)⟩
theorem E15_69 : (∀ (d : Nat) (l0 : Option Value) (l1 : Option Value) (l3 : Option Value) (x : Int32) (st : List Value) (h : MH) (P : MP), mFr d 15 69 [l0, l1, some (.int x), l3] st h P = mFr d 15 70 [l0, l1, some (.int x), l3] (.int x :: st) h P) := fun _ _ _ _ _ _ _ _ => (mFr_S mq15 h15_69).trans rfl
theorem E15_70 : (∀ (d : Nat) (l0 : Option Value) (l1 : Option Value) (l2 : Option Value) (l3 : Option Value) (x : Int32) (st : List Value) (h : MH) (P : MP), mnl l2 = true → mFr d 15 70 [l0, l1, l2, l3] (.int x :: st) h P = mFr d 15 71 [l0, l1, l2, some (.int x)] (st) h P) ∧
  (∀ (d : Nat) (loc : List (Option Value)) (st : List Value) (h : MH) (P : MP), mFr d 15 71 loc st h P = mFr d 15 82 loc (st) h P) := ⟨fun _ _ _ _ _ _ _ _ _ hm => (mFr_S mq15 h15_70).trans (by simp only [mgo.eq_1, mstep, mi1, ml1, mast, mst, mst2, mprev, List.length_cons, List.length_nil, List.getElem?_cons_succ, List.getElem?_cons_zero, hm]; rfl),
  fun _ _ _ _ _ => F_goto 82 mq15 h15_71 (by decide)⟩
theorem E15_74 : (∀ (d : Nat) (l1 : Option Value) (l2 : Option Value) (l3 : Option Value) (x : Nat) (st : List Value) (h : MH) (P : MP), mFr d 15 74 [some (.ref x), l1, l2, l3] st h P = mFr d 15 75 [some (.ref x), l1, l2, l3] (.ref x :: st) h P) ∧
  (∀ (d : Nat) (loc : List (Option Value)) (a : Nat) (st : List Value) (h : MH) (P : MP), mFr d 15 75 loc (.ref a :: st) h P = pget h a 1 1 (fun v => mFr d 15 78 loc (v :: st) h P)) ∧
  (∀ (d : Nat) (l0 : Option Value) (l1 : Option Value) (l2 : Option Value) (l3 : Option Value) (x : Int32) (st : List Value) (h : MH) (P : MP), mnl l2 = true → mFr d 15 78 [l0, l1, l2, l3] (.int x :: st) h P = mFr d 15 79 [l0, l1, l2, some (.int x)] (st) h P) ∧
  (∀ (d : Nat) (loc : List (Option Value)) (st : List Value) (h : MH) (P : MP), mFr d 15 79 loc st h P = mFr d 15 82 loc (st) h P) := ⟨fun _ _ _ _ _ _ _ _ => (mFr_S mq15 h15_74).trans rfl,
  fun _ _ _ _ _ _ => F_get mq15 h15_75 (Or.inl (rfl : _ = some (15, 0, 1, 1))),
  fun _ _ _ _ _ _ _ _ _ hm => (mFr_S mq15 h15_78).trans (by simp only [mgo.eq_1, mstep, mi1, ml1, mast, mst, mst2, mprev, List.length_cons, List.length_nil, List.getElem?_cons_succ, List.getElem?_cons_zero, hm]; rfl),
  fun _ _ _ _ _ => F_goto 82 mq15 h15_79 (by decide)⟩
theorem E15_82 : (∀ (d : Nat) (loc : List (Option Value)) (st : List Value) (h : MH) (P : MP), mFr d 15 82 loc st h P = mFr d 15 83 loc (.int 0 :: st) h P) ∧
  (∀ (d : Nat) (l0 : Option Value) (l1 : Option Value) (l2 : Option Value) (x : Int32) (st : List Value) (h : MH) (P : MP), mFr d 15 83 [l0, l1, l2, some (.int x)] st h P = mFr d 15 84 [l0, l1, l2, some (.int x)] (.int x :: st) h P) ∧
  (∀ (d : Nat) (loc : List (Option Value)) (st : List Value) (h : MH) (P : MP), mFr d 15 84 loc st h P = mFr d 15 86 loc (.int 99 :: st) h P) ∧
  (∀ (d : Nat) (loc : List (Option Value)) (x y : Int32) (s0 : Int32) (h : MH) (P : MP), mFr d 15 86 loc (.int y :: .int x :: [.int s0]) h P = mFr d 15 89 loc (.int (if y < x then y else x) :: [.int s0]) h P) ∧
  (∀ (d : Nat) (loc : List (Option Value)) (x y : Int32) (h : MH) (P : MP), mFr d 15 89 loc (.int y :: .int x :: []) h P = mFr d 15 92 loc (.int (if x < y then y else x) :: []) h P) ∧
  (∀ (d : Nat) (loc : List (Option Value)) (x : Int32) (h : MH) (P : MP), mFr d 15 92 loc [.int x] h P = P (some (.int x)) h) := ⟨fun _ _ _ _ _ => (mFr_S mq15 h15_82).trans rfl,
  fun _ _ _ _ _ _ _ _ => (mFr_S mq15 h15_83).trans rfl,
  fun _ _ _ _ _ => (mFr_S mq15 h15_84).trans rfl,
  fun _ _ _ _ _ _ _ => F_min mq15 h15_86 (rfl : _ = some (44, 11, 0, 0)) (Nat.le_of_ble_eq_true rfl),
  fun _ _ _ _ _ _ => F_max mq15 h15_89 (rfl : _ = some (50, 10, 0, 0)) (Nat.le_of_ble_eq_true rfl),
  fun _ _ _ _ _ => F_ret mq15 h15_92 rfl rfl⟩
theorem B15 : ∀ (d : Nat) (b : Nat) (a0 : Nat) (h : MH) (P : MP), mRun (d + 1) 15 [.ref b, .ref a0] h P = mFr d 15 0 [some (.ref b), some (.ref a0), none, none] [] h P := fun _ _ _ _ _ => mRun_S mq15 (Nat.le_of_ble_eq_true rfl)
