/-! the instructions as equations: PuncturesAreViews$Tape -/
-- 26: PuncturesAreViews$Tape.<init>()V
def q26 : MI := (yX4_init, cX4_init, 1, none, 4, 0)
theorem mq26 : mtab[26]? = some q26 := rfl
theorem h26_0 : mfetch q26.2.1 0 = some (.aload_n 0) := by decide +kernel
theorem h26_1 : mfetch q26.2.1 1 = some (.invokespecial 3) := by decide +kernel
theorem h26_4 : mfetch q26.2.1 4 = some (.aload_n 0) := by decide +kernel
theorem h26_5 : mfetch q26.2.1 5 = some (.sipush 160) := by decide +kernel
theorem h26_8 : mfetch q26.2.1 8 = some (.newarray .int) := by decide +kernel
theorem h26_10 : mfetch q26.2.1 10 = some (.putfield 9) := by decide +kernel
theorem h26_13 : mfetch q26.2.1 13 = some (.return_) := by decide +kernel
theorem E26_0 : (∀ (d : Nat) (x : Nat) (st : List Value) (h : MH) (P : MP), mFr d 26 0 [some (.ref x)] st h P = mFr d 26 1 [some (.ref x)] (.ref x :: st) h P) ∧
  (∀ (d : Nat) (loc : List (Option Value)) (a : Nat) (h : MH) (P : MP), mFr d 26 1 loc [.ref a] h P = if a < 900 then mFr d 26 4 loc ([]) h P else False) ∧
  (∀ (d : Nat) (x : Nat) (st : List Value) (h : MH) (P : MP), mFr d 26 4 [some (.ref x)] st h P = mFr d 26 5 [some (.ref x)] (.ref x :: st) h P) ∧
  (∀ (d : Nat) (loc : List (Option Value)) (st : List Value) (h : MH) (P : MP), mFr d 26 5 loc st h P = mFr d 26 8 loc (.int 160 :: st) h P) ∧
  (∀ (d : Nat) (loc : List (Option Value)) (a : Nat) (x : Nat) (st : List Value) (h : MH) (P : MP), mFr d 26 10 loc (.ref x :: .ref a :: st) h P = pput h a 4 0 (.ref x) (fun h' => mFr d 26 13 loc (st) h' P)) ∧
  (∀ (d : Nat) (loc : List (Option Value)) (h : MH) (P : MP), mFr d 26 13 loc [] h P = P none h) := ⟨fun _ _ _ _ _ => (mFr_S mq26 h26_0).trans rfl,
  fun _ _ _ _ _ => F_obj mq26 h26_1 (rfl : _ = some (3, 7, 0, 0)) (Nat.zero_le _),
  fun _ _ _ _ _ => (mFr_S mq26 h26_4).trans rfl,
  fun _ _ _ _ _ => (mFr_S mq26 h26_5).trans rfl,
  fun _ _ _ _ _ _ _ => F_put mq26 h26_10 (Or.inl ⟨(rfl : _ = some (9, 0, 4, 0)), Or.inr ⟨by decide, rfl⟩⟩),
  fun _ _ _ _ => (mFr_S mq26 h26_13).trans rfl⟩
theorem B26 : ∀ (d : Nat) (b : Nat) (h : MH) (P : MP), mRun (d + 1) 26 [.ref b] h P = mFr d 26 0 [some (.ref b)] [] h P := fun _ _ _ _ => mRun_S mq26 (Nat.le_of_ble_eq_true rfl)
-- 27: PuncturesAreViews$Tape.add(I)Z
def q27 : MI := (yX4_add, cX4_add, 2, (some .boolean), 4, 1)
theorem mq27 : mtab[27]? = some q27 := rfl
theorem h27_0 : mfetch q27.2.1 0 = some (.aload_n 0) := by decide +kernel
theorem h27_1 : mfetch q27.2.1 1 = some (.getfield 15) := by decide +kernel
theorem h27_4 : mfetch q27.2.1 4 = some (.aload_n 0) := by decide +kernel
theorem h27_5 : mfetch q27.2.1 5 = some (.getfield 9) := by decide +kernel
theorem h27_8 : mfetch q27.2.1 8 = some (.arraylength) := by decide +kernel
theorem h27_9 : mfetch q27.2.1 9 = some (.if_icmp .lt 5) := by decide +kernel
theorem h27_12 : mfetch q27.2.1 12 = some (.iconst 0) := by decide +kernel
theorem h27_13 : mfetch q27.2.1 13 = some (.ireturn) := by decide +kernel
theorem h27_14 : mfetch q27.2.1 14 = some (.aload_n 0) := by decide +kernel
theorem h27_15 : mfetch q27.2.1 15 = some (.getfield 9) := by decide +kernel
theorem h27_18 : mfetch q27.2.1 18 = some (.aload_n 0) := by decide +kernel
theorem h27_19 : mfetch q27.2.1 19 = some (.getfield 15) := by decide +kernel
theorem h27_22 : mfetch q27.2.1 22 = some (.iload_n 1) := by decide +kernel
theorem h27_23 : mfetch q27.2.1 23 = some (.iastore) := by decide +kernel
theorem h27_24 : mfetch q27.2.1 24 = some (.aload_n 0) := by decide +kernel
theorem h27_25 : mfetch q27.2.1 25 = some (.dup) := by decide +kernel
theorem h27_26 : mfetch q27.2.1 26 = some (.getfield 15) := by decide +kernel
theorem h27_29 : mfetch q27.2.1 29 = some (.iconst 1) := by decide +kernel
theorem h27_30 : mfetch q27.2.1 30 = some (.iadd) := by decide +kernel
theorem h27_31 : mfetch q27.2.1 31 = some (.putfield 15) := by decide +kernel
theorem h27_34 : mfetch q27.2.1 34 = some (.iconst 1) := by decide +kernel
theorem h27_35 : mfetch q27.2.1 35 = some (.ireturn) := by decide +kernel
theorem E27_0 : (∀ (d : Nat) (l1 : Option Value) (x : Nat) (st : List Value) (h : MH) (P : MP), mFr d 27 0 [some (.ref x), l1] st h P = mFr d 27 1 [some (.ref x), l1] (.ref x :: st) h P) ∧
  (∀ (d : Nat) (loc : List (Option Value)) (a : Nat) (st : List Value) (h : MH) (P : MP), mFr d 27 1 loc (.ref a :: st) h P = pget h a 4 1 (fun v => mFr d 27 4 loc (v :: st) h P)) ∧
  (∀ (d : Nat) (l1 : Option Value) (x : Nat) (st : List Value) (h : MH) (P : MP), mFr d 27 4 [some (.ref x), l1] st h P = mFr d 27 5 [some (.ref x), l1] (.ref x :: st) h P) ∧
  (∀ (d : Nat) (loc : List (Option Value)) (a : Nat) (st : List Value) (h : MH) (P : MP), mFr d 27 5 loc (.ref a :: st) h P = pget h a 4 0 (fun v => mFr d 27 8 loc (v :: st) h P)) ∧
  (∀ (d : Nat) (loc : List (Option Value)) (a : Nat) (st : List Value) (h : MH) (P : MP), mFr d 27 8 loc (.ref a :: st) h P = palen h a (fun n => mFr d 27 9 loc (.int (Int32.ofNat n) :: st) h P)) ∧
  (∀ (d : Nat) (loc : List (Option Value)) (x y : Int32) (st : List Value) (h : MH) (P : MP), mFr d 27 9 loc (.int y :: .int x :: st) h P = if x < y then mFr d 27 14 loc (st) h P else mFr d 27 12 loc (st) h P) := ⟨fun _ _ _ _ _ _ => (mFr_S mq27 h27_0).trans rfl,
  fun _ _ _ _ _ _ => F_get mq27 h27_1 (Or.inl (rfl : _ = some (15, 0, 4, 1))),
  fun _ _ _ _ _ _ => (mFr_S mq27 h27_4).trans rfl,
  fun _ _ _ _ _ _ => F_get mq27 h27_5 (Or.inl (rfl : _ = some (9, 0, 4, 0))),
  fun _ _ _ _ _ _ => F_alen mq27 h27_8,
  fun _ _ _ _ _ _ _ => (F_icmp 14 mq27 h27_9 (by decide)).trans mif_lt⟩
theorem E27_12 : (∀ (d : Nat) (loc : List (Option Value)) (st : List Value) (h : MH) (P : MP), mFr d 27 12 loc st h P = mFr d 27 13 loc (.int 0 :: st) h P) ∧
  (∀ (d : Nat) (loc : List (Option Value)) (h : MH) (P : MP), mFr d 27 13 loc [.int 0] h P = P (some (.int 0)) h) ∧
  (∀ (d : Nat) (loc : List (Option Value)) (h : MH) (P : MP), mFr d 27 13 loc [.int 1] h P = P (some (.int 1)) h) ∧
  (∀ (d : Nat) (loc : List (Option Value)) (c : Prop) [Decidable c] (h : MH) (P : MP), mFr d 27 13 loc [.int (if c then 1 else 0)] h P = P (some (.int (if c then 1 else 0))) h) := ⟨fun _ _ _ _ _ => (mFr_S mq27 h27_12).trans rfl,
  fun _ _ _ _ => F_ret mq27 h27_13 rfl (by decide),
  fun _ _ _ _ => F_ret mq27 h27_13 rfl (by decide),
  fun _ _ _ _ _ _ => F_ret mq27 h27_13 rfl (by split <;> decide)⟩
theorem E27_14 : (∀ (d : Nat) (l1 : Option Value) (x : Nat) (st : List Value) (h : MH) (P : MP), mFr d 27 14 [some (.ref x), l1] st h P = mFr d 27 15 [some (.ref x), l1] (.ref x :: st) h P) ∧
  (∀ (d : Nat) (loc : List (Option Value)) (a : Nat) (st : List Value) (h : MH) (P : MP), mFr d 27 15 loc (.ref a :: st) h P = pget h a 4 0 (fun v => mFr d 27 18 loc (v :: st) h P)) ∧
  (∀ (d : Nat) (l1 : Option Value) (x : Nat) (st : List Value) (h : MH) (P : MP), mFr d 27 18 [some (.ref x), l1] st h P = mFr d 27 19 [some (.ref x), l1] (.ref x :: st) h P) ∧
  (∀ (d : Nat) (loc : List (Option Value)) (a : Nat) (st : List Value) (h : MH) (P : MP), mFr d 27 19 loc (.ref a :: st) h P = pget h a 4 1 (fun v => mFr d 27 22 loc (v :: st) h P)) ∧
  (∀ (d : Nat) (l0 : Option Value) (x : Int32) (st : List Value) (h : MH) (P : MP), mFr d 27 22 [l0, some (.int x)] st h P = mFr d 27 23 [l0, some (.int x)] (.int x :: st) h P) ∧
  (∀ (d : Nat) (loc : List (Option Value)) (a : Nat) (i x : Int32) (st : List Value) (h : MH) (P : MP), mFr d 27 23 loc (.int x :: .int i :: .ref a :: st) h P = pias h a i x (fun h' => mFr d 27 24 loc (st) h' P)) ∧
  (∀ (d : Nat) (l1 : Option Value) (x : Nat) (st : List Value) (h : MH) (P : MP), mFr d 27 24 [some (.ref x), l1] st h P = mFr d 27 25 [some (.ref x), l1] (.ref x :: st) h P) ∧
  (∀ (d : Nat) (loc : List (Option Value)) (x : Nat) (st : List Value) (h : MH) (P : MP), mFr d 27 25 loc (.ref x :: st) h P = mFr d 27 26 loc (.ref x :: .ref x :: st) h P) ∧
  (∀ (d : Nat) (loc : List (Option Value)) (a : Nat) (st : List Value) (h : MH) (P : MP), mFr d 27 26 loc (.ref a :: st) h P = pget h a 4 1 (fun v => mFr d 27 29 loc (v :: st) h P)) ∧
  (∀ (d : Nat) (loc : List (Option Value)) (st : List Value) (h : MH) (P : MP), mFr d 27 29 loc st h P = mFr d 27 30 loc (.int 1 :: st) h P) ∧
  (∀ (d : Nat) (loc : List (Option Value)) (x y : Int32) (st : List Value) (h : MH) (P : MP), mFr d 27 30 loc (.int y :: .int x :: st) h P = mFr d 27 31 loc (.int (x + y) :: st) h P) ∧
  (∀ (d : Nat) (loc : List (Option Value)) (a : Nat) (x : Int32) (st : List Value) (h : MH) (P : MP), mFr d 27 31 loc (.int x :: .ref a :: st) h P = pput h a 4 1 (.int x) (fun h' => mFr d 27 34 loc (st) h' P)) ∧
  (∀ (d : Nat) (loc : List (Option Value)) (st : List Value) (h : MH) (P : MP), mFr d 27 34 loc st h P = mFr d 27 35 loc (.int 1 :: st) h P) ∧
  (∀ (d : Nat) (loc : List (Option Value)) (h : MH) (P : MP), mFr d 27 35 loc [.int 0] h P = P (some (.int 0)) h) ∧
  (∀ (d : Nat) (loc : List (Option Value)) (h : MH) (P : MP), mFr d 27 35 loc [.int 1] h P = P (some (.int 1)) h) ∧
  (∀ (d : Nat) (loc : List (Option Value)) (c : Prop) [Decidable c] (h : MH) (P : MP), mFr d 27 35 loc [.int (if c then 1 else 0)] h P = P (some (.int (if c then 1 else 0))) h) := ⟨fun _ _ _ _ _ _ => (mFr_S mq27 h27_14).trans rfl,
  fun _ _ _ _ _ _ => F_get mq27 h27_15 (Or.inl (rfl : _ = some (9, 0, 4, 0))),
  fun _ _ _ _ _ _ => (mFr_S mq27 h27_18).trans rfl,
  fun _ _ _ _ _ _ => F_get mq27 h27_19 (Or.inl (rfl : _ = some (15, 0, 4, 1))),
  fun _ _ _ _ _ _ => (mFr_S mq27 h27_22).trans rfl,
  fun _ _ _ _ _ _ _ _ => F_iast mq27 h27_23,
  fun _ _ _ _ _ _ => (mFr_S mq27 h27_24).trans rfl,
  fun _ _ _ _ _ _ => (mFr_S mq27 h27_25).trans rfl,
  fun _ _ _ _ _ _ => F_get mq27 h27_26 (Or.inl (rfl : _ = some (15, 0, 4, 1))),
  fun _ _ _ _ _ => (mFr_S mq27 h27_29).trans rfl,
  fun _ _ _ _ _ _ _ => (mFr_S mq27 h27_30).trans rfl,
  fun _ _ _ _ _ _ _ => F_put mq27 h27_31 (Or.inl ⟨(rfl : _ = some (15, 0, 4, 1)), Or.inl rfl⟩),
  fun _ _ _ _ _ => (mFr_S mq27 h27_34).trans rfl,
  fun _ _ _ _ => F_ret mq27 h27_35 rfl (by decide),
  fun _ _ _ _ => F_ret mq27 h27_35 rfl (by decide),
  fun _ _ _ _ _ _ => F_ret mq27 h27_35 rfl (by split <;> decide)⟩
theorem B27 : ∀ (d : Nat) (b : Nat) (a0 : Int32) (h : MH) (P : MP), mRun (d + 1) 27 [.ref b, .int a0] h P = mFr d 27 0 [some (.ref b), some (.int a0)] [] h P := fun _ _ _ _ _ => mRun_S mq27 (Nat.le_of_ble_eq_true rfl)
-- 28: PuncturesAreViews$Tape.byteAt(I)I
def q28 : MI := (yX4_byteAt, cX4_byteAt, 2, (some .int), 4, 1)
theorem mq28 : mtab[28]? = some q28 := rfl
theorem h28_0 : mfetch q28.2.1 0 = some (.iload_n 1) := by decide +kernel
theorem h28_1 : mfetch q28.2.1 1 = some (.ifCond .lt 29) := by decide +kernel
theorem h28_4 : mfetch q28.2.1 4 = some (.iload_n 1) := by decide +kernel
theorem h28_5 : mfetch q28.2.1 5 = some (.aload_n 0) := by decide +kernel
theorem h28_6 : mfetch q28.2.1 6 = some (.getfield 15) := by decide +kernel
theorem h28_9 : mfetch q28.2.1 9 = some (.if_icmp .ge 21) := by decide +kernel
theorem h28_12 : mfetch q28.2.1 12 = some (.iload_n 1) := by decide +kernel
theorem h28_13 : mfetch q28.2.1 13 = some (.aload_n 0) := by decide +kernel
theorem h28_14 : mfetch q28.2.1 14 = some (.getfield 9) := by decide +kernel
theorem h28_17 : mfetch q28.2.1 17 = some (.arraylength) := by decide +kernel
theorem h28_18 : mfetch q28.2.1 18 = some (.if_icmp .ge 12) := by decide +kernel
theorem h28_21 : mfetch q28.2.1 21 = some (.aload_n 0) := by decide +kernel
theorem h28_22 : mfetch q28.2.1 22 = some (.getfield 9) := by decide +kernel
theorem h28_25 : mfetch q28.2.1 25 = some (.iload_n 1) := by decide +kernel
theorem h28_26 : mfetch q28.2.1 26 = some (.iaload) := by decide +kernel
theorem h28_27 : mfetch q28.2.1 27 = some (.goto 4) := by decide +kernel
theorem h28_30 : mfetch q28.2.1 30 = some (.iconst (-1)) := by decide +kernel
theorem h28_31 : mfetch q28.2.1 31 = some (.ireturn) := by decide +kernel
theorem E28_0 : (∀ (d : Nat) (l0 : Option Value) (x : Int32) (st : List Value) (h : MH) (P : MP), mFr d 28 0 [l0, some (.int x)] st h P = mFr d 28 1 [l0, some (.int x)] (.int x :: st) h P) ∧
  (∀ (d : Nat) (loc : List (Option Value)) (x : Int32) (st : List Value) (h : MH) (P : MP), mFr d 28 1 loc (.int x :: st) h P = if x < 0 then mFr d 28 30 loc (st) h P else mFr d 28 4 loc (st) h P) := ⟨fun _ _ _ _ _ _ => (mFr_S mq28 h28_0).trans rfl,
  fun _ _ _ _ _ _ => (F_ifz 30 mq28 h28_1 (by decide)).trans mif_lt⟩
theorem E28_4 : (∀ (d : Nat) (l0 : Option Value) (x : Int32) (st : List Value) (h : MH) (P : MP), mFr d 28 4 [l0, some (.int x)] st h P = mFr d 28 5 [l0, some (.int x)] (.int x :: st) h P) ∧
  (∀ (d : Nat) (l1 : Option Value) (x : Nat) (st : List Value) (h : MH) (P : MP), mFr d 28 5 [some (.ref x), l1] st h P = mFr d 28 6 [some (.ref x), l1] (.ref x :: st) h P) ∧
  (∀ (d : Nat) (loc : List (Option Value)) (a : Nat) (st : List Value) (h : MH) (P : MP), mFr d 28 6 loc (.ref a :: st) h P = pget h a 4 1 (fun v => mFr d 28 9 loc (v :: st) h P)) ∧
  (∀ (d : Nat) (loc : List (Option Value)) (x y : Int32) (st : List Value) (h : MH) (P : MP), mFr d 28 9 loc (.int y :: .int x :: st) h P = if x < y then mFr d 28 12 loc (st) h P else mFr d 28 30 loc (st) h P) := ⟨fun _ _ _ _ _ _ => (mFr_S mq28 h28_4).trans rfl,
  fun _ _ _ _ _ _ => (mFr_S mq28 h28_5).trans rfl,
  fun _ _ _ _ _ _ => F_get mq28 h28_6 (Or.inl (rfl : _ = some (15, 0, 4, 1))),
  fun _ _ _ _ _ _ _ => (F_icmp 30 mq28 h28_9 (by decide)).trans mif_ge⟩
theorem E28_12 : (∀ (d : Nat) (l0 : Option Value) (x : Int32) (st : List Value) (h : MH) (P : MP), mFr d 28 12 [l0, some (.int x)] st h P = mFr d 28 13 [l0, some (.int x)] (.int x :: st) h P) ∧
  (∀ (d : Nat) (l1 : Option Value) (x : Nat) (st : List Value) (h : MH) (P : MP), mFr d 28 13 [some (.ref x), l1] st h P = mFr d 28 14 [some (.ref x), l1] (.ref x :: st) h P) ∧
  (∀ (d : Nat) (loc : List (Option Value)) (a : Nat) (st : List Value) (h : MH) (P : MP), mFr d 28 14 loc (.ref a :: st) h P = pget h a 4 0 (fun v => mFr d 28 17 loc (v :: st) h P)) ∧
  (∀ (d : Nat) (loc : List (Option Value)) (a : Nat) (st : List Value) (h : MH) (P : MP), mFr d 28 17 loc (.ref a :: st) h P = palen h a (fun n => mFr d 28 18 loc (.int (Int32.ofNat n) :: st) h P)) ∧
  (∀ (d : Nat) (loc : List (Option Value)) (x y : Int32) (st : List Value) (h : MH) (P : MP), mFr d 28 18 loc (.int y :: .int x :: st) h P = if x < y then mFr d 28 21 loc (st) h P else mFr d 28 30 loc (st) h P) := ⟨fun _ _ _ _ _ _ => (mFr_S mq28 h28_12).trans rfl,
  fun _ _ _ _ _ _ => (mFr_S mq28 h28_13).trans rfl,
  fun _ _ _ _ _ _ => F_get mq28 h28_14 (Or.inl (rfl : _ = some (9, 0, 4, 0))),
  fun _ _ _ _ _ _ => F_alen mq28 h28_17,
  fun _ _ _ _ _ _ _ => (F_icmp 30 mq28 h28_18 (by decide)).trans mif_ge⟩
theorem E28_21 : (∀ (d : Nat) (l1 : Option Value) (x : Nat) (st : List Value) (h : MH) (P : MP), mFr d 28 21 [some (.ref x), l1] st h P = mFr d 28 22 [some (.ref x), l1] (.ref x :: st) h P) ∧
  (∀ (d : Nat) (loc : List (Option Value)) (a : Nat) (st : List Value) (h : MH) (P : MP), mFr d 28 22 loc (.ref a :: st) h P = pget h a 4 0 (fun v => mFr d 28 25 loc (v :: st) h P)) ∧
  (∀ (d : Nat) (l0 : Option Value) (x : Int32) (st : List Value) (h : MH) (P : MP), mFr d 28 25 [l0, some (.int x)] st h P = mFr d 28 26 [l0, some (.int x)] (.int x :: st) h P) ∧
  (∀ (d : Nat) (loc : List (Option Value)) (a : Nat) (i : Int32) (st : List Value) (h : MH) (P : MP), mFr d 28 26 loc (.int i :: .ref a :: st) h P = pial h a i (fun x => mFr d 28 27 loc (.int x :: st) h P)) ∧
  (∀ (d : Nat) (loc : List (Option Value)) (st : List Value) (h : MH) (P : MP), mFr d 28 27 loc st h P = mFr d 28 31 loc (st) h P) := ⟨fun _ _ _ _ _ _ => (mFr_S mq28 h28_21).trans rfl,
  fun _ _ _ _ _ _ => F_get mq28 h28_22 (Or.inl (rfl : _ = some (9, 0, 4, 0))),
  fun _ _ _ _ _ _ => (mFr_S mq28 h28_25).trans rfl,
  fun _ _ _ _ _ _ _ => F_iald mq28 h28_26,
  fun _ _ _ _ _ => F_goto 31 mq28 h28_27 (by decide)⟩
theorem E28_30 : (∀ (d : Nat) (loc : List (Option Value)) (st : List Value) (h : MH) (P : MP), mFr d 28 30 loc st h P = mFr d 28 31 loc (.int (-1) :: st) h P) := fun _ _ _ _ _ => (mFr_S mq28 h28_30).trans rfl
theorem E28_31 : (∀ (d : Nat) (loc : List (Option Value)) (x : Int32) (h : MH) (P : MP), mFr d 28 31 loc [.int x] h P = P (some (.int x)) h) := fun _ _ _ _ _ => F_ret mq28 h28_31 rfl rfl
theorem B28 : ∀ (d : Nat) (b : Nat) (a0 : Int32) (h : MH) (P : MP), mRun (d + 1) 28 [.ref b, .int a0] h P = mFr d 28 0 [some (.ref b), some (.int a0)] [] h P := fun _ _ _ _ _ => mRun_S mq28 (Nat.le_of_ble_eq_true rfl)
