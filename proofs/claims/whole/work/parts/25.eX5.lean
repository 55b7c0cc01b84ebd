/-! the instructions as equations: PuncturesAreViews$Text -/
-- 29: PuncturesAreViews$Text.<init>(I)V
def q29 : MI := (yX5_init, cX5_init, 2, none, 5, 1)
theorem mq29 : mtab[29]? = some q29 := rfl
theorem h29_0 : mfetch q29.2.1 0 = some (.aload_n 0) := by decide +kernel
theorem h29_1 : mfetch q29.2.1 1 = some (.invokespecial 3) := by decide +kernel
theorem h29_4 : mfetch q29.2.1 4 = some (.aload_n 0) := by decide +kernel
theorem h29_5 : mfetch q29.2.1 5 = some (.sipush 160) := by decide +kernel
theorem h29_8 : mfetch q29.2.1 8 = some (.newarray .int) := by decide +kernel
theorem h29_10 : mfetch q29.2.1 10 = some (.putfield 9) := by decide +kernel
theorem h29_13 : mfetch q29.2.1 13 = some (.aload_n 0) := by decide +kernel
theorem h29_14 : mfetch q29.2.1 14 = some (.sipush 160) := by decide +kernel
theorem h29_17 : mfetch q29.2.1 17 = some (.newarray .int) := by decide +kernel
theorem h29_19 : mfetch q29.2.1 19 = some (.putfield 15) := by decide +kernel
theorem h29_22 : mfetch q29.2.1 22 = some (.aload_n 0) := by decide +kernel
theorem h29_23 : mfetch q29.2.1 23 = some (.iconst 3) := by decide +kernel
theorem h29_24 : mfetch q29.2.1 24 = some (.newarray .int) := by decide +kernel
theorem h29_26 : mfetch q29.2.1 26 = some (.putfield 18) := by decide +kernel
theorem h29_29 : mfetch q29.2.1 29 = some (.aload_n 0) := by decide +kernel
theorem h29_30 : mfetch q29.2.1 30 = some (.iload_n 1) := by decide +kernel
theorem h29_31 : mfetch q29.2.1 31 = some (.putfield 21) := by decide +kernel
theorem h29_34 : mfetch q29.2.1 34 = some (.return_) := by decide +kernel
theorem E29_0 : (∀ (d : Nat) (l1 : Option Value) (x : Nat) (st : List Value) (h : MH) (P : MP), mFr d 29 0 [some (.ref x), l1] st h P = mFr d 29 1 [some (.ref x), l1] (.ref x :: st) h P) ∧
  (∀ (d : Nat) (loc : List (Option Value)) (a : Nat) (h : MH) (P : MP), mFr d 29 1 loc [.ref a] h P = if a < 900 then mFr d 29 4 loc ([]) h P else False) ∧
  (∀ (d : Nat) (l1 : Option Value) (x : Nat) (st : List Value) (h : MH) (P : MP), mFr d 29 4 [some (.ref x), l1] st h P = mFr d 29 5 [some (.ref x), l1] (.ref x :: st) h P) ∧
  (∀ (d : Nat) (loc : List (Option Value)) (st : List Value) (h : MH) (P : MP), mFr d 29 5 loc st h P = mFr d 29 8 loc (.int 160 :: st) h P) ∧
  (∀ (d : Nat) (loc : List (Option Value)) (a : Nat) (x : Nat) (st : List Value) (h : MH) (P : MP), mFr d 29 10 loc (.ref x :: .ref a :: st) h P = pput h a 5 1 (.ref x) (fun h' => mFr d 29 13 loc (st) h' P)) ∧
  (∀ (d : Nat) (l1 : Option Value) (x : Nat) (st : List Value) (h : MH) (P : MP), mFr d 29 13 [some (.ref x), l1] st h P = mFr d 29 14 [some (.ref x), l1] (.ref x :: st) h P) ∧
  (∀ (d : Nat) (loc : List (Option Value)) (st : List Value) (h : MH) (P : MP), mFr d 29 14 loc st h P = mFr d 29 17 loc (.int 160 :: st) h P) ∧
  (∀ (d : Nat) (loc : List (Option Value)) (a : Nat) (x : Nat) (st : List Value) (h : MH) (P : MP), mFr d 29 19 loc (.ref x :: .ref a :: st) h P = pput h a 5 2 (.ref x) (fun h' => mFr d 29 22 loc (st) h' P)) ∧
  (∀ (d : Nat) (l1 : Option Value) (x : Nat) (st : List Value) (h : MH) (P : MP), mFr d 29 22 [some (.ref x), l1] st h P = mFr d 29 23 [some (.ref x), l1] (.ref x :: st) h P) ∧
  (∀ (d : Nat) (loc : List (Option Value)) (st : List Value) (h : MH) (P : MP), mFr d 29 23 loc st h P = mFr d 29 24 loc (.int 3 :: st) h P) ∧
  (∀ (d : Nat) (loc : List (Option Value)) (a : Nat) (x : Nat) (st : List Value) (h : MH) (P : MP), mFr d 29 26 loc (.ref x :: .ref a :: st) h P = pput h a 5 3 (.ref x) (fun h' => mFr d 29 29 loc (st) h' P)) ∧
  (∀ (d : Nat) (l1 : Option Value) (x : Nat) (st : List Value) (h : MH) (P : MP), mFr d 29 29 [some (.ref x), l1] st h P = mFr d 29 30 [some (.ref x), l1] (.ref x :: st) h P) ∧
  (∀ (d : Nat) (l0 : Option Value) (x : Int32) (st : List Value) (h : MH) (P : MP), mFr d 29 30 [l0, some (.int x)] st h P = mFr d 29 31 [l0, some (.int x)] (.int x :: st) h P) ∧
  (∀ (d : Nat) (loc : List (Option Value)) (a : Nat) (x : Int32) (st : List Value) (h : MH) (P : MP), mFr d 29 31 loc (.int x :: .ref a :: st) h P = pput h a 5 0 (.int x) (fun h' => mFr d 29 34 loc (st) h' P)) ∧
  (∀ (d : Nat) (loc : List (Option Value)) (h : MH) (P : MP), mFr d 29 34 loc [] h P = P none h) := ⟨fun _ _ _ _ _ _ => (mFr_S mq29 h29_0).trans rfl,
  fun _ _ _ _ _ => F_obj mq29 h29_1 (rfl : _ = some (3, 7, 0, 0)) (Nat.zero_le _),
  fun _ _ _ _ _ _ => (mFr_S mq29 h29_4).trans rfl,
  fun _ _ _ _ _ => (mFr_S mq29 h29_5).trans rfl,
  fun _ _ _ _ _ _ _ => F_put mq29 h29_10 (Or.inl ⟨(rfl : _ = some (9, 0, 5, 1)), Or.inr ⟨by decide, rfl⟩⟩),
  fun _ _ _ _ _ _ => (mFr_S mq29 h29_13).trans rfl,
  fun _ _ _ _ _ => (mFr_S mq29 h29_14).trans rfl,
  fun _ _ _ _ _ _ _ => F_put mq29 h29_19 (Or.inl ⟨(rfl : _ = some (15, 0, 5, 2)), Or.inr ⟨by decide, rfl⟩⟩),
  fun _ _ _ _ _ _ => (mFr_S mq29 h29_22).trans rfl,
  fun _ _ _ _ _ => (mFr_S mq29 h29_23).trans rfl,
  fun _ _ _ _ _ _ _ => F_put mq29 h29_26 (Or.inl ⟨(rfl : _ = some (18, 0, 5, 3)), Or.inr ⟨by decide, rfl⟩⟩),
  fun _ _ _ _ _ _ => (mFr_S mq29 h29_29).trans rfl,
  fun _ _ _ _ _ _ => (mFr_S mq29 h29_30).trans rfl,
  fun _ _ _ _ _ _ _ => F_put mq29 h29_31 (Or.inl ⟨(rfl : _ = some (21, 0, 5, 0)), Or.inr ⟨by decide, rfl⟩⟩),
  fun _ _ _ _ => (mFr_S mq29 h29_34).trans rfl⟩
theorem B29 : ∀ (d : Nat) (b : Nat) (a0 : Int32) (h : MH) (P : MP), mRun (d + 1) 29 [.ref b, .int a0] h P = mFr d 29 0 [some (.ref b), some (.int a0)] [] h P := fun _ _ _ _ _ => mRun_S mq29 (Nat.le_of_ble_eq_true rfl)
-- 30: PuncturesAreViews$Text.clear()V
def q30 : MI := (yX5_clear, cX5_clear, 1, none, 5, 0)
theorem mq30 : mtab[30]? = some q30 := rfl
theorem h30_0 : mfetch q30.2.1 0 = some (.aload_n 0) := by decide +kernel
theorem h30_1 : mfetch q30.2.1 1 = some (.iconst 0) := by decide +kernel
theorem h30_2 : mfetch q30.2.1 2 = some (.putfield 25) := by decide +kernel
theorem h30_5 : mfetch q30.2.1 5 = some (.return_) := by decide +kernel
theorem E30_0 : (∀ (d : Nat) (x : Nat) (st : List Value) (h : MH) (P : MP), mFr d 30 0 [some (.ref x)] st h P = mFr d 30 1 [some (.ref x)] (.ref x :: st) h P) ∧
  (∀ (d : Nat) (loc : List (Option Value)) (st : List Value) (h : MH) (P : MP), mFr d 30 1 loc st h P = mFr d 30 2 loc (.int 0 :: st) h P) ∧
  (∀ (d : Nat) (loc : List (Option Value)) (a : Nat) (x : Int32) (st : List Value) (h : MH) (P : MP), mFr d 30 2 loc (.int x :: .ref a :: st) h P = pput h a 5 4 (.int x) (fun h' => mFr d 30 5 loc (st) h' P)) ∧
  (∀ (d : Nat) (loc : List (Option Value)) (h : MH) (P : MP), mFr d 30 5 loc [] h P = P none h) := ⟨fun _ _ _ _ _ => (mFr_S mq30 h30_0).trans rfl,
  fun _ _ _ _ _ => (mFr_S mq30 h30_1).trans rfl,
  fun _ _ _ _ _ _ _ => F_put mq30 h30_2 (Or.inl ⟨(rfl : _ = some (25, 0, 5, 4)), Or.inl rfl⟩),
  fun _ _ _ _ => (mFr_S mq30 h30_5).trans rfl⟩
theorem B30 : ∀ (d : Nat) (b : Nat) (h : MH) (P : MP), mRun (d + 1) 30 [.ref b] h P = mFr d 30 0 [some (.ref b)] [] h P := fun _ _ _ _ => mRun_S mq30 (Nat.le_of_ble_eq_true rfl)
-- 31: PuncturesAreViews$Text.add(I)V
def q31 : MI := (yX5_add, cX5_add, 2, none, 5, 1)
theorem mq31 : mtab[31]? = some q31 := rfl
theorem h31_0 : mfetch q31.2.1 0 = some (.aload_n 0) := by decide +kernel
theorem h31_1 : mfetch q31.2.1 1 = some (.getfield 25) := by decide +kernel
theorem h31_4 : mfetch q31.2.1 4 = some (.aload_n 0) := by decide +kernel
theorem h31_5 : mfetch q31.2.1 5 = some (.getfield 9) := by decide +kernel
theorem h31_8 : mfetch q31.2.1 8 = some (.arraylength) := by decide +kernel
theorem h31_9 : mfetch q31.2.1 9 = some (.if_icmp .ge 23) := by decide +kernel
theorem h31_12 : mfetch q31.2.1 12 = some (.aload_n 0) := by decide +kernel
theorem h31_13 : mfetch q31.2.1 13 = some (.getfield 9) := by decide +kernel
theorem h31_16 : mfetch q31.2.1 16 = some (.aload_n 0) := by decide +kernel
theorem h31_17 : mfetch q31.2.1 17 = some (.getfield 25) := by decide +kernel
theorem h31_20 : mfetch q31.2.1 20 = some (.iload_n 1) := by decide +kernel
theorem h31_21 : mfetch q31.2.1 21 = some (.iastore) := by decide +kernel
theorem h31_22 : mfetch q31.2.1 22 = some (.aload_n 0) := by decide +kernel
theorem h31_23 : mfetch q31.2.1 23 = some (.dup) := by decide +kernel
theorem h31_24 : mfetch q31.2.1 24 = some (.getfield 25) := by decide +kernel
theorem h31_27 : mfetch q31.2.1 27 = some (.iconst 1) := by decide +kernel
theorem h31_28 : mfetch q31.2.1 28 = some (.iadd) := by decide +kernel
theorem h31_29 : mfetch q31.2.1 29 = some (.putfield 25) := by decide +kernel
theorem h31_32 : mfetch q31.2.1 32 = some (.return_) := by decide +kernel
theorem E31_0 : (∀ (d : Nat) (l1 : Option Value) (x : Nat) (st : List Value) (h : MH) (P : MP), mFr d 31 0 [some (.ref x), l1] st h P = mFr d 31 1 [some (.ref x), l1] (.ref x :: st) h P) ∧
  (∀ (d : Nat) (loc : List (Option Value)) (a : Nat) (st : List Value) (h : MH) (P : MP), mFr d 31 1 loc (.ref a :: st) h P = pget h a 5 4 (fun v => mFr d 31 4 loc (v :: st) h P)) ∧
  (∀ (d : Nat) (l1 : Option Value) (x : Nat) (st : List Value) (h : MH) (P : MP), mFr d 31 4 [some (.ref x), l1] st h P = mFr d 31 5 [some (.ref x), l1] (.ref x :: st) h P) ∧
  (∀ (d : Nat) (loc : List (Option Value)) (a : Nat) (st : List Value) (h : MH) (P : MP), mFr d 31 5 loc (.ref a :: st) h P = pget h a 5 1 (fun v => mFr d 31 8 loc (v :: st) h P)) ∧
  (∀ (d : Nat) (loc : List (Option Value)) (a : Nat) (st : List Value) (h : MH) (P : MP), mFr d 31 8 loc (.ref a :: st) h P = palen h a (fun n => mFr d 31 9 loc (.int (Int32.ofNat n) :: st) h P)) ∧
  (∀ (d : Nat) (loc : List (Option Value)) (x y : Int32) (st : List Value) (h : MH) (P : MP), mFr d 31 9 loc (.int y :: .int x :: st) h P = if x < y then mFr d 31 12 loc (st) h P else mFr d 31 32 loc (st) h P) := ⟨fun _ _ _ _ _ _ => (mFr_S mq31 h31_0).trans rfl,
  fun _ _ _ _ _ _ => F_get mq31 h31_1 (Or.inl (rfl : _ = some (25, 0, 5, 4))),
  fun _ _ _ _ _ _ => (mFr_S mq31 h31_4).trans rfl,
  fun _ _ _ _ _ _ => F_get mq31 h31_5 (Or.inl (rfl : _ = some (9, 0, 5, 1))),
  fun _ _ _ _ _ _ => F_alen mq31 h31_8,
  fun _ _ _ _ _ _ _ => (F_icmp 32 mq31 h31_9 (by decide)).trans mif_ge⟩
theorem E31_12 : (∀ (d : Nat) (l1 : Option Value) (x : Nat) (st : List Value) (h : MH) (P : MP), mFr d 31 12 [some (.ref x), l1] st h P = mFr d 31 13 [some (.ref x), l1] (.ref x :: st) h P) ∧
  (∀ (d : Nat) (loc : List (Option Value)) (a : Nat) (st : List Value) (h : MH) (P : MP), mFr d 31 13 loc (.ref a :: st) h P = pget h a 5 1 (fun v => mFr d 31 16 loc (v :: st) h P)) ∧
  (∀ (d : Nat) (l1 : Option Value) (x : Nat) (st : List Value) (h : MH) (P : MP), mFr d 31 16 [some (.ref x), l1] st h P = mFr d 31 17 [some (.ref x), l1] (.ref x :: st) h P) ∧
  (∀ (d : Nat) (loc : List (Option Value)) (a : Nat) (st : List Value) (h : MH) (P : MP), mFr d 31 17 loc (.ref a :: st) h P = pget h a 5 4 (fun v => mFr d 31 20 loc (v :: st) h P)) ∧
  (∀ (d : Nat) (l0 : Option Value) (x : Int32) (st : List Value) (h : MH) (P : MP), mFr d 31 20 [l0, some (.int x)] st h P = mFr d 31 21 [l0, some (.int x)] (.int x :: st) h P) ∧
  (∀ (d : Nat) (loc : List (Option Value)) (a : Nat) (i x : Int32) (st : List Value) (h : MH) (P : MP), mFr d 31 21 loc (.int x :: .int i :: .ref a :: st) h P = pias h a i x (fun h' => mFr d 31 22 loc (st) h' P)) ∧
  (∀ (d : Nat) (l1 : Option Value) (x : Nat) (st : List Value) (h : MH) (P : MP), mFr d 31 22 [some (.ref x), l1] st h P = mFr d 31 23 [some (.ref x), l1] (.ref x :: st) h P) ∧
  (∀ (d : Nat) (loc : List (Option Value)) (x : Nat) (st : List Value) (h : MH) (P : MP), mFr d 31 23 loc (.ref x :: st) h P = mFr d 31 24 loc (.ref x :: .ref x :: st) h P) ∧
  (∀ (d : Nat) (loc : List (Option Value)) (a : Nat) (st : List Value) (h : MH) (P : MP), mFr d 31 24 loc (.ref a :: st) h P = pget h a 5 4 (fun v => mFr d 31 27 loc (v :: st) h P)) ∧
  (∀ (d : Nat) (loc : List (Option Value)) (st : List Value) (h : MH) (P : MP), mFr d 31 27 loc st h P = mFr d 31 28 loc (.int 1 :: st) h P) ∧
  (∀ (d : Nat) (loc : List (Option Value)) (x y : Int32) (st : List Value) (h : MH) (P : MP), mFr d 31 28 loc (.int y :: .int x :: st) h P = mFr d 31 29 loc (.int (x + y) :: st) h P) ∧
  (∀ (d : Nat) (loc : List (Option Value)) (a : Nat) (x : Int32) (st : List Value) (h : MH) (P : MP), mFr d 31 29 loc (.int x :: .ref a :: st) h P = pput h a 5 4 (.int x) (fun h' => mFr d 31 32 loc (st) h' P)) := ⟨fun _ _ _ _ _ _ => (mFr_S mq31 h31_12).trans rfl,
  fun _ _ _ _ _ _ => F_get mq31 h31_13 (Or.inl (rfl : _ = some (9, 0, 5, 1))),
  fun _ _ _ _ _ _ => (mFr_S mq31 h31_16).trans rfl,
  fun _ _ _ _ _ _ => F_get mq31 h31_17 (Or.inl (rfl : _ = some (25, 0, 5, 4))),
  fun _ _ _ _ _ _ => (mFr_S mq31 h31_20).trans rfl,
  fun _ _ _ _ _ _ _ _ => F_iast mq31 h31_21,
  fun _ _ _ _ _ _ => (mFr_S mq31 h31_22).trans rfl,
  fun _ _ _ _ _ _ => (mFr_S mq31 h31_23).trans rfl,
  fun _ _ _ _ _ _ => F_get mq31 h31_24 (Or.inl (rfl : _ = some (25, 0, 5, 4))),
  fun _ _ _ _ _ => (mFr_S mq31 h31_27).trans rfl,
  fun _ _ _ _ _ _ _ => (mFr_S mq31 h31_28).trans rfl,
  fun _ _ _ _ _ _ _ => F_put mq31 h31_29 (Or.inl ⟨(rfl : _ = some (25, 0, 5, 4)), Or.inl rfl⟩)⟩
theorem E31_32 : (∀ (d : Nat) (loc : List (Option Value)) (h : MH) (P : MP), mFr d 31 32 loc [] h P = P none h) := fun _ _ _ _ => (mFr_S mq31 h31_32).trans rfl
theorem B31 : ∀ (d : Nat) (b : Nat) (a0 : Int32) (h : MH) (P : MP), mRun (d + 1) 31 [.ref b, .int a0] h P = mFr d 31 0 [some (.ref b), some (.int a0)] [] h P := fun _ _ _ _ _ => mRun_S mq31 (Nat.le_of_ble_eq_true rfl)
-- 32: PuncturesAreViews$Text.endPart(I)V
def q32 : MI := (yX5_endPart, cX5_endPart, 2, none, 5, 1)
theorem mq32 : mtab[32]? = some q32 := rfl
theorem h32_0 : mfetch q32.2.1 0 = some (.iload_n 1) := by decide +kernel
theorem h32_1 : mfetch q32.2.1 1 = some (.ifCond .lt 22) := by decide +kernel
theorem h32_4 : mfetch q32.2.1 4 = some (.iload_n 1) := by decide +kernel
theorem h32_5 : mfetch q32.2.1 5 = some (.aload_n 0) := by decide +kernel
theorem h32_6 : mfetch q32.2.1 6 = some (.getfield 18) := by decide +kernel
theorem h32_9 : mfetch q32.2.1 9 = some (.arraylength) := by decide +kernel
theorem h32_10 : mfetch q32.2.1 10 = some (.if_icmp .ge 13) := by decide +kernel
theorem h32_13 : mfetch q32.2.1 13 = some (.aload_n 0) := by decide +kernel
theorem h32_14 : mfetch q32.2.1 14 = some (.getfield 18) := by decide +kernel
theorem h32_17 : mfetch q32.2.1 17 = some (.iload_n 1) := by decide +kernel
theorem h32_18 : mfetch q32.2.1 18 = some (.aload_n 0) := by decide +kernel
theorem h32_19 : mfetch q32.2.1 19 = some (.getfield 25) := by decide +kernel
theorem h32_22 : mfetch q32.2.1 22 = some (.iastore) := by decide +kernel
theorem h32_23 : mfetch q32.2.1 23 = some (.return_) := by decide +kernel
theorem E32_0 : (∀ (d : Nat) (l0 : Option Value) (x : Int32) (st : List Value) (h : MH) (P : MP), mFr d 32 0 [l0, some (.int x)] st h P = mFr d 32 1 [l0, some (.int x)] (.int x :: st) h P) ∧
  (∀ (d : Nat) (loc : List (Option Value)) (x : Int32) (st : List Value) (h : MH) (P : MP), mFr d 32 1 loc (.int x :: st) h P = if x < 0 then mFr d 32 23 loc (st) h P else mFr d 32 4 loc (st) h P) := ⟨fun _ _ _ _ _ _ => (mFr_S mq32 h32_0).trans rfl,
  fun _ _ _ _ _ _ => (F_ifz 23 mq32 h32_1 (by decide)).trans mif_lt⟩
theorem E32_4 : (∀ (d : Nat) (l0 : Option Value) (x : Int32) (st : List Value) (h : MH) (P : MP), mFr d 32 4 [l0, some (.int x)] st h P = mFr d 32 5 [l0, some (.int x)] (.int x :: st) h P) ∧
  (∀ (d : Nat) (l1 : Option Value) (x : Nat) (st : List Value) (h : MH) (P : MP), mFr d 32 5 [some (.ref x), l1] st h P = mFr d 32 6 [some (.ref x), l1] (.ref x :: st) h P) ∧
  (∀ (d : Nat) (loc : List (Option Value)) (a : Nat) (st : List Value) (h : MH) (P : MP), mFr d 32 6 loc (.ref a :: st) h P = pget h a 5 3 (fun v => mFr d 32 9 loc (v :: st) h P)) ∧
  (∀ (d : Nat) (loc : List (Option Value)) (a : Nat) (st : List Value) (h : MH) (P : MP), mFr d 32 9 loc (.ref a :: st) h P = palen h a (fun n => mFr d 32 10 loc (.int (Int32.ofNat n) :: st) h P)) ∧
  (∀ (d : Nat) (loc : List (Option Value)) (x y : Int32) (st : List Value) (h : MH) (P : MP), mFr d 32 10 loc (.int y :: .int x :: st) h P = if x < y then mFr d 32 13 loc (st) h P else mFr d 32 23 loc (st) h P) := ⟨fun _ _ _ _ _ _ => (mFr_S mq32 h32_4).trans rfl,
  fun _ _ _ _ _ _ => (mFr_S mq32 h32_5).trans rfl,
  fun _ _ _ _ _ _ => F_get mq32 h32_6 (Or.inl (rfl : _ = some (18, 0, 5, 3))),
  fun _ _ _ _ _ _ => F_alen mq32 h32_9,
  fun _ _ _ _ _ _ _ => (F_icmp 23 mq32 h32_10 (by decide)).trans mif_ge⟩
theorem E32_13 : (∀ (d : Nat) (l1 : Option Value) (x : Nat) (st : List Value) (h : MH) (P : MP), mFr d 32 13 [some (.ref x), l1] st h P = mFr d 32 14 [some (.ref x), l1] (.ref x :: st) h P) ∧
  (∀ (d : Nat) (loc : List (Option Value)) (a : Nat) (st : List Value) (h : MH) (P : MP), mFr d 32 14 loc (.ref a :: st) h P = pget h a 5 3 (fun v => mFr d 32 17 loc (v :: st) h P)) ∧
  (∀ (d : Nat) (l0 : Option Value) (x : Int32) (st : List Value) (h : MH) (P : MP), mFr d 32 17 [l0, some (.int x)] st h P = mFr d 32 18 [l0, some (.int x)] (.int x :: st) h P) ∧
  (∀ (d : Nat) (l1 : Option Value) (x : Nat) (st : List Value) (h : MH) (P : MP), mFr d 32 18 [some (.ref x), l1] st h P = mFr d 32 19 [some (.ref x), l1] (.ref x :: st) h P) ∧
  (∀ (d : Nat) (loc : List (Option Value)) (a : Nat) (st : List Value) (h : MH) (P : MP), mFr d 32 19 loc (.ref a :: st) h P = pget h a 5 4 (fun v => mFr d 32 22 loc (v :: st) h P)) ∧
  (∀ (d : Nat) (loc : List (Option Value)) (a : Nat) (i x : Int32) (st : List Value) (h : MH) (P : MP), mFr d 32 22 loc (.int x :: .int i :: .ref a :: st) h P = pias h a i x (fun h' => mFr d 32 23 loc (st) h' P)) := ⟨fun _ _ _ _ _ _ => (mFr_S mq32 h32_13).trans rfl,
  fun _ _ _ _ _ _ => F_get mq32 h32_14 (Or.inl (rfl : _ = some (18, 0, 5, 3))),
  fun _ _ _ _ _ _ => (mFr_S mq32 h32_17).trans rfl,
  fun _ _ _ _ _ _ => (mFr_S mq32 h32_18).trans rfl,
  fun _ _ _ _ _ _ => F_get mq32 h32_19 (Or.inl (rfl : _ = some (25, 0, 5, 4))),
  fun _ _ _ _ _ _ _ _ => F_iast mq32 h32_22⟩
theorem E32_23 : (∀ (d : Nat) (loc : List (Option Value)) (h : MH) (P : MP), mFr d 32 23 loc [] h P = P none h) := fun _ _ _ _ => (mFr_S mq32 h32_23).trans rfl
theorem B32 : ∀ (d : Nat) (b : Nat) (a0 : Int32) (h : MH) (P : MP), mRun (d + 1) 32 [.ref b, .int a0] h P = mFr d 32 0 [some (.ref b), some (.int a0)] [] h P := fun _ _ _ _ _ => mRun_S mq32 (Nat.le_of_ble_eq_true rfl)
-- 33: PuncturesAreViews$Text.value(ILPuncturesAreViews$Rider;LPuncturesAreViews$Road;)I loops at [46]
def q33 : MI := (yX5_value, cX5_value, 8, (some .int), 5, 3)
theorem mq33 : mtab[33]? = some q33 := rfl
theorem h33_0 : mfetch q33.2.1 0 = some (.iload_n 1) := by decide +kernel
theorem h33_1 : mfetch q33.2.1 1 = some (.ifCond .lt 12) := by decide +kernel
theorem h33_4 : mfetch q33.2.1 4 = some (.iload_n 1) := by decide +kernel
theorem h33_5 : mfetch q33.2.1 5 = some (.aload_n 0) := by decide +kernel
theorem h33_6 : mfetch q33.2.1 6 = some (.getfield 18) := by decide +kernel
theorem h33_9 : mfetch q33.2.1 9 = some (.arraylength) := by decide +kernel
theorem h33_10 : mfetch q33.2.1 10 = some (.if_icmp .lt 5) := by decide +kernel
theorem h33_13 : mfetch q33.2.1 13 = some (.iconst 0) := by decide +kernel
theorem h33_14 : mfetch q33.2.1 14 = some (.ireturn) := by decide +kernel
theorem h33_15 : mfetch q33.2.1 15 = some (.aload_n 3) := by decide +kernel
theorem h33_16 : mfetch q33.2.1 16 = some (.aload_n 2) := by decide +kernel
theorem h33_17 : mfetch q33.2.1 17 = some (.getfield 28) := by decide +kernel
theorem h33_20 : mfetch q33.2.1 20 = some (.invokevirtual 33) := by decide +kernel
theorem h33_23 : mfetch q33.2.1 23 = some (.istore 4) := by decide +kernel
theorem h33_25 : mfetch q33.2.1 25 = some (.iconst 0) := by decide +kernel
theorem h33_26 : mfetch q33.2.1 26 = some (.istore 5) := by decide +kernel
theorem h33_28 : mfetch q33.2.1 28 = some (.iload_n 1) := by decide +kernel
theorem h33_29 : mfetch q33.2.1 29 = some (.ifCond .ne 7) := by decide +kernel
theorem h33_32 : mfetch q33.2.1 32 = some (.iconst 0) := by decide +kernel
theorem h33_33 : mfetch q33.2.1 33 = some (.goto 11) := by decide +kernel
theorem h33_36 : mfetch q33.2.1 36 = some (.aload_n 0) := by decide +kernel
theorem h33_37 : mfetch q33.2.1 37 = some (.getfield 18) := by decide +kernel
theorem h33_40 : mfetch q33.2.1 40 = some (.iload_n 1) := by decide +kernel
theorem h33_41 : mfetch q33.2.1 41 = some (.iconst 1) := by decide +kernel
theorem h33_42 : mfetch q33.2.1 42 = some (.isub) := by decide +kernel
theorem h33_43 : mfetch q33.2.1 43 = some (.iaload) := by decide +kernel
theorem h33_44 : mfetch q33.2.1 44 = some (.istore 6) := by decide +kernel
theorem h33_46 : mfetch q33.2.1 46 = some (.iload 6) := by decide +kernel
theorem h33_48 : mfetch q33.2.1 48 = some (.aload_n 0) := by decide +kernel
theorem h33_49 : mfetch q33.2.1 49 = some (.getfield 18) := by decide +kernel
theorem h33_52 : mfetch q33.2.1 52 = some (.iload_n 1) := by decide +kernel
theorem h33_53 : mfetch q33.2.1 53 = some (.iaload) := by decide +kernel
theorem h33_54 : mfetch q33.2.1 54 = some (.if_icmp .ge 158) := by decide +kernel
theorem h33_57 : mfetch q33.2.1 57 = some (.iload 6) := by decide +kernel
theorem h33_59 : mfetch q33.2.1 59 = some (.aload_n 0) := by decide +kernel
theorem h33_60 : mfetch q33.2.1 60 = some (.getfield 9) := by decide +kernel
theorem h33_63 : mfetch q33.2.1 63 = some (.arraylength) := by decide +kernel
theorem h33_64 : mfetch q33.2.1 64 = some (.if_icmp .ge 148) := by decide +kernel
theorem h33_67 : mfetch q33.2.1 67 = some (.aload_n 0) := by decide +kernel
theorem h33_68 : mfetch q33.2.1 68 = some (.getfield 9) := by decide +kernel
theorem h33_71 : mfetch q33.2.1 71 = some (.iload 6) := by decide +kernel
theorem h33_73 : mfetch q33.2.1 73 = some (.iaload) := by decide +kernel
theorem h33_74 : mfetch q33.2.1 74 = some (.istore 7) := by decide +kernel
theorem h33_76 : mfetch q33.2.1 76 = some (.iload 7) := by decide +kernel
theorem h33_78 : mfetch q33.2.1 78 = some (.bipush 100) := by decide +kernel
theorem h33_80 : mfetch q33.2.1 80 = some (.if_icmp .ge 9) := by decide +kernel
theorem h33_83 : mfetch q33.2.1 83 = some (.iload 7) := by decide +kernel
theorem h33_85 : mfetch q33.2.1 85 = some (.iconst 5) := by decide +kernel
theorem h33_86 : mfetch q33.2.1 86 = some (.if_icmp .gt 35) := by decide +kernel
theorem h33_89 : mfetch q33.2.1 89 = some (.iload 5) := by decide +kernel
theorem h33_91 : mfetch q33.2.1 91 = some (.aload_n 0) := by decide +kernel
theorem h33_92 : mfetch q33.2.1 92 = some (.getfield 15) := by decide +kernel
theorem h33_95 : mfetch q33.2.1 95 = some (.arraylength) := by decide +kernel
theorem h33_96 : mfetch q33.2.1 96 = some (.if_icmp .ge 110) := by decide +kernel
theorem h33_99 : mfetch q33.2.1 99 = some (.aload_n 0) := by decide +kernel
theorem h33_100 : mfetch q33.2.1 100 = some (.getfield 15) := by decide +kernel
theorem h33_103 : mfetch q33.2.1 103 = some (.iload 5) := by decide +kernel
theorem h33_105 : mfetch q33.2.1 105 = some (.iload 7) := by decide +kernel
theorem h33_107 : mfetch q33.2.1 107 = some (.iload 4) := by decide +kernel
theorem h33_109 : mfetch q33.2.1 109 = some (.aload_n 2) := by decide +kernel
theorem h33_110 : mfetch q33.2.1 110 = some (.aload_n 3) := by decide +kernel
theorem h33_111 : mfetch q33.2.1 111 = some (.invokestatic 39) := by decide +kernel
theorem h33_114 : mfetch q33.2.1 114 = some (.iastore) := by decide +kernel
theorem h33_115 : mfetch q33.2.1 115 = some (.iinc 5 1) := by decide +kernel
theorem h33_118 : mfetch q33.2.1 118 = some (.goto 88) := by decide +kernel
theorem h33_121 : mfetch q33.2.1 121 = some (.iload 7) := by decide +kernel
theorem h33_123 : mfetch q33.2.1 123 = some (.bipush 11) := by decide +kernel
theorem h33_125 : mfetch q33.2.1 125 = some (.if_icmp .eq 10) := by decide +kernel
theorem h33_128 : mfetch q33.2.1 128 = some (.iload 7) := by decide +kernel
theorem h33_130 : mfetch q33.2.1 130 = some (.bipush 22) := by decide +kernel
theorem h33_132 : mfetch q33.2.1 132 = some (.if_icmp .ne 35) := by decide +kernel
theorem h33_135 : mfetch q33.2.1 135 = some (.iload 5) := by decide +kernel
theorem h33_137 : mfetch q33.2.1 137 = some (.iconst 1) := by decide +kernel
theorem h33_138 : mfetch q33.2.1 138 = some (.if_icmp .lt 68) := by decide +kernel
theorem h33_141 : mfetch q33.2.1 141 = some (.aload_n 0) := by decide +kernel
theorem h33_142 : mfetch q33.2.1 142 = some (.getfield 15) := by decide +kernel
theorem h33_145 : mfetch q33.2.1 145 = some (.iload 5) := by decide +kernel
theorem h33_147 : mfetch q33.2.1 147 = some (.iconst 1) := by decide +kernel
theorem h33_148 : mfetch q33.2.1 148 = some (.isub) := by decide +kernel
theorem h33_149 : mfetch q33.2.1 149 = some (.iload 7) := by decide +kernel
theorem h33_151 : mfetch q33.2.1 151 = some (.aload_n 0) := by decide +kernel
theorem h33_152 : mfetch q33.2.1 152 = some (.getfield 15) := by decide +kernel
theorem h33_155 : mfetch q33.2.1 155 = some (.iload 5) := by decide +kernel
theorem h33_157 : mfetch q33.2.1 157 = some (.iconst 1) := by decide +kernel
theorem h33_158 : mfetch q33.2.1 158 = some (.isub) := by decide +kernel
theorem h33_159 : mfetch q33.2.1 159 = some (.iaload) := by decide +kernel
theorem h33_160 : mfetch q33.2.1 160 = some (.invokestatic 43) := by decide +kernel
theorem h33_163 : mfetch q33.2.1 163 = some (.iastore) := by decide +kernel
theorem h33_164 : mfetch q33.2.1 164 = some (.goto 42) := by decide +kernel
theorem h33_167 : mfetch q33.2.1 167 = some (.iload 5) := by decide +kernel
theorem h33_169 : mfetch q33.2.1 169 = some (.iconst 2) := by decide +kernel
theorem h33_170 : mfetch q33.2.1 170 = some (.if_icmp .lt 36) := by decide +kernel
theorem h33_173 : mfetch q33.2.1 173 = some (.iinc 5 (-1)) := by decide +kernel
theorem h33_176 : mfetch q33.2.1 176 = some (.aload_n 0) := by decide +kernel
theorem h33_177 : mfetch q33.2.1 177 = some (.getfield 15) := by decide +kernel
theorem h33_180 : mfetch q33.2.1 180 = some (.iload 5) := by decide +kernel
theorem h33_182 : mfetch q33.2.1 182 = some (.iconst 1) := by decide +kernel
theorem h33_183 : mfetch q33.2.1 183 = some (.isub) := by decide +kernel
theorem h33_184 : mfetch q33.2.1 184 = some (.iload 7) := by decide +kernel
theorem h33_186 : mfetch q33.2.1 186 = some (.aload_n 0) := by decide +kernel
theorem h33_187 : mfetch q33.2.1 187 = some (.getfield 15) := by decide +kernel
theorem h33_190 : mfetch q33.2.1 190 = some (.iload 5) := by decide +kernel
theorem h33_192 : mfetch q33.2.1 192 = some (.iconst 1) := by decide +kernel
theorem h33_193 : mfetch q33.2.1 193 = some (.isub) := by decide +kernel
theorem h33_194 : mfetch q33.2.1 194 = some (.iaload) := by decide +kernel
theorem h33_195 : mfetch q33.2.1 195 = some (.aload_n 0) := by decide +kernel
theorem h33_196 : mfetch q33.2.1 196 = some (.getfield 15) := by decide +kernel
theorem h33_199 : mfetch q33.2.1 199 = some (.iload 5) := by decide +kernel
theorem h33_201 : mfetch q33.2.1 201 = some (.iaload) := by decide +kernel
theorem h33_202 : mfetch q33.2.1 202 = some (.invokestatic 47) := by decide +kernel
theorem h33_205 : mfetch q33.2.1 205 = some (.iastore) := by decide +kernel
theorem h33_206 : mfetch q33.2.1 206 = some (.iinc 6 1) := by decide +kernel
theorem h33_209 : mfetch q33.2.1 209 = some (.goto (-163)) := by decide +kernel
theorem h33_212 : mfetch q33.2.1 212 = some (.iload 5) := by decide +kernel
theorem h33_214 : mfetch q33.2.1 214 = some (.iconst 1) := by decide +kernel
theorem h33_215 : mfetch q33.2.1 215 = some (.if_icmp .ge 7) := by decide +kernel
theorem h33_218 : mfetch q33.2.1 218 = some (.iconst 0) := by decide +kernel
theorem h33_219 : mfetch q33.2.1 219 = some (.goto 18) := by decide +kernel
theorem h33_222 : mfetch q33.2.1 222 = some (.iconst 0) := by decide +kernel
theorem h33_223 : mfetch q33.2.1 223 = some (.aload_n 0) := by decide +kernel
theorem h33_224 : mfetch q33.2.1 224 = some (.getfield 15) := by decide +kernel
theorem h33_227 : mfetch q33.2.1 227 = some (.iconst 0) := by decide +kernel
theorem h33_228 : mfetch q33.2.1 228 = some (.iaload) := by decide +kernel
theorem h33_229 : mfetch q33.2.1 229 = some (.bipush 99) := by decide +kernel
theorem h33_231 : mfetch q33.2.1 231 = some (.invokestatic 51) := by decide +kernel
theorem h33_234 : mfetch q33.2.1 234 = some (.invokestatic 56) := by decide +kernel
theorem h33_237 : mfetch q33.2.1 237 = some (.ireturn) := by decide +kernel
theorem E33_0 : (∀ (d : Nat) (l0 : Option Value) (l2 : Option Value) (l3 : Option Value) (l4 : Option Value) (l5 : Option Value) (l6 : Option Value) (l7 : Option Value) (x : Int32) (st : List Value) (h : MH) (P : MP), mFr d 33 0 [l0, some (.int x), l2, l3, l4, l5, l6, l7] st h P = mFr d 33 1 [l0, some (.int x), l2, l3, l4, l5, l6, l7] (.int x :: st) h P) ∧
  (∀ (d : Nat) (loc : List (Option Value)) (x : Int32) (st : List Value) (h : MH) (P : MP), mFr d 33 1 loc (.int x :: st) h P = if x < 0 then mFr d 33 13 loc (st) h P else mFr d 33 4 loc (st) h P) := ⟨fun _ _ _ _ _ _ _ _ _ _ _ _ => (mFr_S mq33 h33_0).trans rfl,
  fun _ _ _ _ _ _ => (F_ifz 13 mq33 h33_1 (by decide)).trans mif_lt⟩
theorem E33_4 : (∀ (d : Nat) (l0 : Option Value) (l2 : Option Value) (l3 : Option Value) (l4 : Option Value) (l5 : Option Value) (l6 : Option Value) (l7 : Option Value) (x : Int32) (st : List Value) (h : MH) (P : MP), mFr d 33 4 [l0, some (.int x), l2, l3, l4, l5, l6, l7] st h P = mFr d 33 5 [l0, some (.int x), l2, l3, l4, l5, l6, l7] (.int x :: st) h P) ∧
  (∀ (d : Nat) (l1 : Option Value) (l2 : Option Value) (l3 : Option Value) (l4 : Option Value) (l5 : Option Value) (l6 : Option Value) (l7 : Option Value) (x : Nat) (st : List Value) (h : MH) (P : MP), mFr d 33 5 [some (.ref x), l1, l2, l3, l4, l5, l6, l7] st h P = mFr d 33 6 [some (.ref x), l1, l2, l3, l4, l5, l6, l7] (.ref x :: st) h P) ∧
  (∀ (d : Nat) (loc : List (Option Value)) (a : Nat) (st : List Value) (h : MH) (P : MP), mFr d 33 6 loc (.ref a :: st) h P = pget h a 5 3 (fun v => mFr d 33 9 loc (v :: st) h P)) ∧
  (∀ (d : Nat) (loc : List (Option Value)) (a : Nat) (st : List Value) (h : MH) (P : MP), mFr d 33 9 loc (.ref a :: st) h P = palen h a (fun n => mFr d 33 10 loc (.int (Int32.ofNat n) :: st) h P)) ∧
  (∀ (d : Nat) (loc : List (Option Value)) (x y : Int32) (st : List Value) (h : MH) (P : MP), mFr d 33 10 loc (.int y :: .int x :: st) h P = if x < y then mFr d 33 15 loc (st) h P else mFr d 33 13 loc (st) h P) := ⟨fun _ _ _ _ _ _ _ _ _ _ _ _ => (mFr_S mq33 h33_4).trans rfl,
  fun _ _ _ _ _ _ _ _ _ _ _ _ => (mFr_S mq33 h33_5).trans rfl,
  fun _ _ _ _ _ _ => F_get mq33 h33_6 (Or.inl (rfl : _ = some (18, 0, 5, 3))),
  fun _ _ _ _ _ _ => F_alen mq33 h33_9,
  fun _ _ _ _ _ _ _ => (F_icmp 15 mq33 h33_10 (by decide)).trans mif_lt⟩
theorem E33_13 : (∀ (d : Nat) (loc : List (Option Value)) (st : List Value) (h : MH) (P : MP), mFr d 33 13 loc st h P = mFr d 33 14 loc (.int 0 :: st) h P) ∧
  (∀ (d : Nat) (loc : List (Option Value)) (x : Int32) (h : MH) (P : MP), mFr d 33 14 loc [.int x] h P = P (some (.int x)) h) := ⟨fun _ _ _ _ _ => (mFr_S mq33 h33_13).trans rfl,
  fun _ _ _ _ _ => F_ret mq33 h33_14 rfl rfl⟩
theorem E33_15 : (∀ (d : Nat) (l0 : Option Value) (l1 : Option Value) (l2 : Option Value) (l4 : Option Value) (l5 : Option Value) (l6 : Option Value) (l7 : Option Value) (x : Nat) (st : List Value) (h : MH) (P : MP), mFr d 33 15 [l0, l1, l2, some (.ref x), l4, l5, l6, l7] st h P = mFr d 33 16 [l0, l1, l2, some (.ref x), l4, l5, l6, l7] (.ref x :: st) h P) ∧
  (∀ (d : Nat) (l0 : Option Value) (l1 : Option Value) (l2 : Option Value) (l4 : Option Value) (l5 : Option Value) (l6 : Option Value) (l7 : Option Value) (st : List Value) (h : MH) (P : MP), mFr d 33 15 [l0, l1, l2, some .null, l4, l5, l6, l7] st h P = mFr d 33 16 [l0, l1, l2, some .null, l4, l5, l6, l7] (.null :: st) h P) ∧
  (∀ (d : Nat) (l0 : Option Value) (l1 : Option Value) (l3 : Option Value) (l4 : Option Value) (l5 : Option Value) (l6 : Option Value) (l7 : Option Value) (x : Nat) (st : List Value) (h : MH) (P : MP), mFr d 33 16 [l0, l1, some (.ref x), l3, l4, l5, l6, l7] st h P = mFr d 33 17 [l0, l1, some (.ref x), l3, l4, l5, l6, l7] (.ref x :: st) h P) ∧
  (∀ (d : Nat) (l0 : Option Value) (l1 : Option Value) (l3 : Option Value) (l4 : Option Value) (l5 : Option Value) (l6 : Option Value) (l7 : Option Value) (st : List Value) (h : MH) (P : MP), mFr d 33 16 [l0, l1, some .null, l3, l4, l5, l6, l7] st h P = mFr d 33 17 [l0, l1, some .null, l3, l4, l5, l6, l7] (.null :: st) h P) ∧
  (∀ (d : Nat) (loc : List (Option Value)) (a : Nat) (st : List Value) (h : MH) (P : MP), mFr d 33 17 loc (.ref a :: st) h P = pget h a 1 3 (fun v => mFr d 33 20 loc (v :: st) h P)) ∧
  (∀ (d : Nat) (loc : List (Option Value)) (b : Nat) (a0 : Int32) (h : MH) (P : MP), mFr d 33 20 loc ((.int a0) :: .ref b :: []) h P = if mrcv h b 2 = true then mRun d 17 [.ref b, .int a0] h (fun v h' => mFr d 33 23 loc (v.toList ++ []) h' P) else False) ∧
  (∀ (d : Nat) (l0 : Option Value) (l1 : Option Value) (l2 : Option Value) (l3 : Option Value) (l4 : Option Value) (l5 : Option Value) (l6 : Option Value) (l7 : Option Value) (x : Int32) (st : List Value) (h : MH) (P : MP), mnl l3 = true → mFr d 33 23 [l0, l1, l2, l3, l4, l5, l6, l7] (.int x :: st) h P = mFr d 33 25 [l0, l1, l2, l3, some (.int x), l5, l6, l7] (st) h P) ∧
  (∀ (d : Nat) (loc : List (Option Value)) (st : List Value) (h : MH) (P : MP), mFr d 33 25 loc st h P = mFr d 33 26 loc (.int 0 :: st) h P) ∧
  (∀ (d : Nat) (l0 : Option Value) (l1 : Option Value) (l2 : Option Value) (l3 : Option Value) (l4 : Option Value) (l5 : Option Value) (l6 : Option Value) (l7 : Option Value) (x : Int32) (st : List Value) (h : MH) (P : MP), mnl l4 = true → mFr d 33 26 [l0, l1, l2, l3, l4, l5, l6, l7] (.int x :: st) h P = mFr d 33 28 [l0, l1, l2, l3, l4, some (.int x), l6, l7] (st) h P) ∧
  (∀ (d : Nat) (l0 : Option Value) (l2 : Option Value) (l3 : Option Value) (l4 : Option Value) (l5 : Option Value) (l6 : Option Value) (l7 : Option Value) (x : Int32) (st : List Value) (h : MH) (P : MP), mFr d 33 28 [l0, some (.int x), l2, l3, l4, l5, l6, l7] st h P = mFr d 33 29 [l0, some (.int x), l2, l3, l4, l5, l6, l7] (.int x :: st) h P) ∧
  (∀ (d : Nat) (loc : List (Option Value)) (x : Int32) (st : List Value) (h : MH) (P : MP), mFr d 33 29 loc (.int x :: st) h P = if x = 0 then mFr d 33 32 loc (st) h P else mFr d 33 36 loc (st) h P) := ⟨fun _ _ _ _ _ _ _ _ _ _ _ _ => (mFr_S mq33 h33_15).trans rfl,
  fun _ _ _ _ _ _ _ _ _ _ _ => (mFr_S mq33 h33_15).trans rfl,
  fun _ _ _ _ _ _ _ _ _ _ _ _ => (mFr_S mq33 h33_16).trans rfl,
  fun _ _ _ _ _ _ _ _ _ _ _ => (mFr_S mq33 h33_16).trans rfl,
  fun _ _ _ _ _ _ => F_get mq33 h33_17 (Or.inr (rfl : _ = some (28, 1, 1, 3))),
  fun _ _ b a0 _ _ => F_callV (as := [.int a0]) (rest := []) mq33 (Or.inl h33_20) (rfl : _ = some (33, 6, 17, 1)) (Or.inl ⟨h33_20, by decide⟩) (by rfl) (by rfl) (by rfl) (Nat.le_of_ble_eq_true rfl),
  fun _ _ _ _ _ _ _ _ _ _ _ _ _ hm => (mFr_S mq33 h33_23).trans (by simp only [mgo.eq_1, mstep, mi1, ml1, mast, mst, mst2, mprev, List.length_cons, List.length_nil, List.getElem?_cons_succ, List.getElem?_cons_zero, hm]; rfl),
  fun _ _ _ _ _ => (mFr_S mq33 h33_25).trans rfl,
  fun _ _ _ _ _ _ _ _ _ _ _ _ _ hm => (mFr_S mq33 h33_26).trans (by simp only [mgo.eq_1, mstep, mi1, ml1, mast, mst, mst2, mprev, List.length_cons, List.length_nil, List.getElem?_cons_succ, List.getElem?_cons_zero, hm]; rfl),
  fun _ _ _ _ _ _ _ _ _ _ _ _ => (mFr_S mq33 h33_28).trans rfl,
  fun _ _ _ _ _ _ => (F_ifz 36 mq33 h33_29 (by decide)).trans mif_ne⟩
theorem E33_32 : (∀ (d : Nat) (loc : List (Option Value)) (st : List Value) (h : MH) (P : MP), mFr d 33 32 loc st h P = mFr d 33 33 loc (.int 0 :: st) h P) ∧
  (∀ (d : Nat) (loc : List (Option Value)) (st : List Value) (h : MH) (P : MP), mFr d 33 33 loc st h P = mFr d 33 44 loc (st) h P) := ⟨fun _ _ _ _ _ => (mFr_S mq33 h33_32).trans rfl,
  fun _ _ _ _ _ => F_goto 44 mq33 h33_33 (by decide)⟩
theorem E33_36 : (∀ (d : Nat) (l1 : Option Value) (l2 : Option Value) (l3 : Option Value) (l4 : Option Value) (l5 : Option Value) (l6 : Option Value) (l7 : Option Value) (x : Nat) (st : List Value) (h : MH) (P : MP), mFr d 33 36 [some (.ref x), l1, l2, l3, l4, l5, l6, l7] st h P = mFr d 33 37 [some (.ref x), l1, l2, l3, l4, l5, l6, l7] (.ref x :: st) h P) ∧
  (∀ (d : Nat) (loc : List (Option Value)) (a : Nat) (st : List Value) (h : MH) (P : MP), mFr d 33 37 loc (.ref a :: st) h P = pget h a 5 3 (fun v => mFr d 33 40 loc (v :: st) h P)) ∧
  (∀ (d : Nat) (l0 : Option Value) (l2 : Option Value) (l3 : Option Value) (l4 : Option Value) (l5 : Option Value) (l6 : Option Value) (l7 : Option Value) (x : Int32) (st : List Value) (h : MH) (P : MP), mFr d 33 40 [l0, some (.int x), l2, l3, l4, l5, l6, l7] st h P = mFr d 33 41 [l0, some (.int x), l2, l3, l4, l5, l6, l7] (.int x :: st) h P) ∧
  (∀ (d : Nat) (loc : List (Option Value)) (st : List Value) (h : MH) (P : MP), mFr d 33 41 loc st h P = mFr d 33 42 loc (.int 1 :: st) h P) ∧
  (∀ (d : Nat) (loc : List (Option Value)) (x y : Int32) (st : List Value) (h : MH) (P : MP), mFr d 33 42 loc (.int y :: .int x :: st) h P = mFr d 33 43 loc (.int (x - y) :: st) h P) ∧
  (∀ (d : Nat) (loc : List (Option Value)) (a : Nat) (i : Int32) (st : List Value) (h : MH) (P : MP), mFr d 33 43 loc (.int i :: .ref a :: st) h P = pial h a i (fun x => mFr d 33 44 loc (.int x :: st) h P)) := ⟨fun _ _ _ _ _ _ _ _ _ _ _ _ => (mFr_S mq33 h33_36).trans rfl,
  fun _ _ _ _ _ _ => F_get mq33 h33_37 (Or.inl (rfl : _ = some (18, 0, 5, 3))),
  fun _ _ _ _ _ _ _ _ _ _ _ _ => (mFr_S mq33 h33_40).trans rfl,
  fun _ _ _ _ _ => (mFr_S mq33 h33_41).trans rfl,
  fun _ _ _ _ _ _ _ => (mFr_S mq33 h33_42).trans rfl,
  fun _ _ _ _ _ _ _ => F_iald mq33 h33_43⟩
theorem E33_44 : (∀ (d : Nat) (l0 : Option Value) (l1 : Option Value) (l2 : Option Value) (l3 : Option Value) (l4 : Option Value) (l5 : Option Value) (l6 : Option Value) (l7 : Option Value) (x : Int32) (st : List Value) (h : MH) (P : MP), mnl l5 = true → mFr d 33 44 [l0, l1, l2, l3, l4, l5, l6, l7] (.int x :: st) h P = mFr d 33 46 [l0, l1, l2, l3, l4, l5, some (.int x), l7] (st) h P) := fun _ _ _ _ _ _ _ _ _ _ _ _ _ hm => (mFr_S mq33 h33_44).trans (by simp only [mgo.eq_1, mstep, mi1, ml1, mast, mst, mst2, mprev, List.length_cons, List.length_nil, List.getElem?_cons_succ, List.getElem?_cons_zero, hm]; rfl)
theorem E33_46 : (∀ (d : Nat) (l0 : Option Value) (l1 : Option Value) (l2 : Option Value) (l3 : Option Value) (l4 : Option Value) (l5 : Option Value) (l7 : Option Value) (x : Int32) (st : List Value) (h : MH) (P : MP), mFr d 33 46 [l0, l1, l2, l3, l4, l5, some (.int x), l7] st h P = mFr d 33 48 [l0, l1, l2, l3, l4, l5, some (.int x), l7] (.int x :: st) h P) ∧
  (∀ (d : Nat) (l1 : Option Value) (l2 : Option Value) (l3 : Option Value) (l4 : Option Value) (l5 : Option Value) (l6 : Option Value) (l7 : Option Value) (x : Nat) (st : List Value) (h : MH) (P : MP), mFr d 33 48 [some (.ref x), l1, l2, l3, l4, l5, l6, l7] st h P = mFr d 33 49 [some (.ref x), l1, l2, l3, l4, l5, l6, l7] (.ref x :: st) h P) ∧
  (∀ (d : Nat) (loc : List (Option Value)) (a : Nat) (st : List Value) (h : MH) (P : MP), mFr d 33 49 loc (.ref a :: st) h P = pget h a 5 3 (fun v => mFr d 33 52 loc (v :: st) h P)) ∧
  (∀ (d : Nat) (l0 : Option Value) (l2 : Option Value) (l3 : Option Value) (l4 : Option Value) (l5 : Option Value) (l6 : Option Value) (l7 : Option Value) (x : Int32) (st : List Value) (h : MH) (P : MP), mFr d 33 52 [l0, some (.int x), l2, l3, l4, l5, l6, l7] st h P = mFr d 33 53 [l0, some (.int x), l2, l3, l4, l5, l6, l7] (.int x :: st) h P) ∧
  (∀ (d : Nat) (loc : List (Option Value)) (a : Nat) (i : Int32) (st : List Value) (h : MH) (P : MP), mFr d 33 53 loc (.int i :: .ref a :: st) h P = pial h a i (fun x => mFr d 33 54 loc (.int x :: st) h P)) ∧
  (∀ (d : Nat) (loc : List (Option Value)) (x y : Int32) (st : List Value) (h : MH) (P : MP), mFr d 33 54 loc (.int y :: .int x :: st) h P = if x < y then mFr d 33 57 loc (st) h P else mFr d 33 212 loc (st) h P) := ⟨fun _ _ _ _ _ _ _ _ _ _ _ _ => (mFr_S mq33 h33_46).trans rfl,
  fun _ _ _ _ _ _ _ _ _ _ _ _ => (mFr_S mq33 h33_48).trans rfl,
  fun _ _ _ _ _ _ => F_get mq33 h33_49 (Or.inl (rfl : _ = some (18, 0, 5, 3))),
  fun _ _ _ _ _ _ _ _ _ _ _ _ => (mFr_S mq33 h33_52).trans rfl,
  fun _ _ _ _ _ _ _ => F_iald mq33 h33_53,
  fun _ _ _ _ _ _ _ => (F_icmp 212 mq33 h33_54 (by decide)).trans mif_ge⟩
theorem E33_57 : (∀ (d : Nat) (l0 : Option Value) (l1 : Option Value) (l2 : Option Value) (l3 : Option Value) (l4 : Option Value) (l5 : Option Value) (l7 : Option Value) (x : Int32) (st : List Value) (h : MH) (P : MP), mFr d 33 57 [l0, l1, l2, l3, l4, l5, some (.int x), l7] st h P = mFr d 33 59 [l0, l1, l2, l3, l4, l5, some (.int x), l7] (.int x :: st) h P) ∧
  (∀ (d : Nat) (l1 : Option Value) (l2 : Option Value) (l3 : Option Value) (l4 : Option Value) (l5 : Option Value) (l6 : Option Value) (l7 : Option Value) (x : Nat) (st : List Value) (h : MH) (P : MP), mFr d 33 59 [some (.ref x), l1, l2, l3, l4, l5, l6, l7] st h P = mFr d 33 60 [some (.ref x), l1, l2, l3, l4, l5, l6, l7] (.ref x :: st) h P) ∧
  (∀ (d : Nat) (loc : List (Option Value)) (a : Nat) (st : List Value) (h : MH) (P : MP), mFr d 33 60 loc (.ref a :: st) h P = pget h a 5 1 (fun v => mFr d 33 63 loc (v :: st) h P)) ∧
  (∀ (d : Nat) (loc : List (Option Value)) (a : Nat) (st : List Value) (h : MH) (P : MP), mFr d 33 63 loc (.ref a :: st) h P = palen h a (fun n => mFr d 33 64 loc (.int (Int32.ofNat n) :: st) h P)) ∧
  (∀ (d : Nat) (loc : List (Option Value)) (x y : Int32) (st : List Value) (h : MH) (P : MP), mFr d 33 64 loc (.int y :: .int x :: st) h P = if x < y then mFr d 33 67 loc (st) h P else mFr d 33 212 loc (st) h P) := ⟨fun _ _ _ _ _ _ _ _ _ _ _ _ => (mFr_S mq33 h33_57).trans rfl,
  fun _ _ _ _ _ _ _ _ _ _ _ _ => (mFr_S mq33 h33_59).trans rfl,
  fun _ _ _ _ _ _ => F_get mq33 h33_60 (Or.inl (rfl : _ = some (9, 0, 5, 1))),
  fun _ _ _ _ _ _ => F_alen mq33 h33_63,
  fun _ _ _ _ _ _ _ => (F_icmp 212 mq33 h33_64 (by decide)).trans mif_ge⟩
theorem E33_67 : (∀ (d : Nat) (l1 : Option Value) (l2 : Option Value) (l3 : Option Value) (l4 : Option Value) (l5 : Option Value) (l6 : Option Value) (l7 : Option Value) (x : Nat) (st : List Value) (h : MH) (P : MP), mFr d 33 67 [some (.ref x), l1, l2, l3, l4, l5, l6, l7] st h P = mFr d 33 68 [some (.ref x), l1, l2, l3, l4, l5, l6, l7] (.ref x :: st) h P) ∧
  (∀ (d : Nat) (loc : List (Option Value)) (a : Nat) (st : List Value) (h : MH) (P : MP), mFr d 33 68 loc (.ref a :: st) h P = pget h a 5 1 (fun v => mFr d 33 71 loc (v :: st) h P)) ∧
  (∀ (d : Nat) (l0 : Option Value) (l1 : Option Value) (l2 : Option Value) (l3 : Option Value) (l4 : Option Value) (l5 : Option Value) (l7 : Option Value) (x : Int32) (st : List Value) (h : MH) (P : MP), mFr d 33 71 [l0, l1, l2, l3, l4, l5, some (.int x), l7] st h P = mFr d 33 73 [l0, l1, l2, l3, l4, l5, some (.int x), l7] (.int x :: st) h P) ∧
  (∀ (d : Nat) (loc : List (Option Value)) (a : Nat) (i : Int32) (st : List Value) (h : MH) (P : MP), mFr d 33 73 loc (.int i :: .ref a :: st) h P = pial h a i (fun x => mFr d 33 74 loc (.int x :: st) h P)) ∧
  (∀ (d : Nat) (l0 : Option Value) (l1 : Option Value) (l2 : Option Value) (l3 : Option Value) (l4 : Option Value) (l5 : Option Value) (l6 : Option Value) (l7 : Option Value) (x : Int32) (st : List Value) (h : MH) (P : MP), mnl l6 = true → mFr d 33 74 [l0, l1, l2, l3, l4, l5, l6, l7] (.int x :: st) h P = mFr d 33 76 [l0, l1, l2, l3, l4, l5, l6, some (.int x)] (st) h P) ∧
  (∀ (d : Nat) (l0 : Option Value) (l1 : Option Value) (l2 : Option Value) (l3 : Option Value) (l4 : Option Value) (l5 : Option Value) (l6 : Option Value) (x : Int32) (st : List Value) (h : MH) (P : MP), mFr d 33 76 [l0, l1, l2, l3, l4, l5, l6, some (.int x)] st h P = mFr d 33 78 [l0, l1, l2, l3, l4, l5, l6, some (.int x)] (.int x :: st) h P) ∧
  (∀ (d : Nat) (loc : List (Option Value)) (st : List Value) (h : MH) (P : MP), mFr d 33 78 loc st h P = mFr d 33 80 loc (.int 100 :: st) h P) ∧
  (∀ (d : Nat) (loc : List (Option Value)) (x y : Int32) (st : List Value) (h : MH) (P : MP), mFr d 33 80 loc (.int y :: .int x :: st) h P = if x < y then mFr d 33 83 loc (st) h P else mFr d 33 89 loc (st) h P) := ⟨fun _ _ _ _ _ _ _ _ _ _ _ _ => (mFr_S mq33 h33_67).trans rfl,
  fun _ _ _ _ _ _ => F_get mq33 h33_68 (Or.inl (rfl : _ = some (9, 0, 5, 1))),
  fun _ _ _ _ _ _ _ _ _ _ _ _ => (mFr_S mq33 h33_71).trans rfl,
  fun _ _ _ _ _ _ _ => F_iald mq33 h33_73,
  fun _ _ _ _ _ _ _ _ _ _ _ _ _ hm => (mFr_S mq33 h33_74).trans (by simp only [mgo.eq_1, mstep, mi1, ml1, mast, mst, mst2, mprev, List.length_cons, List.length_nil, List.getElem?_cons_succ, List.getElem?_cons_zero, hm]; rfl),
  fun _ _ _ _ _ _ _ _ _ _ _ _ => (mFr_S mq33 h33_76).trans rfl,
  fun _ _ _ _ _ => (mFr_S mq33 h33_78).trans rfl,
  fun _ _ _ _ _ _ _ => (F_icmp 89 mq33 h33_80 (by decide)).trans mif_ge⟩
theorem E33_83 : (∀ (d : Nat) (l0 : Option Value) (l1 : Option Value) (l2 : Option Value) (l3 : Option Value) (l4 : Option Value) (l5 : Option Value) (l6 : Option Value) (x : Int32) (st : List Value) (h : MH) (P : MP), mFr d 33 83 [l0, l1, l2, l3, l4, l5, l6, some (.int x)] st h P = mFr d 33 85 [l0, l1, l2, l3, l4, l5, l6, some (.int x)] (.int x :: st) h P) ∧
  (∀ (d : Nat) (loc : List (Option Value)) (st : List Value) (h : MH) (P : MP), mFr d 33 85 loc st h P = mFr d 33 86 loc (.int 5 :: st) h P) ∧
  (∀ (d : Nat) (loc : List (Option Value)) (x y : Int32) (st : List Value) (h : MH) (P : MP), mFr d 33 86 loc (.int y :: .int x :: st) h P = if y < x then mFr d 33 121 loc (st) h P else mFr d 33 89 loc (st) h P) := ⟨fun _ _ _ _ _ _ _ _ _ _ _ _ => (mFr_S mq33 h33_83).trans rfl,
  fun _ _ _ _ _ => (mFr_S mq33 h33_85).trans rfl,
  fun _ _ _ _ _ _ _ => (F_icmp 121 mq33 h33_86 (by decide)).trans mif_gt⟩
theorem E33_89 : (∀ (d : Nat) (l0 : Option Value) (l1 : Option Value) (l2 : Option Value) (l3 : Option Value) (l4 : Option Value) (l6 : Option Value) (l7 : Option Value) (x : Int32) (st : List Value) (h : MH) (P : MP), mFr d 33 89 [l0, l1, l2, l3, l4, some (.int x), l6, l7] st h P = mFr d 33 91 [l0, l1, l2, l3, l4, some (.int x), l6, l7] (.int x :: st) h P) ∧
  (∀ (d : Nat) (l1 : Option Value) (l2 : Option Value) (l3 : Option Value) (l4 : Option Value) (l5 : Option Value) (l6 : Option Value) (l7 : Option Value) (x : Nat) (st : List Value) (h : MH) (P : MP), mFr d 33 91 [some (.ref x), l1, l2, l3, l4, l5, l6, l7] st h P = mFr d 33 92 [some (.ref x), l1, l2, l3, l4, l5, l6, l7] (.ref x :: st) h P) ∧
  (∀ (d : Nat) (loc : List (Option Value)) (a : Nat) (st : List Value) (h : MH) (P : MP), mFr d 33 92 loc (.ref a :: st) h P = pget h a 5 2 (fun v => mFr d 33 95 loc (v :: st) h P)) ∧
  (∀ (d : Nat) (loc : List (Option Value)) (a : Nat) (st : List Value) (h : MH) (P : MP), mFr d 33 95 loc (.ref a :: st) h P = palen h a (fun n => mFr d 33 96 loc (.int (Int32.ofNat n) :: st) h P)) ∧
  (∀ (d : Nat) (loc : List (Option Value)) (x y : Int32) (st : List Value) (h : MH) (P : MP), mFr d 33 96 loc (.int y :: .int x :: st) h P = if x < y then mFr d 33 99 loc (st) h P else mFr d 33 206 loc (st) h P) := ⟨fun _ _ _ _ _ _ _ _ _ _ _ _ => (mFr_S mq33 h33_89).trans rfl,
  fun _ _ _ _ _ _ _ _ _ _ _ _ => (mFr_S mq33 h33_91).trans rfl,
  fun _ _ _ _ _ _ => F_get mq33 h33_92 (Or.inl (rfl : _ = some (15, 0, 5, 2))),
  fun _ _ _ _ _ _ => F_alen mq33 h33_95,
  fun _ _ _ _ _ _ _ => (F_icmp 206 mq33 h33_96 (by decide)).trans mif_ge⟩
theorem E33_99 : (∀ (d : Nat) (l1 : Option Value) (l2 : Option Value) (l3 : Option Value) (l4 : Option Value) (l5 : Option Value) (l6 : Option Value) (l7 : Option Value) (x : Nat) (st : List Value) (h : MH) (P : MP), mFr d 33 99 [some (.ref x), l1, l2, l3, l4, l5, l6, l7] st h P = mFr d 33 100 [some (.ref x), l1, l2, l3, l4, l5, l6, l7] (.ref x :: st) h P) ∧
  (∀ (d : Nat) (loc : List (Option Value)) (a : Nat) (st : List Value) (h : MH) (P : MP), mFr d 33 100 loc (.ref a :: st) h P = pget h a 5 2 (fun v => mFr d 33 103 loc (v :: st) h P)) ∧
  (∀ (d : Nat) (l0 : Option Value) (l1 : Option Value) (l2 : Option Value) (l3 : Option Value) (l4 : Option Value) (l6 : Option Value) (l7 : Option Value) (x : Int32) (st : List Value) (h : MH) (P : MP), mFr d 33 103 [l0, l1, l2, l3, l4, some (.int x), l6, l7] st h P = mFr d 33 105 [l0, l1, l2, l3, l4, some (.int x), l6, l7] (.int x :: st) h P) ∧
  (∀ (d : Nat) (l0 : Option Value) (l1 : Option Value) (l2 : Option Value) (l3 : Option Value) (l4 : Option Value) (l5 : Option Value) (l6 : Option Value) (x : Int32) (st : List Value) (h : MH) (P : MP), mFr d 33 105 [l0, l1, l2, l3, l4, l5, l6, some (.int x)] st h P = mFr d 33 107 [l0, l1, l2, l3, l4, l5, l6, some (.int x)] (.int x :: st) h P) ∧
  (∀ (d : Nat) (l0 : Option Value) (l1 : Option Value) (l2 : Option Value) (l3 : Option Value) (l5 : Option Value) (l6 : Option Value) (l7 : Option Value) (x : Int32) (st : List Value) (h : MH) (P : MP), mFr d 33 107 [l0, l1, l2, l3, some (.int x), l5, l6, l7] st h P = mFr d 33 109 [l0, l1, l2, l3, some (.int x), l5, l6, l7] (.int x :: st) h P) ∧
  (∀ (d : Nat) (l0 : Option Value) (l1 : Option Value) (l3 : Option Value) (l4 : Option Value) (l5 : Option Value) (l6 : Option Value) (l7 : Option Value) (x : Nat) (st : List Value) (h : MH) (P : MP), mFr d 33 109 [l0, l1, some (.ref x), l3, l4, l5, l6, l7] st h P = mFr d 33 110 [l0, l1, some (.ref x), l3, l4, l5, l6, l7] (.ref x :: st) h P) ∧
  (∀ (d : Nat) (l0 : Option Value) (l1 : Option Value) (l3 : Option Value) (l4 : Option Value) (l5 : Option Value) (l6 : Option Value) (l7 : Option Value) (st : List Value) (h : MH) (P : MP), mFr d 33 109 [l0, l1, some .null, l3, l4, l5, l6, l7] st h P = mFr d 33 110 [l0, l1, some .null, l3, l4, l5, l6, l7] (.null :: st) h P) ∧
  (∀ (d : Nat) (l0 : Option Value) (l1 : Option Value) (l2 : Option Value) (l4 : Option Value) (l5 : Option Value) (l6 : Option Value) (l7 : Option Value) (x : Nat) (st : List Value) (h : MH) (P : MP), mFr d 33 110 [l0, l1, l2, some (.ref x), l4, l5, l6, l7] st h P = mFr d 33 111 [l0, l1, l2, some (.ref x), l4, l5, l6, l7] (.ref x :: st) h P) ∧
  (∀ (d : Nat) (l0 : Option Value) (l1 : Option Value) (l2 : Option Value) (l4 : Option Value) (l5 : Option Value) (l6 : Option Value) (l7 : Option Value) (st : List Value) (h : MH) (P : MP), mFr d 33 110 [l0, l1, l2, some .null, l4, l5, l6, l7] st h P = mFr d 33 111 [l0, l1, l2, some .null, l4, l5, l6, l7] (.null :: st) h P) ∧
  (∀ (d : Nat) (loc : List (Option Value)) (a0 : Int32) (a1 : Int32) (a2 : Nat) (a3 : Nat) (s0 : Int32) (s1 : Nat) (h : MH) (P : MP), mFr d 33 111 loc ((.ref a3) :: (.ref a2) :: (.int a1) :: (.int a0) :: [.int s0, .ref s1]) h P = mRun d 34 [.int a0, .int a1, .ref a2, .ref a3] h (fun v h' => mFr d 33 114 loc (v.toList ++ [.int s0, .ref s1]) h' P)) ∧
  (∀ (d : Nat) (loc : List (Option Value)) (a : Nat) (i x : Int32) (st : List Value) (h : MH) (P : MP), mFr d 33 114 loc (.int x :: .int i :: .ref a :: st) h P = pias h a i x (fun h' => mFr d 33 115 loc (st) h' P)) ∧
  (∀ (d : Nat) (l0 : Option Value) (l1 : Option Value) (l2 : Option Value) (l3 : Option Value) (l4 : Option Value) (l6 : Option Value) (l7 : Option Value) (x : Int32) (st : List Value) (h : MH) (P : MP), mnl l4 = true → mFr d 33 115 [l0, l1, l2, l3, l4, some (.int x), l6, l7] st h P = mFr d 33 118 [l0, l1, l2, l3, l4, some (.int (x + 1)), l6, l7] (st) h P) ∧
  (∀ (d : Nat) (loc : List (Option Value)) (st : List Value) (h : MH) (P : MP), mFr d 33 118 loc st h P = mFr d 33 206 loc (st) h P) := ⟨fun _ _ _ _ _ _ _ _ _ _ _ _ => (mFr_S mq33 h33_99).trans rfl,
  fun _ _ _ _ _ _ => F_get mq33 h33_100 (Or.inl (rfl : _ = some (15, 0, 5, 2))),
  fun _ _ _ _ _ _ _ _ _ _ _ _ => (mFr_S mq33 h33_103).trans rfl,
  fun _ _ _ _ _ _ _ _ _ _ _ _ => (mFr_S mq33 h33_105).trans rfl,
  fun _ _ _ _ _ _ _ _ _ _ _ _ => (mFr_S mq33 h33_107).trans rfl,
  fun _ _ _ _ _ _ _ _ _ _ _ _ => (mFr_S mq33 h33_109).trans rfl,
  fun _ _ _ _ _ _ _ _ _ _ _ => (mFr_S mq33 h33_109).trans rfl,
  fun _ _ _ _ _ _ _ _ _ _ _ _ => (mFr_S mq33 h33_110).trans rfl,
  fun _ _ _ _ _ _ _ _ _ _ _ => (mFr_S mq33 h33_110).trans rfl,
  fun _ _ a0 a1 a2 a3 s0 s1 _ _ => F_callS (as := [.int a0, .int a1, .ref a2, .ref a3]) (rest := [.int s0, .ref s1]) mq33 h33_111 (rfl : _ = some (39, 6, 34, 2)) (by decide) (by rfl) (by rfl) (by rfl) (Nat.le_of_ble_eq_true rfl),
  fun _ _ _ _ _ _ _ _ => F_iast mq33 h33_114,
  fun _ _ _ _ _ _ _ _ _ _ _ _ hm => (mFr_S mq33 h33_115).trans (by simp only [mgo.eq_1, mstep, mld, mst, mprev, List.length_cons, List.length_nil, List.getElem?_cons_succ, List.getElem?_cons_zero, hm]; rfl),
  fun _ _ _ _ _ => F_goto 206 mq33 h33_118 (by decide)⟩
theorem E33_121 : (∀ (d : Nat) (l0 : Option Value) (l1 : Option Value) (l2 : Option Value) (l3 : Option Value) (l4 : Option Value) (l5 : Option Value) (l6 : Option Value) (x : Int32) (st : List Value) (h : MH) (P : MP), mFr d 33 121 [l0, l1, l2, l3, l4, l5, l6, some (.int x)] st h P = mFr d 33 123 [l0, l1, l2, l3, l4, l5, l6, some (.int x)] (.int x :: st) h P) ∧
  (∀ (d : Nat) (loc : List (Option Value)) (st : List Value) (h : MH) (P : MP), mFr d 33 123 loc st h P = mFr d 33 125 loc (.int 11 :: st) h P) ∧
  (∀ (d : Nat) (loc : List (Option Value)) (x y : Int32) (st : List Value) (h : MH) (P : MP), mFr d 33 125 loc (.int y :: .int x :: st) h P = if x = y then mFr d 33 135 loc (st) h P else mFr d 33 128 loc (st) h P) := ⟨fun _ _ _ _ _ _ _ _ _ _ _ _ => (mFr_S mq33 h33_121).trans rfl,
  fun _ _ _ _ _ => (mFr_S mq33 h33_123).trans rfl,
  fun _ _ _ _ _ _ _ => (F_icmp 135 mq33 h33_125 (by decide)).trans mif_eq⟩
theorem E33_128 : (∀ (d : Nat) (l0 : Option Value) (l1 : Option Value) (l2 : Option Value) (l3 : Option Value) (l4 : Option Value) (l5 : Option Value) (l6 : Option Value) (x : Int32) (st : List Value) (h : MH) (P : MP), mFr d 33 128 [l0, l1, l2, l3, l4, l5, l6, some (.int x)] st h P = mFr d 33 130 [l0, l1, l2, l3, l4, l5, l6, some (.int x)] (.int x :: st) h P) ∧
  (∀ (d : Nat) (loc : List (Option Value)) (st : List Value) (h : MH) (P : MP), mFr d 33 130 loc st h P = mFr d 33 132 loc (.int 22 :: st) h P) ∧
  (∀ (d : Nat) (loc : List (Option Value)) (x y : Int32) (st : List Value) (h : MH) (P : MP), mFr d 33 132 loc (.int y :: .int x :: st) h P = if x = y then mFr d 33 135 loc (st) h P else mFr d 33 167 loc (st) h P) := ⟨fun _ _ _ _ _ _ _ _ _ _ _ _ => (mFr_S mq33 h33_128).trans rfl,
  fun _ _ _ _ _ => (mFr_S mq33 h33_130).trans rfl,
  fun _ _ _ _ _ _ _ => (F_icmp 167 mq33 h33_132 (by decide)).trans mif_ne⟩
theorem E33_135 : (∀ (d : Nat) (l0 : Option Value) (l1 : Option Value) (l2 : Option Value) (l3 : Option Value) (l4 : Option Value) (l6 : Option Value) (l7 : Option Value) (x : Int32) (st : List Value) (h : MH) (P : MP), mFr d 33 135 [l0, l1, l2, l3, l4, some (.int x), l6, l7] st h P = mFr d 33 137 [l0, l1, l2, l3, l4, some (.int x), l6, l7] (.int x :: st) h P) ∧
  (∀ (d : Nat) (loc : List (Option Value)) (st : List Value) (h : MH) (P : MP), mFr d 33 137 loc st h P = mFr d 33 138 loc (.int 1 :: st) h P) ∧
  (∀ (d : Nat) (loc : List (Option Value)) (x y : Int32) (st : List Value) (h : MH) (P : MP), mFr d 33 138 loc (.int y :: .int x :: st) h P = if x < y then mFr d 33 206 loc (st) h P else mFr d 33 141 loc (st) h P) := ⟨fun _ _ _ _ _ _ _ _ _ _ _ _ => (mFr_S mq33 h33_135).trans rfl,
  fun _ _ _ _ _ => (mFr_S mq33 h33_137).trans rfl,
  fun _ _ _ _ _ _ _ => (F_icmp 206 mq33 h33_138 (by decide)).trans mif_lt⟩
theorem E33_141 : (∀ (d : Nat) (l1 : Option Value) (l2 : Option Value) (l3 : Option Value) (l4 : Option Value) (l5 : Option Value) (l6 : Option Value) (l7 : Option Value) (x : Nat) (st : List Value) (h : MH) (P : MP), mFr d 33 141 [some (.ref x), l1, l2, l3, l4, l5, l6, l7] st h P = mFr d 33 142 [some (.ref x), l1, l2, l3, l4, l5, l6, l7] (.ref x :: st) h P) ∧
  (∀ (d : Nat) (loc : List (Option Value)) (a : Nat) (st : List Value) (h : MH) (P : MP), mFr d 33 142 loc (.ref a :: st) h P = pget h a 5 2 (fun v => mFr d 33 145 loc (v :: st) h P)) ∧
  (∀ (d : Nat) (l0 : Option Value) (l1 : Option Value) (l2 : Option Value) (l3 : Option Value) (l4 : Option Value) (l6 : Option Value) (l7 : Option Value) (x : Int32) (st : List Value) (h : MH) (P : MP), mFr d 33 145 [l0, l1, l2, l3, l4, some (.int x), l6, l7] st h P = mFr d 33 147 [l0, l1, l2, l3, l4, some (.int x), l6, l7] (.int x :: st) h P) ∧
  (∀ (d : Nat) (loc : List (Option Value)) (st : List Value) (h : MH) (P : MP), mFr d 33 147 loc st h P = mFr d 33 148 loc (.int 1 :: st) h P) ∧
  (∀ (d : Nat) (loc : List (Option Value)) (x y : Int32) (st : List Value) (h : MH) (P : MP), mFr d 33 148 loc (.int y :: .int x :: st) h P = mFr d 33 149 loc (.int (x - y) :: st) h P) ∧
  (∀ (d : Nat) (l0 : Option Value) (l1 : Option Value) (l2 : Option Value) (l3 : Option Value) (l4 : Option Value) (l5 : Option Value) (l6 : Option Value) (x : Int32) (st : List Value) (h : MH) (P : MP), mFr d 33 149 [l0, l1, l2, l3, l4, l5, l6, some (.int x)] st h P = mFr d 33 151 [l0, l1, l2, l3, l4, l5, l6, some (.int x)] (.int x :: st) h P) ∧
  (∀ (d : Nat) (l1 : Option Value) (l2 : Option Value) (l3 : Option Value) (l4 : Option Value) (l5 : Option Value) (l6 : Option Value) (l7 : Option Value) (x : Nat) (st : List Value) (h : MH) (P : MP), mFr d 33 151 [some (.ref x), l1, l2, l3, l4, l5, l6, l7] st h P = mFr d 33 152 [some (.ref x), l1, l2, l3, l4, l5, l6, l7] (.ref x :: st) h P) ∧
  (∀ (d : Nat) (loc : List (Option Value)) (a : Nat) (st : List Value) (h : MH) (P : MP), mFr d 33 152 loc (.ref a :: st) h P = pget h a 5 2 (fun v => mFr d 33 155 loc (v :: st) h P)) ∧
  (∀ (d : Nat) (l0 : Option Value) (l1 : Option Value) (l2 : Option Value) (l3 : Option Value) (l4 : Option Value) (l6 : Option Value) (l7 : Option Value) (x : Int32) (st : List Value) (h : MH) (P : MP), mFr d 33 155 [l0, l1, l2, l3, l4, some (.int x), l6, l7] st h P = mFr d 33 157 [l0, l1, l2, l3, l4, some (.int x), l6, l7] (.int x :: st) h P) ∧
  (∀ (d : Nat) (loc : List (Option Value)) (st : List Value) (h : MH) (P : MP), mFr d 33 157 loc st h P = mFr d 33 158 loc (.int 1 :: st) h P) ∧
  (∀ (d : Nat) (loc : List (Option Value)) (x y : Int32) (st : List Value) (h : MH) (P : MP), mFr d 33 158 loc (.int y :: .int x :: st) h P = mFr d 33 159 loc (.int (x - y) :: st) h P) ∧
  (∀ (d : Nat) (loc : List (Option Value)) (a : Nat) (i : Int32) (st : List Value) (h : MH) (P : MP), mFr d 33 159 loc (.int i :: .ref a :: st) h P = pial h a i (fun x => mFr d 33 160 loc (.int x :: st) h P)) ∧
  (∀ (d : Nat) (loc : List (Option Value)) (a0 : Int32) (a1 : Int32) (s0 : Int32) (s1 : Nat) (h : MH) (P : MP), mFr d 33 160 loc ((.int a1) :: (.int a0) :: [.int s0, .ref s1]) h P = mRun d 35 [.int a0, .int a1] h (fun v h' => mFr d 33 163 loc (v.toList ++ [.int s0, .ref s1]) h' P)) ∧
  (∀ (d : Nat) (loc : List (Option Value)) (a : Nat) (i x : Int32) (st : List Value) (h : MH) (P : MP), mFr d 33 163 loc (.int x :: .int i :: .ref a :: st) h P = pias h a i x (fun h' => mFr d 33 164 loc (st) h' P)) ∧
  (∀ (d : Nat) (loc : List (Option Value)) (st : List Value) (h : MH) (P : MP), mFr d 33 164 loc st h P = mFr d 33 206 loc (st) h P) := ⟨fun _ _ _ _ _ _ _ _ _ _ _ _ => (mFr_S mq33 h33_141).trans rfl,
  fun _ _ _ _ _ _ => F_get mq33 h33_142 (Or.inl (rfl : _ = some (15, 0, 5, 2))),
  fun _ _ _ _ _ _ _ _ _ _ _ _ => (mFr_S mq33 h33_145).trans rfl,
  fun _ _ _ _ _ => (mFr_S mq33 h33_147).trans rfl,
  fun _ _ _ _ _ _ _ => (mFr_S mq33 h33_148).trans rfl,
  fun _ _ _ _ _ _ _ _ _ _ _ _ => (mFr_S mq33 h33_149).trans rfl,
  fun _ _ _ _ _ _ _ _ _ _ _ _ => (mFr_S mq33 h33_151).trans rfl,
  fun _ _ _ _ _ _ => F_get mq33 h33_152 (Or.inl (rfl : _ = some (15, 0, 5, 2))),
  fun _ _ _ _ _ _ _ _ _ _ _ _ => (mFr_S mq33 h33_155).trans rfl,
  fun _ _ _ _ _ => (mFr_S mq33 h33_157).trans rfl,
  fun _ _ _ _ _ _ _ => (mFr_S mq33 h33_158).trans rfl,
  fun _ _ _ _ _ _ _ => F_iald mq33 h33_159,
  fun _ _ a0 a1 s0 s1 _ _ => F_callS (as := [.int a0, .int a1]) (rest := [.int s0, .ref s1]) mq33 h33_160 (rfl : _ = some (43, 6, 35, 2)) (by decide) (by rfl) (by rfl) (by rfl) (Nat.le_of_ble_eq_true rfl),
  fun _ _ _ _ _ _ _ _ => F_iast mq33 h33_163,
  fun _ _ _ _ _ => F_goto 206 mq33 h33_164 (by decide)⟩
theorem E33_167 : (∀ (d : Nat) (l0 : Option Value) (l1 : Option Value) (l2 : Option Value) (l3 : Option Value) (l4 : Option Value) (l6 : Option Value) (l7 : Option Value) (x : Int32) (st : List Value) (h : MH) (P : MP), mFr d 33 167 [l0, l1, l2, l3, l4, some (.int x), l6, l7] st h P = mFr d 33 169 [l0, l1, l2, l3, l4, some (.int x), l6, l7] (.int x :: st) h P) ∧
  (∀ (d : Nat) (loc : List (Option Value)) (st : List Value) (h : MH) (P : MP), mFr d 33 169 loc st h P = mFr d 33 170 loc (.int 2 :: st) h P) ∧
  (∀ (d : Nat) (loc : List (Option Value)) (x y : Int32) (st : List Value) (h : MH) (P : MP), mFr d 33 170 loc (.int y :: .int x :: st) h P = if x < y then mFr d 33 206 loc (st) h P else mFr d 33 173 loc (st) h P) := ⟨fun _ _ _ _ _ _ _ _ _ _ _ _ => (mFr_S mq33 h33_167).trans rfl,
  fun _ _ _ _ _ => (mFr_S mq33 h33_169).trans rfl,
  fun _ _ _ _ _ _ _ => (F_icmp 206 mq33 h33_170 (by decide)).trans mif_lt⟩
theorem E33_173 : (∀ (d : Nat) (l0 : Option Value) (l1 : Option Value) (l2 : Option Value) (l3 : Option Value) (l4 : Option Value) (l6 : Option Value) (l7 : Option Value) (x : Int32) (st : List Value) (h : MH) (P : MP), mnl l4 = true → mFr d 33 173 [l0, l1, l2, l3, l4, some (.int x), l6, l7] st h P = mFr d 33 176 [l0, l1, l2, l3, l4, some (.int (x + (-1))), l6, l7] (st) h P) ∧
  (∀ (d : Nat) (l1 : Option Value) (l2 : Option Value) (l3 : Option Value) (l4 : Option Value) (l5 : Option Value) (l6 : Option Value) (l7 : Option Value) (x : Nat) (st : List Value) (h : MH) (P : MP), mFr d 33 176 [some (.ref x), l1, l2, l3, l4, l5, l6, l7] st h P = mFr d 33 177 [some (.ref x), l1, l2, l3, l4, l5, l6, l7] (.ref x :: st) h P) ∧
  (∀ (d : Nat) (loc : List (Option Value)) (a : Nat) (st : List Value) (h : MH) (P : MP), mFr d 33 177 loc (.ref a :: st) h P = pget h a 5 2 (fun v => mFr d 33 180 loc (v :: st) h P)) ∧
  (∀ (d : Nat) (l0 : Option Value) (l1 : Option Value) (l2 : Option Value) (l3 : Option Value) (l4 : Option Value) (l6 : Option Value) (l7 : Option Value) (x : Int32) (st : List Value) (h : MH) (P : MP), mFr d 33 180 [l0, l1, l2, l3, l4, some (.int x), l6, l7] st h P = mFr d 33 182 [l0, l1, l2, l3, l4, some (.int x), l6, l7] (.int x :: st) h P) ∧
  (∀ (d : Nat) (loc : List (Option Value)) (st : List Value) (h : MH) (P : MP), mFr d 33 182 loc st h P = mFr d 33 183 loc (.int 1 :: st) h P) ∧
  (∀ (d : Nat) (loc : List (Option Value)) (x y : Int32) (st : List Value) (h : MH) (P : MP), mFr d 33 183 loc (.int y :: .int x :: st) h P = mFr d 33 184 loc (.int (x - y) :: st) h P) ∧
  (∀ (d : Nat) (l0 : Option Value) (l1 : Option Value) (l2 : Option Value) (l3 : Option Value) (l4 : Option Value) (l5 : Option Value) (l6 : Option Value) (x : Int32) (st : List Value) (h : MH) (P : MP), mFr d 33 184 [l0, l1, l2, l3, l4, l5, l6, some (.int x)] st h P = mFr d 33 186 [l0, l1, l2, l3, l4, l5, l6, some (.int x)] (.int x :: st) h P) ∧
  (∀ (d : Nat) (l1 : Option Value) (l2 : Option Value) (l3 : Option Value) (l4 : Option Value) (l5 : Option Value) (l6 : Option Value) (l7 : Option Value) (x : Nat) (st : List Value) (h : MH) (P : MP), mFr d 33 186 [some (.ref x), l1, l2, l3, l4, l5, l6, l7] st h P = mFr d 33 187 [some (.ref x), l1, l2, l3, l4, l5, l6, l7] (.ref x :: st) h P) ∧
  (∀ (d : Nat) (loc : List (Option Value)) (a : Nat) (st : List Value) (h : MH) (P : MP), mFr d 33 187 loc (.ref a :: st) h P = pget h a 5 2 (fun v => mFr d 33 190 loc (v :: st) h P)) ∧
  (∀ (d : Nat) (l0 : Option Value) (l1 : Option Value) (l2 : Option Value) (l3 : Option Value) (l4 : Option Value) (l6 : Option Value) (l7 : Option Value) (x : Int32) (st : List Value) (h : MH) (P : MP), mFr d 33 190 [l0, l1, l2, l3, l4, some (.int x), l6, l7] st h P = mFr d 33 192 [l0, l1, l2, l3, l4, some (.int x), l6, l7] (.int x :: st) h P) ∧
  (∀ (d : Nat) (loc : List (Option Value)) (st : List Value) (h : MH) (P : MP), mFr d 33 192 loc st h P = mFr d 33 193 loc (.int 1 :: st) h P) ∧
  (∀ (d : Nat) (loc : List (Option Value)) (x y : Int32) (st : List Value) (h : MH) (P : MP), mFr d 33 193 loc (.int y :: .int x :: st) h P = mFr d 33 194 loc (.int (x - y) :: st) h P) ∧
  (∀ (d : Nat) (loc : List (Option Value)) (a : Nat) (i : Int32) (st : List Value) (h : MH) (P : MP), mFr d 33 194 loc (.int i :: .ref a :: st) h P = pial h a i (fun x => mFr d 33 195 loc (.int x :: st) h P)) ∧
  (∀ (d : Nat) (l1 : Option Value) (l2 : Option Value) (l3 : Option Value) (l4 : Option Value) (l5 : Option Value) (l6 : Option Value) (l7 : Option Value) (x : Nat) (st : List Value) (h : MH) (P : MP), mFr d 33 195 [some (.ref x), l1, l2, l3, l4, l5, l6, l7] st h P = mFr d 33 196 [some (.ref x), l1, l2, l3, l4, l5, l6, l7] (.ref x :: st) h P) ∧
  (∀ (d : Nat) (loc : List (Option Value)) (a : Nat) (st : List Value) (h : MH) (P : MP), mFr d 33 196 loc (.ref a :: st) h P = pget h a 5 2 (fun v => mFr d 33 199 loc (v :: st) h P)) ∧
  (∀ (d : Nat) (l0 : Option Value) (l1 : Option Value) (l2 : Option Value) (l3 : Option Value) (l4 : Option Value) (l6 : Option Value) (l7 : Option Value) (x : Int32) (st : List Value) (h : MH) (P : MP), mFr d 33 199 [l0, l1, l2, l3, l4, some (.int x), l6, l7] st h P = mFr d 33 201 [l0, l1, l2, l3, l4, some (.int x), l6, l7] (.int x :: st) h P) ∧
  (∀ (d : Nat) (loc : List (Option Value)) (a : Nat) (i : Int32) (st : List Value) (h : MH) (P : MP), mFr d 33 201 loc (.int i :: .ref a :: st) h P = pial h a i (fun x => mFr d 33 202 loc (.int x :: st) h P)) ∧
  (∀ (d : Nat) (loc : List (Option Value)) (a0 : Int32) (a1 : Int32) (a2 : Int32) (s0 : Int32) (s1 : Nat) (h : MH) (P : MP), mFr d 33 202 loc ((.int a2) :: (.int a1) :: (.int a0) :: [.int s0, .ref s1]) h P = mRun d 36 [.int a0, .int a1, .int a2] h (fun v h' => mFr d 33 205 loc (v.toList ++ [.int s0, .ref s1]) h' P)) ∧
  (∀ (d : Nat) (loc : List (Option Value)) (a : Nat) (i x : Int32) (st : List Value) (h : MH) (P : MP), mFr d 33 205 loc (.int x :: .int i :: .ref a :: st) h P = pias h a i x (fun h' => mFr d 33 206 loc (st) h' P)) := ⟨fun _ _ _ _ _ _ _ _ _ _ _ _ hm => (mFr_S mq33 h33_173).trans (by simp only [mgo.eq_1, mstep, mld, mst, mprev, List.length_cons, List.length_nil, List.getElem?_cons_succ, List.getElem?_cons_zero, hm]; rfl),
  fun _ _ _ _ _ _ _ _ _ _ _ _ => (mFr_S mq33 h33_176).trans rfl,
  fun _ _ _ _ _ _ => F_get mq33 h33_177 (Or.inl (rfl : _ = some (15, 0, 5, 2))),
  fun _ _ _ _ _ _ _ _ _ _ _ _ => (mFr_S mq33 h33_180).trans rfl,
  fun _ _ _ _ _ => (mFr_S mq33 h33_182).trans rfl,
  fun _ _ _ _ _ _ _ => (mFr_S mq33 h33_183).trans rfl,
  fun _ _ _ _ _ _ _ _ _ _ _ _ => (mFr_S mq33 h33_184).trans rfl,
  fun _ _ _ _ _ _ _ _ _ _ _ _ => (mFr_S mq33 h33_186).trans rfl,
  fun _ _ _ _ _ _ => F_get mq33 h33_187 (Or.inl (rfl : _ = some (15, 0, 5, 2))),
  fun _ _ _ _ _ _ _ _ _ _ _ _ => (mFr_S mq33 h33_190).trans rfl,
  fun _ _ _ _ _ => (mFr_S mq33 h33_192).trans rfl,
  fun _ _ _ _ _ _ _ => (mFr_S mq33 h33_193).trans rfl,
  fun _ _ _ _ _ _ _ => F_iald mq33 h33_194,
  fun _ _ _ _ _ _ _ _ _ _ _ _ => (mFr_S mq33 h33_195).trans rfl,
  fun _ _ _ _ _ _ => F_get mq33 h33_196 (Or.inl (rfl : _ = some (15, 0, 5, 2))),
  fun _ _ _ _ _ _ _ _ _ _ _ _ => (mFr_S mq33 h33_199).trans rfl,
  fun _ _ _ _ _ _ _ => F_iald mq33 h33_201,
  fun _ _ a0 a1 a2 s0 s1 _ _ => F_callS (as := [.int a0, .int a1, .int a2]) (rest := [.int s0, .ref s1]) mq33 h33_202 (rfl : _ = some (47, 6, 36, 2)) (by decide) (by rfl) (by rfl) (by rfl) (Nat.le_of_ble_eq_true rfl),
  fun _ _ _ _ _ _ _ _ => F_iast mq33 h33_205⟩
theorem E33_206 : (∀ (d : Nat) (l0 : Option Value) (l1 : Option Value) (l2 : Option Value) (l3 : Option Value) (l4 : Option Value) (l5 : Option Value) (l7 : Option Value) (x : Int32) (st : List Value) (h : MH) (P : MP), mnl l5 = true → mFr d 33 206 [l0, l1, l2, l3, l4, l5, some (.int x), l7] st h P = mFr d 33 209 [l0, l1, l2, l3, l4, l5, some (.int (x + 1)), l7] (st) h P) ∧
  (∀ (d : Nat) (loc : List (Option Value)) (st : List Value) (h : MH) (P : MP), mFr d 33 209 loc st h P = mFr d 33 46 loc (st) h P) := ⟨fun _ _ _ _ _ _ _ _ _ _ _ _ hm => (mFr_S mq33 h33_206).trans (by simp only [mgo.eq_1, mstep, mld, mst, mprev, List.length_cons, List.length_nil, List.getElem?_cons_succ, List.getElem?_cons_zero, hm]; rfl),
  fun _ _ _ _ _ => F_goto 46 mq33 h33_209 (by decide)⟩
theorem E33_212 : (∀ (d : Nat) (l0 : Option Value) (l1 : Option Value) (l2 : Option Value) (l3 : Option Value) (l4 : Option Value) (l6 : Option Value) (l7 : Option Value) (x : Int32) (st : List Value) (h : MH) (P : MP), mFr d 33 212 [l0, l1, l2, l3, l4, some (.int x), l6, l7] st h P = mFr d 33 214 [l0, l1, l2, l3, l4, some (.int x), l6, l7] (.int x :: st) h P) ∧
  (∀ (d : Nat) (loc : List (Option Value)) (st : List Value) (h : MH) (P : MP), mFr d 33 214 loc st h P = mFr d 33 215 loc (.int 1 :: st) h P) ∧
  (∀ (d : Nat) (loc : List (Option Value)) (x y : Int32) (st : List Value) (h : MH) (P : MP), mFr d 33 215 loc (.int y :: .int x :: st) h P = if x < y then mFr d 33 218 loc (st) h P else mFr d 33 222 loc (st) h P) := ⟨fun _ _ _ _ _ _ _ _ _ _ _ _ => (mFr_S mq33 h33_212).trans rfl,
  fun _ _ _ _ _ => (mFr_S mq33 h33_214).trans rfl,
  fun _ _ _ _ _ _ _ => (F_icmp 222 mq33 h33_215 (by decide)).trans mif_ge⟩
theorem E33_218 : (∀ (d : Nat) (loc : List (Option Value)) (st : List Value) (h : MH) (P : MP), mFr d 33 218 loc st h P = mFr d 33 219 loc (.int 0 :: st) h P) ∧
  (∀ (d : Nat) (loc : List (Option Value)) (st : List Value) (h : MH) (P : MP), mFr d 33 219 loc st h P = mFr d 33 237 loc (st) h P) := ⟨fun _ _ _ _ _ => (mFr_S mq33 h33_218).trans rfl,
  fun _ _ _ _ _ => F_goto 237 mq33 h33_219 (by decide)⟩
theorem E33_222 : (∀ (d : Nat) (loc : List (Option Value)) (st : List Value) (h : MH) (P : MP), mFr d 33 222 loc st h P = mFr d 33 223 loc (.int 0 :: st) h P) ∧
  (∀ (d : Nat) (l1 : Option Value) (l2 : Option Value) (l3 : Option Value) (l4 : Option Value) (l5 : Option Value) (l6 : Option Value) (l7 : Option Value) (x : Nat) (st : List Value) (h : MH) (P : MP), mFr d 33 223 [some (.ref x), l1, l2, l3, l4, l5, l6, l7] st h P = mFr d 33 224 [some (.ref x), l1, l2, l3, l4, l5, l6, l7] (.ref x :: st) h P) ∧
  (∀ (d : Nat) (loc : List (Option Value)) (a : Nat) (st : List Value) (h : MH) (P : MP), mFr d 33 224 loc (.ref a :: st) h P = pget h a 5 2 (fun v => mFr d 33 227 loc (v :: st) h P)) ∧
  (∀ (d : Nat) (loc : List (Option Value)) (st : List Value) (h : MH) (P : MP), mFr d 33 227 loc st h P = mFr d 33 228 loc (.int 0 :: st) h P) ∧
  (∀ (d : Nat) (loc : List (Option Value)) (a : Nat) (i : Int32) (st : List Value) (h : MH) (P : MP), mFr d 33 228 loc (.int i :: .ref a :: st) h P = pial h a i (fun x => mFr d 33 229 loc (.int x :: st) h P)) ∧
  (∀ (d : Nat) (loc : List (Option Value)) (st : List Value) (h : MH) (P : MP), mFr d 33 229 loc st h P = mFr d 33 231 loc (.int 99 :: st) h P) ∧
  (∀ (d : Nat) (loc : List (Option Value)) (x y : Int32) (s0 : Int32) (h : MH) (P : MP), mFr d 33 231 loc (.int y :: .int x :: [.int s0]) h P = mFr d 33 234 loc (.int (if y < x then y else x) :: [.int s0]) h P) ∧
  (∀ (d : Nat) (loc : List (Option Value)) (x y : Int32) (h : MH) (P : MP), mFr d 33 234 loc (.int y :: .int x :: []) h P = mFr d 33 237 loc (.int (if x < y then y else x) :: []) h P) := ⟨fun _ _ _ _ _ => (mFr_S mq33 h33_222).trans rfl,
  fun _ _ _ _ _ _ _ _ _ _ _ _ => (mFr_S mq33 h33_223).trans rfl,
  fun _ _ _ _ _ _ => F_get mq33 h33_224 (Or.inl (rfl : _ = some (15, 0, 5, 2))),
  fun _ _ _ _ _ => (mFr_S mq33 h33_227).trans rfl,
  fun _ _ _ _ _ _ _ => F_iald mq33 h33_228,
  fun _ _ _ _ _ => (mFr_S mq33 h33_229).trans rfl,
  fun _ _ _ _ _ _ _ => F_min mq33 h33_231 (rfl : _ = some (51, 11, 0, 0)) (Nat.le_of_ble_eq_true rfl),
  fun _ _ _ _ _ _ => F_max mq33 h33_234 (rfl : _ = some (56, 10, 0, 0)) (Nat.le_of_ble_eq_true rfl)⟩
theorem E33_237 : (∀ (d : Nat) (loc : List (Option Value)) (x : Int32) (h : MH) (P : MP), mFr d 33 237 loc [.int x] h P = P (some (.int x)) h) := fun _ _ _ _ _ => F_ret mq33 h33_237 rfl rfl
theorem B33 : ∀ (d : Nat) (b : Nat) (a0 : Int32) (a1 : Nat) (a2 : Nat) (h : MH) (P : MP), mRun (d + 1) 33 [.ref b, .int a0, .ref a1, .ref a2] h P = mFr d 33 0 [some (.ref b), some (.int a0), some (.ref a1), some (.ref a2), none, none, none, none] [] h P := fun _ _ _ _ _ _ _ => mRun_S mq33 (Nat.le_of_ble_eq_true rfl)
-- 34: PuncturesAreViews$Text.named(IILPuncturesAreViews$Rider;LPuncturesAreViews$Road;)I
def q34 : MI := (yX5_named, cX5_named, 4, (some .int), 5, 4)
theorem mq34 : mtab[34]? = some q34 := rfl
theorem h34_0 : mfetch q34.2.1 0 = some (.iload_n 0) := by decide +kernel
theorem h34_1 : mfetch q34.2.1 1 = some (.tableswitch 66 0 5 #[39, 41, 46, 51, 56, 61]) := by decide +kernel
theorem h34_40 : mfetch q34.2.1 40 = some (.iload_n 1) := by decide +kernel
theorem h34_41 : mfetch q34.2.1 41 = some (.ireturn) := by decide +kernel
theorem h34_42 : mfetch q34.2.1 42 = some (.aload_n 2) := by decide +kernel
theorem h34_43 : mfetch q34.2.1 43 = some (.getfield 59) := by decide +kernel
theorem h34_46 : mfetch q34.2.1 46 = some (.ireturn) := by decide +kernel
theorem h34_47 : mfetch q34.2.1 47 = some (.aload_n 2) := by decide +kernel
theorem h34_48 : mfetch q34.2.1 48 = some (.getfield 62) := by decide +kernel
theorem h34_51 : mfetch q34.2.1 51 = some (.ireturn) := by decide +kernel
theorem h34_52 : mfetch q34.2.1 52 = some (.aload_n 2) := by decide +kernel
theorem h34_53 : mfetch q34.2.1 53 = some (.getfield 28) := by decide +kernel
theorem h34_56 : mfetch q34.2.1 56 = some (.ireturn) := by decide +kernel
theorem h34_57 : mfetch q34.2.1 57 = some (.aload_n 2) := by decide +kernel
theorem h34_58 : mfetch q34.2.1 58 = some (.getfield 63) := by decide +kernel
theorem h34_61 : mfetch q34.2.1 61 = some (.ireturn) := by decide +kernel
theorem h34_62 : mfetch q34.2.1 62 = some (.aload_n 3) := by decide +kernel
theorem h34_63 : mfetch q34.2.1 63 = some (.getfield 66) := by decide +kernel
theorem h34_66 : mfetch q34.2.1 66 = some (.ireturn) := by decide +kernel
theorem h34_67 : mfetch q34.2.1 67 = some (.iload_n 0) := by decide +kernel
theorem h34_68 : mfetch q34.2.1 68 = some (.bipush 100) := by decide +kernel
theorem h34_70 : mfetch q34.2.1 70 = some (.isub) := by decide +kernel
theorem h34_71 : mfetch q34.2.1 71 = some (.ireturn) := by decide +kernel
theorem E34_0 : (∀ (d : Nat) (l1 : Option Value) (l2 : Option Value) (l3 : Option Value) (x : Int32) (st : List Value) (h : MH) (P : MP), mFr d 34 0 [some (.int x), l1, l2, l3] st h P = mFr d 34 1 [some (.int x), l1, l2, l3] (.int x :: st) h P) ∧
  (∀ (d : Nat) (loc : List (Option Value)) (x : Int32) (st : List Value) (h : MH) (P : MP), mFr d 34 1 loc (.int x :: st) h P = if x = 0 then mFr d 34 40 loc (st) h P else if x = 1 then mFr d 34 42 loc (st) h P else if x = 2 then mFr d 34 47 loc (st) h P else if x = 3 then mFr d 34 52 loc (st) h P else if x = 4 then mFr d 34 57 loc (st) h P else if x = 5 then mFr d 34 62 loc (st) h P else mFr d 34 67 loc (st) h P) := ⟨fun _ _ _ _ _ _ _ _ => (mFr_S mq34 h34_0).trans rfl,
  fun _ _ _ _ _ _ => F_table 67 [(0, 40), (1, 42), (2, 47), (3, 52), (4, 57), (5, 62)] mq34 h34_1 (by decide) (by decide +kernel) (by decide)⟩
theorem E34_40 : (∀ (d : Nat) (l0 : Option Value) (l2 : Option Value) (l3 : Option Value) (x : Int32) (st : List Value) (h : MH) (P : MP), mFr d 34 40 [l0, some (.int x), l2, l3] st h P = mFr d 34 41 [l0, some (.int x), l2, l3] (.int x :: st) h P) ∧
  (∀ (d : Nat) (loc : List (Option Value)) (x : Int32) (h : MH) (P : MP), mFr d 34 41 loc [.int x] h P = P (some (.int x)) h) := ⟨fun _ _ _ _ _ _ _ _ => (mFr_S mq34 h34_40).trans rfl,
  fun _ _ _ _ _ => F_ret mq34 h34_41 rfl rfl⟩
theorem E34_42 : (∀ (d : Nat) (l0 : Option Value) (l1 : Option Value) (l3 : Option Value) (x : Nat) (st : List Value) (h : MH) (P : MP), mFr d 34 42 [l0, l1, some (.ref x), l3] st h P = mFr d 34 43 [l0, l1, some (.ref x), l3] (.ref x :: st) h P) ∧
  (∀ (d : Nat) (l0 : Option Value) (l1 : Option Value) (l3 : Option Value) (st : List Value) (h : MH) (P : MP), mFr d 34 42 [l0, l1, some .null, l3] st h P = mFr d 34 43 [l0, l1, some .null, l3] (.null :: st) h P) ∧
  (∀ (d : Nat) (loc : List (Option Value)) (a : Nat) (st : List Value) (h : MH) (P : MP), mFr d 34 43 loc (.ref a :: st) h P = pget h a 1 4 (fun v => mFr d 34 46 loc (v :: st) h P)) ∧
  (∀ (d : Nat) (loc : List (Option Value)) (x : Int32) (h : MH) (P : MP), mFr d 34 46 loc [.int x] h P = P (some (.int x)) h) := ⟨fun _ _ _ _ _ _ _ _ => (mFr_S mq34 h34_42).trans rfl,
  fun _ _ _ _ _ _ _ => (mFr_S mq34 h34_42).trans rfl,
  fun _ _ _ _ _ _ => F_get mq34 h34_43 (Or.inr (rfl : _ = some (59, 1, 1, 4))),
  fun _ _ _ _ _ => F_ret mq34 h34_46 rfl rfl⟩
theorem E34_47 : (∀ (d : Nat) (l0 : Option Value) (l1 : Option Value) (l3 : Option Value) (x : Nat) (st : List Value) (h : MH) (P : MP), mFr d 34 47 [l0, l1, some (.ref x), l3] st h P = mFr d 34 48 [l0, l1, some (.ref x), l3] (.ref x :: st) h P) ∧
  (∀ (d : Nat) (l0 : Option Value) (l1 : Option Value) (l3 : Option Value) (st : List Value) (h : MH) (P : MP), mFr d 34 47 [l0, l1, some .null, l3] st h P = mFr d 34 48 [l0, l1, some .null, l3] (.null :: st) h P) ∧
  (∀ (d : Nat) (loc : List (Option Value)) (a : Nat) (st : List Value) (h : MH) (P : MP), mFr d 34 48 loc (.ref a :: st) h P = pget h a 1 1 (fun v => mFr d 34 51 loc (v :: st) h P)) ∧
  (∀ (d : Nat) (loc : List (Option Value)) (x : Int32) (h : MH) (P : MP), mFr d 34 51 loc [.int x] h P = P (some (.int x)) h) := ⟨fun _ _ _ _ _ _ _ _ => (mFr_S mq34 h34_47).trans rfl,
  fun _ _ _ _ _ _ _ => (mFr_S mq34 h34_47).trans rfl,
  fun _ _ _ _ _ _ => F_get mq34 h34_48 (Or.inr (rfl : _ = some (62, 1, 1, 1))),
  fun _ _ _ _ _ => F_ret mq34 h34_51 rfl rfl⟩
theorem E34_52 : (∀ (d : Nat) (l0 : Option Value) (l1 : Option Value) (l3 : Option Value) (x : Nat) (st : List Value) (h : MH) (P : MP), mFr d 34 52 [l0, l1, some (.ref x), l3] st h P = mFr d 34 53 [l0, l1, some (.ref x), l3] (.ref x :: st) h P) ∧
  (∀ (d : Nat) (l0 : Option Value) (l1 : Option Value) (l3 : Option Value) (st : List Value) (h : MH) (P : MP), mFr d 34 52 [l0, l1, some .null, l3] st h P = mFr d 34 53 [l0, l1, some .null, l3] (.null :: st) h P) ∧
  (∀ (d : Nat) (loc : List (Option Value)) (a : Nat) (st : List Value) (h : MH) (P : MP), mFr d 34 53 loc (.ref a :: st) h P = pget h a 1 3 (fun v => mFr d 34 56 loc (v :: st) h P)) ∧
  (∀ (d : Nat) (loc : List (Option Value)) (x : Int32) (h : MH) (P : MP), mFr d 34 56 loc [.int x] h P = P (some (.int x)) h) := ⟨fun _ _ _ _ _ _ _ _ => (mFr_S mq34 h34_52).trans rfl,
  fun _ _ _ _ _ _ _ => (mFr_S mq34 h34_52).trans rfl,
  fun _ _ _ _ _ _ => F_get mq34 h34_53 (Or.inr (rfl : _ = some (28, 1, 1, 3))),
  fun _ _ _ _ _ => F_ret mq34 h34_56 rfl rfl⟩
theorem E34_57 : (∀ (d : Nat) (l0 : Option Value) (l1 : Option Value) (l3 : Option Value) (x : Nat) (st : List Value) (h : MH) (P : MP), mFr d 34 57 [l0, l1, some (.ref x), l3] st h P = mFr d 34 58 [l0, l1, some (.ref x), l3] (.ref x :: st) h P) ∧
  (∀ (d : Nat) (l0 : Option Value) (l1 : Option Value) (l3 : Option Value) (st : List Value) (h : MH) (P : MP), mFr d 34 57 [l0, l1, some .null, l3] st h P = mFr d 34 58 [l0, l1, some .null, l3] (.null :: st) h P) ∧
  (∀ (d : Nat) (loc : List (Option Value)) (a : Nat) (st : List Value) (h : MH) (P : MP), mFr d 34 58 loc (.ref a :: st) h P = pget h a 1 2 (fun v => mFr d 34 61 loc (v :: st) h P)) ∧
  (∀ (d : Nat) (loc : List (Option Value)) (x : Int32) (h : MH) (P : MP), mFr d 34 61 loc [.int x] h P = P (some (.int x)) h) := ⟨fun _ _ _ _ _ _ _ _ => (mFr_S mq34 h34_57).trans rfl,
  fun _ _ _ _ _ _ _ => (mFr_S mq34 h34_57).trans rfl,
  fun _ _ _ _ _ _ => F_get mq34 h34_58 (Or.inr (rfl : _ = some (63, 1, 1, 2))),
  fun _ _ _ _ _ => F_ret mq34 h34_61 rfl rfl⟩
theorem E34_62 : (∀ (d : Nat) (l0 : Option Value) (l1 : Option Value) (l2 : Option Value) (x : Nat) (st : List Value) (h : MH) (P : MP), mFr d 34 62 [l0, l1, l2, some (.ref x)] st h P = mFr d 34 63 [l0, l1, l2, some (.ref x)] (.ref x :: st) h P) ∧
  (∀ (d : Nat) (l0 : Option Value) (l1 : Option Value) (l2 : Option Value) (st : List Value) (h : MH) (P : MP), mFr d 34 62 [l0, l1, l2, some .null] st h P = mFr d 34 63 [l0, l1, l2, some .null] (.null :: st) h P) ∧
  (∀ (d : Nat) (loc : List (Option Value)) (a : Nat) (st : List Value) (h : MH) (P : MP), mFr d 34 63 loc (.ref a :: st) h P = pget h a 2 1 (fun v => mFr d 34 66 loc (v :: st) h P)) ∧
  (∀ (d : Nat) (loc : List (Option Value)) (x : Int32) (h : MH) (P : MP), mFr d 34 66 loc [.int x] h P = P (some (.int x)) h) := ⟨fun _ _ _ _ _ _ _ _ => (mFr_S mq34 h34_62).trans rfl,
  fun _ _ _ _ _ _ _ => (mFr_S mq34 h34_62).trans rfl,
  fun _ _ _ _ _ _ => F_get mq34 h34_63 (Or.inr (rfl : _ = some (66, 1, 2, 1))),
  fun _ _ _ _ _ => F_ret mq34 h34_66 rfl rfl⟩
theorem E34_67 : (∀ (d : Nat) (l1 : Option Value) (l2 : Option Value) (l3 : Option Value) (x : Int32) (st : List Value) (h : MH) (P : MP), mFr d 34 67 [some (.int x), l1, l2, l3] st h P = mFr d 34 68 [some (.int x), l1, l2, l3] (.int x :: st) h P) ∧
  (∀ (d : Nat) (loc : List (Option Value)) (st : List Value) (h : MH) (P : MP), mFr d 34 68 loc st h P = mFr d 34 70 loc (.int 100 :: st) h P) ∧
  (∀ (d : Nat) (loc : List (Option Value)) (x y : Int32) (st : List Value) (h : MH) (P : MP), mFr d 34 70 loc (.int y :: .int x :: st) h P = mFr d 34 71 loc (.int (x - y) :: st) h P) ∧
  (∀ (d : Nat) (loc : List (Option Value)) (x : Int32) (h : MH) (P : MP), mFr d 34 71 loc [.int x] h P = P (some (.int x)) h) := ⟨fun _ _ _ _ _ _ _ _ => (mFr_S mq34 h34_67).trans rfl,
  fun _ _ _ _ _ => (mFr_S mq34 h34_68).trans rfl,
  fun _ _ _ _ _ _ _ => (mFr_S mq34 h34_70).trans rfl,
  fun _ _ _ _ _ => F_ret mq34 h34_71 rfl rfl⟩
theorem B34 : ∀ (d : Nat) (a0 : Int32) (a1 : Int32) (a2 : Nat) (a3 : Nat) (h : MH) (P : MP), mRun (d + 1) 34 [.int a0, .int a1, .ref a2, .ref a3] h P = mFr d 34 0 [some (.int a0), some (.int a1), some (.ref a2), some (.ref a3)] [] h P := fun _ _ _ _ _ _ _ => mRun_S mq34 (Nat.le_of_ble_eq_true rfl)
-- 35: PuncturesAreViews$Text.turned(II)I
def q35 : MI := (yX5_turned, cX5_turned, 2, (some .int), 5, 2)
theorem mq35 : mtab[35]? = some q35 := rfl
theorem h35_0 : mfetch q35.2.1 0 = some (.iload_n 0) := by decide +kernel
theorem h35_1 : mfetch q35.2.1 1 = some (.bipush 22) := by decide +kernel
theorem h35_3 : mfetch q35.2.1 3 = some (.if_icmp .ne 6) := by decide +kernel
theorem h35_6 : mfetch q35.2.1 6 = some (.iload_n 1) := by decide +kernel
theorem h35_7 : mfetch q35.2.1 7 = some (.ineg) := by decide +kernel
theorem h35_8 : mfetch q35.2.1 8 = some (.ireturn) := by decide +kernel
theorem h35_9 : mfetch q35.2.1 9 = some (.iload_n 1) := by decide +kernel
theorem h35_10 : mfetch q35.2.1 10 = some (.ifCond .ne 7) := by decide +kernel
theorem h35_13 : mfetch q35.2.1 13 = some (.iconst 1) := by decide +kernel
theorem h35_14 : mfetch q35.2.1 14 = some (.goto 4) := by decide +kernel
theorem h35_17 : mfetch q35.2.1 17 = some (.iconst 0) := by decide +kernel
theorem h35_18 : mfetch q35.2.1 18 = some (.ireturn) := by decide +kernel
theorem E35_0 : (∀ (d : Nat) (l1 : Option Value) (x : Int32) (st : List Value) (h : MH) (P : MP), mFr d 35 0 [some (.int x), l1] st h P = mFr d 35 1 [some (.int x), l1] (.int x :: st) h P) ∧
  (∀ (d : Nat) (loc : List (Option Value)) (st : List Value) (h : MH) (P : MP), mFr d 35 1 loc st h P = mFr d 35 3 loc (.int 22 :: st) h P) ∧
  (∀ (d : Nat) (loc : List (Option Value)) (x y : Int32) (st : List Value) (h : MH) (P : MP), mFr d 35 3 loc (.int y :: .int x :: st) h P = if x = y then mFr d 35 6 loc (st) h P else mFr d 35 9 loc (st) h P) := ⟨fun _ _ _ _ _ _ => (mFr_S mq35 h35_0).trans rfl,
  fun _ _ _ _ _ => (mFr_S mq35 h35_1).trans rfl,
  fun _ _ _ _ _ _ _ => (F_icmp 9 mq35 h35_3 (by decide)).trans mif_ne⟩
theorem E35_6 : (∀ (d : Nat) (l0 : Option Value) (x : Int32) (st : List Value) (h : MH) (P : MP), mFr d 35 6 [l0, some (.int x)] st h P = mFr d 35 7 [l0, some (.int x)] (.int x :: st) h P) ∧
  (∀ (d : Nat) (loc : List (Option Value)) (x : Int32) (st : List Value) (h : MH) (P : MP), mFr d 35 7 loc (.int x :: st) h P = mFr d 35 8 loc (.int (-x) :: st) h P) ∧
  (∀ (d : Nat) (loc : List (Option Value)) (x : Int32) (h : MH) (P : MP), mFr d 35 8 loc [.int x] h P = P (some (.int x)) h) := ⟨fun _ _ _ _ _ _ => (mFr_S mq35 h35_6).trans rfl,
  fun _ _ _ _ _ _ => (mFr_S mq35 h35_7).trans rfl,
  fun _ _ _ _ _ => F_ret mq35 h35_8 rfl rfl⟩
theorem E35_9 : (∀ (d : Nat) (l0 : Option Value) (x : Int32) (st : List Value) (h : MH) (P : MP), mFr d 35 9 [l0, some (.int x)] st h P = mFr d 35 10 [l0, some (.int x)] (.int x :: st) h P) ∧
  (∀ (d : Nat) (loc : List (Option Value)) (x : Int32) (st : List Value) (h : MH) (P : MP), mFr d 35 10 loc (.int x :: st) h P = if x = 0 then mFr d 35 13 loc (st) h P else mFr d 35 17 loc (st) h P) := ⟨fun _ _ _ _ _ _ => (mFr_S mq35 h35_9).trans rfl,
  fun _ _ _ _ _ _ => (F_ifz 17 mq35 h35_10 (by decide)).trans mif_ne⟩
theorem E35_13 : (∀ (d : Nat) (loc : List (Option Value)) (st : List Value) (h : MH) (P : MP), mFr d 35 13 loc st h P = mFr d 35 14 loc (.int 1 :: st) h P) ∧
  (∀ (d : Nat) (loc : List (Option Value)) (st : List Value) (h : MH) (P : MP), mFr d 35 14 loc st h P = mFr d 35 18 loc (st) h P) := ⟨fun _ _ _ _ _ => (mFr_S mq35 h35_13).trans rfl,
  fun _ _ _ _ _ => F_goto 18 mq35 h35_14 (by decide)⟩
theorem E35_17 : (∀ (d : Nat) (loc : List (Option Value)) (st : List Value) (h : MH) (P : MP), mFr d 35 17 loc st h P = mFr d 35 18 loc (.int 0 :: st) h P) := fun _ _ _ _ _ => (mFr_S mq35 h35_17).trans rfl
theorem E35_18 : (∀ (d : Nat) (loc : List (Option Value)) (x : Int32) (h : MH) (P : MP), mFr d 35 18 loc [.int x] h P = P (some (.int x)) h) := fun _ _ _ _ _ => F_ret mq35 h35_18 rfl rfl
theorem B35 : ∀ (d : Nat) (a0 : Int32) (a1 : Int32) (h : MH) (P : MP), mRun (d + 1) 35 [.int a0, .int a1] h P = mFr d 35 0 [some (.int a0), some (.int a1)] [] h P := fun _ _ _ _ _ => mRun_S mq35 (Nat.le_of_ble_eq_true rfl)
-- 36: PuncturesAreViews$Text.joined(III)I
def q36 : MI := (yX5_joined, cX5_joined, 3, (some .int), 5, 3)
theorem mq36 : mtab[36]? = some q36 := rfl
theorem h36_0 : mfetch q36.2.1 0 = some (.iload_n 0) := by decide +kernel
theorem h36_1 : mfetch q36.2.1 1 = some (.tableswitch 117 9 19 #[59, 73, 117, 117, 117, 117, 109, 113, 117, 87, 98]) := by decide +kernel
theorem h36_60 : mfetch q36.2.1 60 = some (.iload_n 1) := by decide +kernel
theorem h36_61 : mfetch q36.2.1 61 = some (.ifCond .ne 7) := by decide +kernel
theorem h36_64 : mfetch q36.2.1 64 = some (.iload_n 2) := by decide +kernel
theorem h36_65 : mfetch q36.2.1 65 = some (.ifCond .eq 7) := by decide +kernel
theorem h36_68 : mfetch q36.2.1 68 = some (.iconst 1) := by decide +kernel
theorem h36_69 : mfetch q36.2.1 69 = some (.goto 4) := by decide +kernel
theorem h36_72 : mfetch q36.2.1 72 = some (.iconst 0) := by decide +kernel
theorem h36_73 : mfetch q36.2.1 73 = some (.ireturn) := by decide +kernel
theorem h36_74 : mfetch q36.2.1 74 = some (.iload_n 1) := by decide +kernel
theorem h36_75 : mfetch q36.2.1 75 = some (.ifCond .eq 11) := by decide +kernel
theorem h36_78 : mfetch q36.2.1 78 = some (.iload_n 2) := by decide +kernel
theorem h36_79 : mfetch q36.2.1 79 = some (.ifCond .eq 7) := by decide +kernel
theorem h36_82 : mfetch q36.2.1 82 = some (.iconst 1) := by decide +kernel
theorem h36_83 : mfetch q36.2.1 83 = some (.goto 4) := by decide +kernel
theorem h36_86 : mfetch q36.2.1 86 = some (.iconst 0) := by decide +kernel
theorem h36_87 : mfetch q36.2.1 87 = some (.ireturn) := by decide +kernel
theorem h36_88 : mfetch q36.2.1 88 = some (.iload_n 1) := by decide +kernel
theorem h36_89 : mfetch q36.2.1 89 = some (.iload_n 2) := by decide +kernel
theorem h36_90 : mfetch q36.2.1 90 = some (.if_icmp .ge 7) := by decide +kernel
theorem h36_93 : mfetch q36.2.1 93 = some (.iconst 1) := by decide +kernel
theorem h36_94 : mfetch q36.2.1 94 = some (.goto 4) := by decide +kernel
theorem h36_97 : mfetch q36.2.1 97 = some (.iconst 0) := by decide +kernel
theorem h36_98 : mfetch q36.2.1 98 = some (.ireturn) := by decide +kernel
theorem h36_99 : mfetch q36.2.1 99 = some (.iload_n 1) := by decide +kernel
theorem h36_100 : mfetch q36.2.1 100 = some (.iload_n 2) := by decide +kernel
theorem h36_101 : mfetch q36.2.1 101 = some (.if_icmp .ne 7) := by decide +kernel
theorem h36_104 : mfetch q36.2.1 104 = some (.iconst 1) := by decide +kernel
theorem h36_105 : mfetch q36.2.1 105 = some (.goto 4) := by decide +kernel
theorem h36_108 : mfetch q36.2.1 108 = some (.iconst 0) := by decide +kernel
theorem h36_109 : mfetch q36.2.1 109 = some (.ireturn) := by decide +kernel
theorem h36_110 : mfetch q36.2.1 110 = some (.iload_n 1) := by decide +kernel
theorem h36_111 : mfetch q36.2.1 111 = some (.iload_n 2) := by decide +kernel
theorem h36_112 : mfetch q36.2.1 112 = some (.iadd) := by decide +kernel
theorem h36_113 : mfetch q36.2.1 113 = some (.ireturn) := by decide +kernel
theorem h36_114 : mfetch q36.2.1 114 = some (.iload_n 1) := by decide +kernel
theorem h36_115 : mfetch q36.2.1 115 = some (.iload_n 2) := by decide +kernel
theorem h36_116 : mfetch q36.2.1 116 = some (.isub) := by decide +kernel
theorem h36_117 : mfetch q36.2.1 117 = some (.ireturn) := by decide +kernel
theorem h36_118 : mfetch q36.2.1 118 = some (.iload_n 1) := by decide +kernel
theorem h36_119 : mfetch q36.2.1 119 = some (.iload_n 2) := by decide +kernel
theorem h36_120 : mfetch q36.2.1 120 = some (.imul) := by decide +kernel
theorem h36_121 : mfetch q36.2.1 121 = some (.ireturn) := by decide +kernel
theorem E36_0 : (∀ (d : Nat) (l1 : Option Value) (l2 : Option Value) (x : Int32) (st : List Value) (h : MH) (P : MP), mFr d 36 0 [some (.int x), l1, l2] st h P = mFr d 36 1 [some (.int x), l1, l2] (.int x :: st) h P) ∧
  (∀ (d : Nat) (loc : List (Option Value)) (x : Int32) (st : List Value) (h : MH) (P : MP), mFr d 36 1 loc (.int x :: st) h P = if x = 9 then mFr d 36 60 loc (st) h P else if x = 10 then mFr d 36 74 loc (st) h P else if x = 11 then mFr d 36 118 loc (st) h P else if x = 12 then mFr d 36 118 loc (st) h P else if x = 13 then mFr d 36 118 loc (st) h P else if x = 14 then mFr d 36 118 loc (st) h P else if x = 15 then mFr d 36 110 loc (st) h P else if x = 16 then mFr d 36 114 loc (st) h P else if x = 17 then mFr d 36 118 loc (st) h P else if x = 18 then mFr d 36 88 loc (st) h P else if x = 19 then mFr d 36 99 loc (st) h P else mFr d 36 118 loc (st) h P) := ⟨fun _ _ _ _ _ _ _ => (mFr_S mq36 h36_0).trans rfl,
  fun _ _ _ _ _ _ => F_table 118 [(9, 60), (10, 74), (11, 118), (12, 118), (13, 118), (14, 118), (15, 110), (16, 114), (17, 118), (18, 88), (19, 99)] mq36 h36_1 (by decide) (by decide +kernel) (by decide)⟩
theorem E36_60 : (∀ (d : Nat) (l0 : Option Value) (l2 : Option Value) (x : Int32) (st : List Value) (h : MH) (P : MP), mFr d 36 60 [l0, some (.int x), l2] st h P = mFr d 36 61 [l0, some (.int x), l2] (.int x :: st) h P) ∧
  (∀ (d : Nat) (loc : List (Option Value)) (x : Int32) (st : List Value) (h : MH) (P : MP), mFr d 36 61 loc (.int x :: st) h P = if x = 0 then mFr d 36 64 loc (st) h P else mFr d 36 68 loc (st) h P) := ⟨fun _ _ _ _ _ _ _ => (mFr_S mq36 h36_60).trans rfl,
  fun _ _ _ _ _ _ => (F_ifz 68 mq36 h36_61 (by decide)).trans mif_ne⟩
theorem E36_64 : (∀ (d : Nat) (l0 : Option Value) (l1 : Option Value) (x : Int32) (st : List Value) (h : MH) (P : MP), mFr d 36 64 [l0, l1, some (.int x)] st h P = mFr d 36 65 [l0, l1, some (.int x)] (.int x :: st) h P) ∧
  (∀ (d : Nat) (loc : List (Option Value)) (x : Int32) (st : List Value) (h : MH) (P : MP), mFr d 36 65 loc (.int x :: st) h P = if x = 0 then mFr d 36 72 loc (st) h P else mFr d 36 68 loc (st) h P) := ⟨fun _ _ _ _ _ _ _ => (mFr_S mq36 h36_64).trans rfl,
  fun _ _ _ _ _ _ => (F_ifz 72 mq36 h36_65 (by decide)).trans mif_eq⟩
theorem E36_68 : (∀ (d : Nat) (loc : List (Option Value)) (st : List Value) (h : MH) (P : MP), mFr d 36 68 loc st h P = mFr d 36 69 loc (.int 1 :: st) h P) ∧
  (∀ (d : Nat) (loc : List (Option Value)) (st : List Value) (h : MH) (P : MP), mFr d 36 69 loc st h P = mFr d 36 73 loc (st) h P) := ⟨fun _ _ _ _ _ => (mFr_S mq36 h36_68).trans rfl,
  fun _ _ _ _ _ => F_goto 73 mq36 h36_69 (by decide)⟩
theorem E36_72 : (∀ (d : Nat) (loc : List (Option Value)) (st : List Value) (h : MH) (P : MP), mFr d 36 72 loc st h P = mFr d 36 73 loc (.int 0 :: st) h P) := fun _ _ _ _ _ => (mFr_S mq36 h36_72).trans rfl
theorem E36_73 : (∀ (d : Nat) (loc : List (Option Value)) (x : Int32) (h : MH) (P : MP), mFr d 36 73 loc [.int x] h P = P (some (.int x)) h) := fun _ _ _ _ _ => F_ret mq36 h36_73 rfl rfl
theorem E36_74 : (∀ (d : Nat) (l0 : Option Value) (l2 : Option Value) (x : Int32) (st : List Value) (h : MH) (P : MP), mFr d 36 74 [l0, some (.int x), l2] st h P = mFr d 36 75 [l0, some (.int x), l2] (.int x :: st) h P) ∧
  (∀ (d : Nat) (loc : List (Option Value)) (x : Int32) (st : List Value) (h : MH) (P : MP), mFr d 36 75 loc (.int x :: st) h P = if x = 0 then mFr d 36 86 loc (st) h P else mFr d 36 78 loc (st) h P) := ⟨fun _ _ _ _ _ _ _ => (mFr_S mq36 h36_74).trans rfl,
  fun _ _ _ _ _ _ => (F_ifz 86 mq36 h36_75 (by decide)).trans mif_eq⟩
theorem E36_78 : (∀ (d : Nat) (l0 : Option Value) (l1 : Option Value) (x : Int32) (st : List Value) (h : MH) (P : MP), mFr d 36 78 [l0, l1, some (.int x)] st h P = mFr d 36 79 [l0, l1, some (.int x)] (.int x :: st) h P) ∧
  (∀ (d : Nat) (loc : List (Option Value)) (x : Int32) (st : List Value) (h : MH) (P : MP), mFr d 36 79 loc (.int x :: st) h P = if x = 0 then mFr d 36 86 loc (st) h P else mFr d 36 82 loc (st) h P) := ⟨fun _ _ _ _ _ _ _ => (mFr_S mq36 h36_78).trans rfl,
  fun _ _ _ _ _ _ => (F_ifz 86 mq36 h36_79 (by decide)).trans mif_eq⟩
theorem E36_82 : (∀ (d : Nat) (loc : List (Option Value)) (st : List Value) (h : MH) (P : MP), mFr d 36 82 loc st h P = mFr d 36 83 loc (.int 1 :: st) h P) ∧
  (∀ (d : Nat) (loc : List (Option Value)) (st : List Value) (h : MH) (P : MP), mFr d 36 83 loc st h P = mFr d 36 87 loc (st) h P) := ⟨fun _ _ _ _ _ => (mFr_S mq36 h36_82).trans rfl,
  fun _ _ _ _ _ => F_goto 87 mq36 h36_83 (by decide)⟩
theorem E36_86 : (∀ (d : Nat) (loc : List (Option Value)) (st : List Value) (h : MH) (P : MP), mFr d 36 86 loc st h P = mFr d 36 87 loc (.int 0 :: st) h P) := fun _ _ _ _ _ => (mFr_S mq36 h36_86).trans rfl
theorem E36_87 : (∀ (d : Nat) (loc : List (Option Value)) (x : Int32) (h : MH) (P : MP), mFr d 36 87 loc [.int x] h P = P (some (.int x)) h) := fun _ _ _ _ _ => F_ret mq36 h36_87 rfl rfl
theorem E36_88 : (∀ (d : Nat) (l0 : Option Value) (l2 : Option Value) (x : Int32) (st : List Value) (h : MH) (P : MP), mFr d 36 88 [l0, some (.int x), l2] st h P = mFr d 36 89 [l0, some (.int x), l2] (.int x :: st) h P) ∧
  (∀ (d : Nat) (l0 : Option Value) (l1 : Option Value) (x : Int32) (st : List Value) (h : MH) (P : MP), mFr d 36 89 [l0, l1, some (.int x)] st h P = mFr d 36 90 [l0, l1, some (.int x)] (.int x :: st) h P) ∧
  (∀ (d : Nat) (loc : List (Option Value)) (x y : Int32) (st : List Value) (h : MH) (P : MP), mFr d 36 90 loc (.int y :: .int x :: st) h P = if x < y then mFr d 36 93 loc (st) h P else mFr d 36 97 loc (st) h P) := ⟨fun _ _ _ _ _ _ _ => (mFr_S mq36 h36_88).trans rfl,
  fun _ _ _ _ _ _ _ => (mFr_S mq36 h36_89).trans rfl,
  fun _ _ _ _ _ _ _ => (F_icmp 97 mq36 h36_90 (by decide)).trans mif_ge⟩
theorem E36_93 : (∀ (d : Nat) (loc : List (Option Value)) (st : List Value) (h : MH) (P : MP), mFr d 36 93 loc st h P = mFr d 36 94 loc (.int 1 :: st) h P) ∧
  (∀ (d : Nat) (loc : List (Option Value)) (st : List Value) (h : MH) (P : MP), mFr d 36 94 loc st h P = mFr d 36 98 loc (st) h P) := ⟨fun _ _ _ _ _ => (mFr_S mq36 h36_93).trans rfl,
  fun _ _ _ _ _ => F_goto 98 mq36 h36_94 (by decide)⟩
theorem E36_97 : (∀ (d : Nat) (loc : List (Option Value)) (st : List Value) (h : MH) (P : MP), mFr d 36 97 loc st h P = mFr d 36 98 loc (.int 0 :: st) h P) := fun _ _ _ _ _ => (mFr_S mq36 h36_97).trans rfl
theorem E36_98 : (∀ (d : Nat) (loc : List (Option Value)) (x : Int32) (h : MH) (P : MP), mFr d 36 98 loc [.int x] h P = P (some (.int x)) h) := fun _ _ _ _ _ => F_ret mq36 h36_98 rfl rfl
theorem E36_99 : (∀ (d : Nat) (l0 : Option Value) (l2 : Option Value) (x : Int32) (st : List Value) (h : MH) (P : MP), mFr d 36 99 [l0, some (.int x), l2] st h P = mFr d 36 100 [l0, some (.int x), l2] (.int x :: st) h P) ∧
  (∀ (d : Nat) (l0 : Option Value) (l1 : Option Value) (x : Int32) (st : List Value) (h : MH) (P : MP), mFr d 36 100 [l0, l1, some (.int x)] st h P = mFr d 36 101 [l0, l1, some (.int x)] (.int x :: st) h P) ∧
  (∀ (d : Nat) (loc : List (Option Value)) (x y : Int32) (st : List Value) (h : MH) (P : MP), mFr d 36 101 loc (.int y :: .int x :: st) h P = if x = y then mFr d 36 104 loc (st) h P else mFr d 36 108 loc (st) h P) := ⟨fun _ _ _ _ _ _ _ => (mFr_S mq36 h36_99).trans rfl,
  fun _ _ _ _ _ _ _ => (mFr_S mq36 h36_100).trans rfl,
  fun _ _ _ _ _ _ _ => (F_icmp 108 mq36 h36_101 (by decide)).trans mif_ne⟩
theorem E36_104 : (∀ (d : Nat) (loc : List (Option Value)) (st : List Value) (h : MH) (P : MP), mFr d 36 104 loc st h P = mFr d 36 105 loc (.int 1 :: st) h P) ∧
  (∀ (d : Nat) (loc : List (Option Value)) (st : List Value) (h : MH) (P : MP), mFr d 36 105 loc st h P = mFr d 36 109 loc (st) h P) := ⟨fun _ _ _ _ _ => (mFr_S mq36 h36_104).trans rfl,
  fun _ _ _ _ _ => F_goto 109 mq36 h36_105 (by decide)⟩
theorem E36_108 : (∀ (d : Nat) (loc : List (Option Value)) (st : List Value) (h : MH) (P : MP), mFr d 36 108 loc st h P = mFr d 36 109 loc (.int 0 :: st) h P) := fun _ _ _ _ _ => (mFr_S mq36 h36_108).trans rfl
theorem E36_109 : (∀ (d : Nat) (loc : List (Option Value)) (x : Int32) (h : MH) (P : MP), mFr d 36 109 loc [.int x] h P = P (some (.int x)) h) := fun _ _ _ _ _ => F_ret mq36 h36_109 rfl rfl
theorem E36_110 : (∀ (d : Nat) (l0 : Option Value) (l2 : Option Value) (x : Int32) (st : List Value) (h : MH) (P : MP), mFr d 36 110 [l0, some (.int x), l2] st h P = mFr d 36 111 [l0, some (.int x), l2] (.int x :: st) h P) ∧
  (∀ (d : Nat) (l0 : Option Value) (l1 : Option Value) (x : Int32) (st : List Value) (h : MH) (P : MP), mFr d 36 111 [l0, l1, some (.int x)] st h P = mFr d 36 112 [l0, l1, some (.int x)] (.int x :: st) h P) ∧
  (∀ (d : Nat) (loc : List (Option Value)) (x y : Int32) (st : List Value) (h : MH) (P : MP), mFr d 36 112 loc (.int y :: .int x :: st) h P = mFr d 36 113 loc (.int (x + y) :: st) h P) ∧
  (∀ (d : Nat) (loc : List (Option Value)) (x : Int32) (h : MH) (P : MP), mFr d 36 113 loc [.int x] h P = P (some (.int x)) h) := ⟨fun _ _ _ _ _ _ _ => (mFr_S mq36 h36_110).trans rfl,
  fun _ _ _ _ _ _ _ => (mFr_S mq36 h36_111).trans rfl,
  fun _ _ _ _ _ _ _ => (mFr_S mq36 h36_112).trans rfl,
  fun _ _ _ _ _ => F_ret mq36 h36_113 rfl rfl⟩
theorem E36_114 : (∀ (d : Nat) (l0 : Option Value) (l2 : Option Value) (x : Int32) (st : List Value) (h : MH) (P : MP), mFr d 36 114 [l0, some (.int x), l2] st h P = mFr d 36 115 [l0, some (.int x), l2] (.int x :: st) h P) ∧
  (∀ (d : Nat) (l0 : Option Value) (l1 : Option Value) (x : Int32) (st : List Value) (h : MH) (P : MP), mFr d 36 115 [l0, l1, some (.int x)] st h P = mFr d 36 116 [l0, l1, some (.int x)] (.int x :: st) h P) ∧
  (∀ (d : Nat) (loc : List (Option Value)) (x y : Int32) (st : List Value) (h : MH) (P : MP), mFr d 36 116 loc (.int y :: .int x :: st) h P = mFr d 36 117 loc (.int (x - y) :: st) h P) ∧
  (∀ (d : Nat) (loc : List (Option Value)) (x : Int32) (h : MH) (P : MP), mFr d 36 117 loc [.int x] h P = P (some (.int x)) h) := ⟨fun _ _ _ _ _ _ _ => (mFr_S mq36 h36_114).trans rfl,
  fun _ _ _ _ _ _ _ => (mFr_S mq36 h36_115).trans rfl,
  fun _ _ _ _ _ _ _ => (mFr_S mq36 h36_116).trans rfl,
  fun _ _ _ _ _ => F_ret mq36 h36_117 rfl rfl⟩
theorem E36_118 : (∀ (d : Nat) (l0 : Option Value) (l2 : Option Value) (x : Int32) (st : List Value) (h : MH) (P : MP), mFr d 36 118 [l0, some (.int x), l2] st h P = mFr d 36 119 [l0, some (.int x), l2] (.int x :: st) h P) ∧
  (∀ (d : Nat) (l0 : Option Value) (l1 : Option Value) (x : Int32) (st : List Value) (h : MH) (P : MP), mFr d 36 119 [l0, l1, some (.int x)] st h P = mFr d 36 120 [l0, l1, some (.int x)] (.int x :: st) h P) ∧
  (∀ (d : Nat) (loc : List (Option Value)) (x y : Int32) (st : List Value) (h : MH) (P : MP), mFr d 36 120 loc (.int y :: .int x :: st) h P = mFr d 36 121 loc (.int (x * y) :: st) h P) ∧
  (∀ (d : Nat) (loc : List (Option Value)) (x : Int32) (h : MH) (P : MP), mFr d 36 121 loc [.int x] h P = P (some (.int x)) h) := ⟨fun _ _ _ _ _ _ _ => (mFr_S mq36 h36_118).trans rfl,
  fun _ _ _ _ _ _ _ => (mFr_S mq36 h36_119).trans rfl,
  fun _ _ _ _ _ _ _ => (mFr_S mq36 h36_120).trans rfl,
  fun _ _ _ _ _ => F_ret mq36 h36_121 rfl rfl⟩
theorem B36 : ∀ (d : Nat) (a0 : Int32) (a1 : Int32) (a2 : Int32) (h : MH) (P : MP), mRun (d + 1) 36 [.int a0, .int a1, .int a2] h P = mFr d 36 0 [some (.int a0), some (.int a1), some (.int a2)] [] h P := fun _ _ _ _ _ _ => mRun_S mq36 (Nat.le_of_ble_eq_true rfl)
