/-! the instructions as equations: PuncturesAreViews$Road -/
-- 16: PuncturesAreViews$Road.<init>(LPuncturesAreViews$Text;)V
def q16 : MI := (yX2_init, cX2_init, 2, none, 2, 1)
theorem mq16 : mtab[16]? = some q16 := rfl
theorem h16_0 : mfetch q16.2.1 0 = some (.aload_n 0) := by decide +kernel
theorem h16_1 : mfetch q16.2.1 1 = some (.invokespecial 3) := by decide +kernel
theorem h16_4 : mfetch q16.2.1 4 = some (.aload_n 0) := by decide +kernel
theorem h16_5 : mfetch q16.2.1 5 = some (.bipush 24) := by decide +kernel
theorem h16_7 : mfetch q16.2.1 7 = some (.newarray .int) := by decide +kernel
theorem h16_9 : mfetch q16.2.1 9 = some (.putfield 9) := by decide +kernel
theorem h16_12 : mfetch q16.2.1 12 = some (.aload_n 0) := by decide +kernel
theorem h16_13 : mfetch q16.2.1 13 = some (.aload_n 1) := by decide +kernel
theorem h16_14 : mfetch q16.2.1 14 = some (.putfield 15) := by decide +kernel
theorem h16_17 : mfetch q16.2.1 17 = some (.return_) := by decide +kernel
theorem E16_0 : (∀ (d : Nat) (l1 : Option Value) (x : Nat) (st : List Value) (h : MH) (P : MP), mFr d 16 0 [some (.ref x), l1] st h P = mFr d 16 1 [some (.ref x), l1] (.ref x :: st) h P) ∧
  (∀ (d : Nat) (loc : List (Option Value)) (a : Nat) (h : MH) (P : MP), mFr d 16 1 loc [.ref a] h P = if a < 900 then mFr d 16 4 loc ([]) h P else False) ∧
  (∀ (d : Nat) (l1 : Option Value) (x : Nat) (st : List Value) (h : MH) (P : MP), mFr d 16 4 [some (.ref x), l1] st h P = mFr d 16 5 [some (.ref x), l1] (.ref x :: st) h P) ∧
  (∀ (d : Nat) (loc : List (Option Value)) (st : List Value) (h : MH) (P : MP), mFr d 16 5 loc st h P = mFr d 16 7 loc (.int 24 :: st) h P) ∧
  (∀ (d : Nat) (loc : List (Option Value)) (a : Nat) (x : Nat) (st : List Value) (h : MH) (P : MP), mFr d 16 9 loc (.ref x :: .ref a :: st) h P = pput h a 2 0 (.ref x) (fun h' => mFr d 16 12 loc (st) h' P)) ∧
  (∀ (d : Nat) (l1 : Option Value) (x : Nat) (st : List Value) (h : MH) (P : MP), mFr d 16 12 [some (.ref x), l1] st h P = mFr d 16 13 [some (.ref x), l1] (.ref x :: st) h P) ∧
  (∀ (d : Nat) (l0 : Option Value) (x : Nat) (st : List Value) (h : MH) (P : MP), mFr d 16 13 [l0, some (.ref x)] st h P = mFr d 16 14 [l0, some (.ref x)] (.ref x :: st) h P) ∧
  (∀ (d : Nat) (l0 : Option Value) (st : List Value) (h : MH) (P : MP), mFr d 16 13 [l0, some .null] st h P = mFr d 16 14 [l0, some .null] (.null :: st) h P) ∧
  (∀ (d : Nat) (loc : List (Option Value)) (a : Nat) (x : Nat) (st : List Value) (h : MH) (P : MP), mFr d 16 14 loc (.ref x :: .ref a :: st) h P = pput h a 2 2 (.ref x) (fun h' => mFr d 16 17 loc (st) h' P)) ∧
  (∀ (d : Nat) (loc : List (Option Value)) (h : MH) (P : MP), mFr d 16 17 loc [] h P = P none h) := ⟨fun _ _ _ _ _ _ => (mFr_S mq16 h16_0).trans rfl,
  fun _ _ _ _ _ => F_obj mq16 h16_1 (rfl : _ = some (3, 7, 0, 0)) (Nat.zero_le _),
  fun _ _ _ _ _ _ => (mFr_S mq16 h16_4).trans rfl,
  fun _ _ _ _ _ => (mFr_S mq16 h16_5).trans rfl,
  fun _ _ _ _ _ _ _ => F_put mq16 h16_9 (Or.inl ⟨(rfl : _ = some (9, 0, 2, 0)), Or.inr ⟨by decide, rfl⟩⟩),
  fun _ _ _ _ _ _ => (mFr_S mq16 h16_12).trans rfl,
  fun _ _ _ _ _ _ => (mFr_S mq16 h16_13).trans rfl,
  fun _ _ _ _ _ => (mFr_S mq16 h16_13).trans rfl,
  fun _ _ _ _ _ _ _ => F_put mq16 h16_14 (Or.inl ⟨(rfl : _ = some (15, 0, 2, 2)), Or.inl rfl⟩),
  fun _ _ _ _ => (mFr_S mq16 h16_17).trans rfl⟩
theorem B16 : ∀ (d : Nat) (b : Nat) (a0 : Nat) (h : MH) (P : MP), mRun (d + 1) 16 [.ref b, .ref a0] h P = mFr d 16 0 [some (.ref b), some (.ref a0)] [] h P := fun _ _ _ _ _ => mRun_S mq16 (Nat.le_of_ble_eq_true rfl)
-- 17: PuncturesAreViews$Road.thoughtAt(I)I
def q17 : MI := (yX2_thoughtAt, cX2_thoughtAt, 2, (some .int), 2, 1)
theorem mq17 : mtab[17]? = some q17 := rfl
theorem h17_0 : mfetch q17.2.1 0 = some (.iload_n 1) := by decide +kernel
theorem h17_1 : mfetch q17.2.1 1 = some (.ifCond .lt 21) := by decide +kernel
theorem h17_4 : mfetch q17.2.1 4 = some (.iload_n 1) := by decide +kernel
theorem h17_5 : mfetch q17.2.1 5 = some (.aload_n 0) := by decide +kernel
theorem h17_6 : mfetch q17.2.1 6 = some (.getfield 9) := by decide +kernel
theorem h17_9 : mfetch q17.2.1 9 = some (.arraylength) := by decide +kernel
theorem h17_10 : mfetch q17.2.1 10 = some (.if_icmp .ge 12) := by decide +kernel
theorem h17_13 : mfetch q17.2.1 13 = some (.aload_n 0) := by decide +kernel
theorem h17_14 : mfetch q17.2.1 14 = some (.getfield 9) := by decide +kernel
theorem h17_17 : mfetch q17.2.1 17 = some (.iload_n 1) := by decide +kernel
theorem h17_18 : mfetch q17.2.1 18 = some (.iaload) := by decide +kernel
theorem h17_19 : mfetch q17.2.1 19 = some (.goto 4) := by decide +kernel
theorem h17_22 : mfetch q17.2.1 22 = some (.iconst 0) := by decide +kernel
theorem h17_23 : mfetch q17.2.1 23 = some (.ireturn) := by decide +kernel
theorem E17_0 : (∀ (d : Nat) (l0 : Option Value) (x : Int32) (st : List Value) (h : MH) (P : MP), mFr d 17 0 [l0, some (.int x)] st h P = mFr d 17 1 [l0, some (.int x)] (.int x :: st) h P) ∧
  (∀ (d : Nat) (loc : List (Option Value)) (x : Int32) (st : List Value) (h : MH) (P : MP), mFr d 17 1 loc (.int x :: st) h P = if x < 0 then mFr d 17 22 loc (st) h P else mFr d 17 4 loc (st) h P) := ⟨fun _ _ _ _ _ _ => (mFr_S mq17 h17_0).trans rfl,
  fun _ _ _ _ _ _ => (F_ifz 22 mq17 h17_1 (by decide)).trans mif_lt⟩
theorem E17_4 : (∀ (d : Nat) (l0 : Option Value) (x : Int32) (st : List Value) (h : MH) (P : MP), mFr d 17 4 [l0, some (.int x)] st h P = mFr d 17 5 [l0, some (.int x)] (.int x :: st) h P) ∧
  (∀ (d : Nat) (l1 : Option Value) (x : Nat) (st : List Value) (h : MH) (P : MP), mFr d 17 5 [some (.ref x), l1] st h P = mFr d 17 6 [some (.ref x), l1] (.ref x :: st) h P) ∧
  (∀ (d : Nat) (loc : List (Option Value)) (a : Nat) (st : List Value) (h : MH) (P : MP), mFr d 17 6 loc (.ref a :: st) h P = pget h a 2 0 (fun v => mFr d 17 9 loc (v :: st) h P)) ∧
  (∀ (d : Nat) (loc : List (Option Value)) (a : Nat) (st : List Value) (h : MH) (P : MP), mFr d 17 9 loc (.ref a :: st) h P = palen h a (fun n => mFr d 17 10 loc (.int (Int32.ofNat n) :: st) h P)) ∧
  (∀ (d : Nat) (loc : List (Option Value)) (x y : Int32) (st : List Value) (h : MH) (P : MP), mFr d 17 10 loc (.int y :: .int x :: st) h P = if x < y then mFr d 17 13 loc (st) h P else mFr d 17 22 loc (st) h P) := ⟨fun _ _ _ _ _ _ => (mFr_S mq17 h17_4).trans rfl,
  fun _ _ _ _ _ _ => (mFr_S mq17 h17_5).trans rfl,
  fun _ _ _ _ _ _ => F_get mq17 h17_6 (Or.inl (rfl : _ = some (9, 0, 2, 0))),
  fun _ _ _ _ _ _ => F_alen mq17 h17_9,
  fun _ _ _ _ _ _ _ => (F_icmp 22 mq17 h17_10 (by decide)).trans mif_ge⟩
theorem E17_13 : (∀ (d : Nat) (l1 : Option Value) (x : Nat) (st : List Value) (h : MH) (P : MP), mFr d 17 13 [some (.ref x), l1] st h P = mFr d 17 14 [some (.ref x), l1] (.ref x :: st) h P) ∧
  (∀ (d : Nat) (loc : List (Option Value)) (a : Nat) (st : List Value) (h : MH) (P : MP), mFr d 17 14 loc (.ref a :: st) h P = pget h a 2 0 (fun v => mFr d 17 17 loc (v :: st) h P)) ∧
  (∀ (d : Nat) (l0 : Option Value) (x : Int32) (st : List Value) (h : MH) (P : MP), mFr d 17 17 [l0, some (.int x)] st h P = mFr d 17 18 [l0, some (.int x)] (.int x :: st) h P) ∧
  (∀ (d : Nat) (loc : List (Option Value)) (a : Nat) (i : Int32) (st : List Value) (h : MH) (P : MP), mFr d 17 18 loc (.int i :: .ref a :: st) h P = pial h a i (fun x => mFr d 17 19 loc (.int x :: st) h P)) ∧
  (∀ (d : Nat) (loc : List (Option Value)) (st : List Value) (h : MH) (P : MP), mFr d 17 19 loc st h P = mFr d 17 23 loc (st) h P) := ⟨fun _ _ _ _ _ _ => (mFr_S mq17 h17_13).trans rfl,
  fun _ _ _ _ _ _ => F_get mq17 h17_14 (Or.inl (rfl : _ = some (9, 0, 2, 0))),
  fun _ _ _ _ _ _ => (mFr_S mq17 h17_17).trans rfl,
  fun _ _ _ _ _ _ _ => F_iald mq17 h17_18,
  fun _ _ _ _ _ => F_goto 23 mq17 h17_19 (by decide)⟩
theorem E17_22 : (∀ (d : Nat) (loc : List (Option Value)) (st : List Value) (h : MH) (P : MP), mFr d 17 22 loc st h P = mFr d 17 23 loc (.int 0 :: st) h P) := fun _ _ _ _ _ => (mFr_S mq17 h17_22).trans rfl
theorem E17_23 : (∀ (d : Nat) (loc : List (Option Value)) (x : Int32) (h : MH) (P : MP), mFr d 17 23 loc [.int x] h P = P (some (.int x)) h) := fun _ _ _ _ _ => F_ret mq17 h17_23 rfl rfl
theorem B17 : ∀ (d : Nat) (b : Nat) (a0 : Int32) (h : MH) (P : MP), mRun (d + 1) 17 [.ref b, .int a0] h P = mFr d 17 0 [some (.ref b), some (.int a0)] [] h P := fun _ _ _ _ _ => mRun_S mq17 (Nat.le_of_ble_eq_true rfl)
-- 18: PuncturesAreViews$Road.bring(II)V
def q18 : MI := (yX2_bring, cX2_bring, 3, none, 2, 2)
theorem mq18 : mtab[18]? = some q18 := rfl
theorem h18_0 : mfetch q18.2.1 0 = some (.iload_n 1) := by decide +kernel
theorem h18_1 : mfetch q18.2.1 1 = some (.ifCond .lt 19) := by decide +kernel
theorem h18_4 : mfetch q18.2.1 4 = some (.iload_n 1) := by decide +kernel
theorem h18_5 : mfetch q18.2.1 5 = some (.aload_n 0) := by decide +kernel
theorem h18_6 : mfetch q18.2.1 6 = some (.getfield 9) := by decide +kernel
theorem h18_9 : mfetch q18.2.1 9 = some (.arraylength) := by decide +kernel
theorem h18_10 : mfetch q18.2.1 10 = some (.if_icmp .ge 10) := by decide +kernel
theorem h18_13 : mfetch q18.2.1 13 = some (.aload_n 0) := by decide +kernel
theorem h18_14 : mfetch q18.2.1 14 = some (.getfield 9) := by decide +kernel
theorem h18_17 : mfetch q18.2.1 17 = some (.iload_n 1) := by decide +kernel
theorem h18_18 : mfetch q18.2.1 18 = some (.iload_n 2) := by decide +kernel
theorem h18_19 : mfetch q18.2.1 19 = some (.iastore) := by decide +kernel
theorem h18_20 : mfetch q18.2.1 20 = some (.return_) := by decide +kernel
theorem E18_0 : (∀ (d : Nat) (l0 : Option Value) (l2 : Option Value) (x : Int32) (st : List Value) (h : MH) (P : MP), mFr d 18 0 [l0, some (.int x), l2] st h P = mFr d 18 1 [l0, some (.int x), l2] (.int x :: st) h P) ∧
  (∀ (d : Nat) (loc : List (Option Value)) (x : Int32) (st : List Value) (h : MH) (P : MP), mFr d 18 1 loc (.int x :: st) h P = if x < 0 then mFr d 18 20 loc (st) h P else mFr d 18 4 loc (st) h P) := ⟨fun _ _ _ _ _ _ _ => (mFr_S mq18 h18_0).trans rfl,
  fun _ _ _ _ _ _ => (F_ifz 20 mq18 h18_1 (by decide)).trans mif_lt⟩
theorem E18_4 : (∀ (d : Nat) (l0 : Option Value) (l2 : Option Value) (x : Int32) (st : List Value) (h : MH) (P : MP), mFr d 18 4 [l0, some (.int x), l2] st h P = mFr d 18 5 [l0, some (.int x), l2] (.int x :: st) h P) ∧
  (∀ (d : Nat) (l1 : Option Value) (l2 : Option Value) (x : Nat) (st : List Value) (h : MH) (P : MP), mFr d 18 5 [some (.ref x), l1, l2] st h P = mFr d 18 6 [some (.ref x), l1, l2] (.ref x :: st) h P) ∧
  (∀ (d : Nat) (loc : List (Option Value)) (a : Nat) (st : List Value) (h : MH) (P : MP), mFr d 18 6 loc (.ref a :: st) h P = pget h a 2 0 (fun v => mFr d 18 9 loc (v :: st) h P)) ∧
  (∀ (d : Nat) (loc : List (Option Value)) (a : Nat) (st : List Value) (h : MH) (P : MP), mFr d 18 9 loc (.ref a :: st) h P = palen h a (fun n => mFr d 18 10 loc (.int (Int32.ofNat n) :: st) h P)) ∧
  (∀ (d : Nat) (loc : List (Option Value)) (x y : Int32) (st : List Value) (h : MH) (P : MP), mFr d 18 10 loc (.int y :: .int x :: st) h P = if x < y then mFr d 18 13 loc (st) h P else mFr d 18 20 loc (st) h P) := ⟨fun _ _ _ _ _ _ _ => (mFr_S mq18 h18_4).trans rfl,
  fun _ _ _ _ _ _ _ => (mFr_S mq18 h18_5).trans rfl,
  fun _ _ _ _ _ _ => F_get mq18 h18_6 (Or.inl (rfl : _ = some (9, 0, 2, 0))),
  fun _ _ _ _ _ _ => F_alen mq18 h18_9,
  fun _ _ _ _ _ _ _ => (F_icmp 20 mq18 h18_10 (by decide)).trans mif_ge⟩
theorem E18_13 : (∀ (d : Nat) (l1 : Option Value) (l2 : Option Value) (x : Nat) (st : List Value) (h : MH) (P : MP), mFr d 18 13 [some (.ref x), l1, l2] st h P = mFr d 18 14 [some (.ref x), l1, l2] (.ref x :: st) h P) ∧
  (∀ (d : Nat) (loc : List (Option Value)) (a : Nat) (st : List Value) (h : MH) (P : MP), mFr d 18 14 loc (.ref a :: st) h P = pget h a 2 0 (fun v => mFr d 18 17 loc (v :: st) h P)) ∧
  (∀ (d : Nat) (l0 : Option Value) (l2 : Option Value) (x : Int32) (st : List Value) (h : MH) (P : MP), mFr d 18 17 [l0, some (.int x), l2] st h P = mFr d 18 18 [l0, some (.int x), l2] (.int x :: st) h P) ∧
  (∀ (d : Nat) (l0 : Option Value) (l1 : Option Value) (x : Int32) (st : List Value) (h : MH) (P : MP), mFr d 18 18 [l0, l1, some (.int x)] st h P = mFr d 18 19 [l0, l1, some (.int x)] (.int x :: st) h P) ∧
  (∀ (d : Nat) (loc : List (Option Value)) (a : Nat) (i x : Int32) (st : List Value) (h : MH) (P : MP), mFr d 18 19 loc (.int x :: .int i :: .ref a :: st) h P = pias h a i x (fun h' => mFr d 18 20 loc (st) h' P)) := ⟨fun _ _ _ _ _ _ _ => (mFr_S mq18 h18_13).trans rfl,
  fun _ _ _ _ _ _ => F_get mq18 h18_14 (Or.inl (rfl : _ = some (9, 0, 2, 0))),
  fun _ _ _ _ _ _ _ => (mFr_S mq18 h18_17).trans rfl,
  fun _ _ _ _ _ _ _ => (mFr_S mq18 h18_18).trans rfl,
  fun _ _ _ _ _ _ _ _ => F_iast mq18 h18_19⟩
theorem E18_20 : (∀ (d : Nat) (loc : List (Option Value)) (h : MH) (P : MP), mFr d 18 20 loc [] h P = P none h) := fun _ _ _ _ => (mFr_S mq18 h18_20).trans rfl
theorem B18 : ∀ (d : Nat) (b : Nat) (a0 : Int32) (a1 : Int32) (h : MH) (P : MP), mRun (d + 1) 18 [.ref b, .int a0, .int a1] h P = mFr d 18 0 [some (.ref b), some (.int a0), some (.int a1)] [] h P := fun _ _ _ _ _ _ => mRun_S mq18 (Nat.le_of_ble_eq_true rfl)
-- 19: PuncturesAreViews$Road.draw(I)V loops at [4]
def q19 : MI := (yX2_draw, cX2_draw, 4, none, 2, 1)
theorem mq19 : mtab[19]? = some q19 := rfl
theorem h19_0 : mfetch q19.2.1 0 = some (.iload_n 1) := by decide +kernel
theorem h19_1 : mfetch q19.2.1 1 = some (.istore_n 2) := by decide +kernel
theorem h19_2 : mfetch q19.2.1 2 = some (.iconst 0) := by decide +kernel
theorem h19_3 : mfetch q19.2.1 3 = some (.istore_n 3) := by decide +kernel
theorem h19_4 : mfetch q19.2.1 4 = some (.iload_n 3) := by decide +kernel
theorem h19_5 : mfetch q19.2.1 5 = some (.aload_n 0) := by decide +kernel
theorem h19_6 : mfetch q19.2.1 6 = some (.getfield 9) := by decide +kernel
theorem h19_9 : mfetch q19.2.1 9 = some (.arraylength) := by decide +kernel
theorem h19_10 : mfetch q19.2.1 10 = some (.if_icmp .ge 31) := by decide +kernel
theorem h19_13 : mfetch q19.2.1 13 = some (.iload_n 2) := by decide +kernel
theorem h19_14 : mfetch q19.2.1 14 = some (.ldc 19) := by decide +kernel
theorem h19_16 : mfetch q19.2.1 16 = some (.imul) := by decide +kernel
theorem h19_17 : mfetch q19.2.1 17 = some (.sipush 12345) := by decide +kernel
theorem h19_20 : mfetch q19.2.1 20 = some (.iadd) := by decide +kernel
theorem h19_21 : mfetch q19.2.1 21 = some (.istore_n 2) := by decide +kernel
theorem h19_22 : mfetch q19.2.1 22 = some (.aload_n 0) := by decide +kernel
theorem h19_23 : mfetch q19.2.1 23 = some (.getfield 9) := by decide +kernel
theorem h19_26 : mfetch q19.2.1 26 = some (.iload_n 3) := by decide +kernel
theorem h19_27 : mfetch q19.2.1 27 = some (.iload_n 2) := by decide +kernel
theorem h19_28 : mfetch q19.2.1 28 = some (.bipush 9) := by decide +kernel
theorem h19_30 : mfetch q19.2.1 30 = some (.iushr) := by decide +kernel
theorem h19_31 : mfetch q19.2.1 31 = some (.bipush 10) := by decide +kernel
theorem h19_33 : mfetch q19.2.1 33 = some (.irem) := by decide +kernel
theorem h19_34 : mfetch q19.2.1 34 = some (.iastore) := by decide +kernel
theorem h19_35 : mfetch q19.2.1 35 = some (.iinc 3 1) := by decide +kernel
theorem h19_38 : mfetch q19.2.1 38 = some (.goto (-34)) := by decide +kernel
theorem h19_41 : mfetch q19.2.1 41 = some (.return_) := by decide +kernel
theorem E19_0 : (∀ (d : Nat) (l0 : Option Value) (l2 : Option Value) (l3 : Option Value) (x : Int32) (st : List Value) (h : MH) (P : MP), mFr d 19 0 [l0, some (.int x), l2, l3] st h P = mFr d 19 1 [l0, some (.int x), l2, l3] (.int x :: st) h P) ∧
  (∀ (d : Nat) (l0 : Option Value) (l1 : Option Value) (l2 : Option Value) (l3 : Option Value) (x : Int32) (st : List Value) (h : MH) (P : MP), mnl l1 = true → mFr d 19 1 [l0, l1, l2, l3] (.int x :: st) h P = mFr d 19 2 [l0, l1, some (.int x), l3] (st) h P) ∧
  (∀ (d : Nat) (loc : List (Option Value)) (st : List Value) (h : MH) (P : MP), mFr d 19 2 loc st h P = mFr d 19 3 loc (.int 0 :: st) h P) ∧
  (∀ (d : Nat) (l0 : Option Value) (l1 : Option Value) (l2 : Option Value) (l3 : Option Value) (x : Int32) (st : List Value) (h : MH) (P : MP), mnl l2 = true → mFr d 19 3 [l0, l1, l2, l3] (.int x :: st) h P = mFr d 19 4 [l0, l1, l2, some (.int x)] (st) h P) := ⟨fun _ _ _ _ _ _ _ _ => (mFr_S mq19 h19_0).trans rfl,
  fun _ _ _ _ _ _ _ _ _ hm => (mFr_S mq19 h19_1).trans (by simp only [mgo.eq_1, mstep, mi1, ml1, mast, mst, mst2, mprev, List.length_cons, List.length_nil, List.getElem?_cons_succ, List.getElem?_cons_zero, hm]; rfl),
  fun _ _ _ _ _ => (mFr_S mq19 h19_2).trans rfl,
  fun _ _ _ _ _ _ _ _ _ hm => (mFr_S mq19 h19_3).trans (by simp only [mgo.eq_1, mstep, mi1, ml1, mast, mst, mst2, mprev, List.length_cons, List.length_nil, List.getElem?_cons_succ, List.getElem?_cons_zero, hm]; rfl)⟩
theorem E19_4 : (∀ (d : Nat) (l0 : Option Value) (l1 : Option Value) (l2 : Option Value) (x : Int32) (st : List Value) (h : MH) (P : MP), mFr d 19 4 [l0, l1, l2, some (.int x)] st h P = mFr d 19 5 [l0, l1, l2, some (.int x)] (.int x :: st) h P) ∧
  (∀ (d : Nat) (l1 : Option Value) (l2 : Option Value) (l3 : Option Value) (x : Nat) (st : List Value) (h : MH) (P : MP), mFr d 19 5 [some (.ref x), l1, l2, l3] st h P = mFr d 19 6 [some (.ref x), l1, l2, l3] (.ref x :: st) h P) ∧
  (∀ (d : Nat) (loc : List (Option Value)) (a : Nat) (st : List Value) (h : MH) (P : MP), mFr d 19 6 loc (.ref a :: st) h P = pget h a 2 0 (fun v => mFr d 19 9 loc (v :: st) h P)) ∧
  (∀ (d : Nat) (loc : List (Option Value)) (a : Nat) (st : List Value) (h : MH) (P : MP), mFr d 19 9 loc (.ref a :: st) h P = palen h a (fun n => mFr d 19 10 loc (.int (Int32.ofNat n) :: st) h P)) ∧
  (∀ (d : Nat) (loc : List (Option Value)) (x y : Int32) (st : List Value) (h : MH) (P : MP), mFr d 19 10 loc (.int y :: .int x :: st) h P = if x < y then mFr d 19 13 loc (st) h P else mFr d 19 41 loc (st) h P) := ⟨fun _ _ _ _ _ _ _ _ => (mFr_S mq19 h19_4).trans rfl,
  fun _ _ _ _ _ _ _ _ => (mFr_S mq19 h19_5).trans rfl,
  fun _ _ _ _ _ _ => F_get mq19 h19_6 (Or.inl (rfl : _ = some (9, 0, 2, 0))),
  fun _ _ _ _ _ _ => F_alen mq19 h19_9,
  fun _ _ _ _ _ _ _ => (F_icmp 41 mq19 h19_10 (by decide)).trans mif_ge⟩
theorem E19_13 : (∀ (d : Nat) (l0 : Option Value) (l1 : Option Value) (l3 : Option Value) (x : Int32) (st : List Value) (h : MH) (P : MP), mFr d 19 13 [l0, l1, some (.int x), l3] st h P = mFr d 19 14 [l0, l1, some (.int x), l3] (.int x :: st) h P) ∧
  (∀ (d : Nat) (loc : List (Option Value)) (st : List Value) (h : MH) (P : MP), mFr d 19 14 loc st h P = mFr d 19 16 loc (.int 1103515245 :: st) h P) ∧
  (∀ (d : Nat) (loc : List (Option Value)) (x y : Int32) (st : List Value) (h : MH) (P : MP), mFr d 19 16 loc (.int y :: .int x :: st) h P = mFr d 19 17 loc (.int (x * y) :: st) h P) ∧
  (∀ (d : Nat) (loc : List (Option Value)) (st : List Value) (h : MH) (P : MP), mFr d 19 17 loc st h P = mFr d 19 20 loc (.int 12345 :: st) h P) ∧
  (∀ (d : Nat) (loc : List (Option Value)) (x y : Int32) (st : List Value) (h : MH) (P : MP), mFr d 19 20 loc (.int y :: .int x :: st) h P = mFr d 19 21 loc (.int (x + y) :: st) h P) ∧
  (∀ (d : Nat) (l0 : Option Value) (l1 : Option Value) (l2 : Option Value) (l3 : Option Value) (x : Int32) (st : List Value) (h : MH) (P : MP), mnl l1 = true → mFr d 19 21 [l0, l1, l2, l3] (.int x :: st) h P = mFr d 19 22 [l0, l1, some (.int x), l3] (st) h P) ∧
  (∀ (d : Nat) (l1 : Option Value) (l2 : Option Value) (l3 : Option Value) (x : Nat) (st : List Value) (h : MH) (P : MP), mFr d 19 22 [some (.ref x), l1, l2, l3] st h P = mFr d 19 23 [some (.ref x), l1, l2, l3] (.ref x :: st) h P) ∧
  (∀ (d : Nat) (loc : List (Option Value)) (a : Nat) (st : List Value) (h : MH) (P : MP), mFr d 19 23 loc (.ref a :: st) h P = pget h a 2 0 (fun v => mFr d 19 26 loc (v :: st) h P)) ∧
  (∀ (d : Nat) (l0 : Option Value) (l1 : Option Value) (l2 : Option Value) (x : Int32) (st : List Value) (h : MH) (P : MP), mFr d 19 26 [l0, l1, l2, some (.int x)] st h P = mFr d 19 27 [l0, l1, l2, some (.int x)] (.int x :: st) h P) ∧
  (∀ (d : Nat) (l0 : Option Value) (l1 : Option Value) (l3 : Option Value) (x : Int32) (st : List Value) (h : MH) (P : MP), mFr d 19 27 [l0, l1, some (.int x), l3] st h P = mFr d 19 28 [l0, l1, some (.int x), l3] (.int x :: st) h P) ∧
  (∀ (d : Nat) (loc : List (Option Value)) (st : List Value) (h : MH) (P : MP), mFr d 19 28 loc st h P = mFr d 19 30 loc (.int 9 :: st) h P) ∧
  (∀ (d : Nat) (loc : List (Option Value)) (x y : Int32) (st : List Value) (h : MH) (P : MP), mFr d 19 30 loc (.int y :: .int x :: st) h P = mFr d 19 31 loc (.int ((x.toUInt32 >>> (y.toUInt32 &&& Int32.toUInt32 31)).toInt32) :: st) h P) ∧
  (∀ (d : Nat) (loc : List (Option Value)) (st : List Value) (h : MH) (P : MP), mFr d 19 31 loc st h P = mFr d 19 33 loc (.int 10 :: st) h P) ∧
  (∀ (d : Nat) (loc : List (Option Value)) (x y : Int32) (st : List Value) (h : MH) (P : MP), mFr d 19 33 loc (.int y :: .int x :: st) h P = if y = 0 then False else mFr d 19 34 loc (.int (x - x / y * y) :: st) h P) ∧
  (∀ (d : Nat) (loc : List (Option Value)) (a : Nat) (i x : Int32) (st : List Value) (h : MH) (P : MP), mFr d 19 34 loc (.int x :: .int i :: .ref a :: st) h P = pias h a i x (fun h' => mFr d 19 35 loc (st) h' P)) ∧
  (∀ (d : Nat) (l0 : Option Value) (l1 : Option Value) (l2 : Option Value) (x : Int32) (st : List Value) (h : MH) (P : MP), mnl l2 = true → mFr d 19 35 [l0, l1, l2, some (.int x)] st h P = mFr d 19 38 [l0, l1, l2, some (.int (x + 1))] (st) h P) ∧
  (∀ (d : Nat) (loc : List (Option Value)) (st : List Value) (h : MH) (P : MP), mFr d 19 38 loc st h P = mFr d 19 4 loc (st) h P) := ⟨fun _ _ _ _ _ _ _ _ => (mFr_S mq19 h19_13).trans rfl,
  fun _ _ _ _ _ => (mFr_S mq19 h19_14).trans rfl,
  fun _ _ _ _ _ _ _ => (mFr_S mq19 h19_16).trans rfl,
  fun _ _ _ _ _ => (mFr_S mq19 h19_17).trans rfl,
  fun _ _ _ _ _ _ _ => (mFr_S mq19 h19_20).trans rfl,
  fun _ _ _ _ _ _ _ _ _ hm => (mFr_S mq19 h19_21).trans (by simp only [mgo.eq_1, mstep, mi1, ml1, mast, mst, mst2, mprev, List.length_cons, List.length_nil, List.getElem?_cons_succ, List.getElem?_cons_zero, hm]; rfl),
  fun _ _ _ _ _ _ _ _ => (mFr_S mq19 h19_22).trans rfl,
  fun _ _ _ _ _ _ => F_get mq19 h19_23 (Or.inl (rfl : _ = some (9, 0, 2, 0))),
  fun _ _ _ _ _ _ _ _ => (mFr_S mq19 h19_26).trans rfl,
  fun _ _ _ _ _ _ _ _ => (mFr_S mq19 h19_27).trans rfl,
  fun _ _ _ _ _ => (mFr_S mq19 h19_28).trans rfl,
  fun _ _ _ _ _ _ _ => (mFr_S mq19 h19_30).trans rfl,
  fun _ _ _ _ _ => (mFr_S mq19 h19_31).trans rfl,
  fun _ _ _ _ _ _ _ => F_rem mq19 h19_33,
  fun _ _ _ _ _ _ _ _ => F_iast mq19 h19_34,
  fun _ _ _ _ _ _ _ _ hm => (mFr_S mq19 h19_35).trans (by simp only [mgo.eq_1, mstep, mld, mst, mprev, List.length_cons, List.length_nil, List.getElem?_cons_succ, List.getElem?_cons_zero, hm]; rfl),
  fun _ _ _ _ _ => F_goto 4 mq19 h19_38 (by decide)⟩
theorem E19_41 : (∀ (d : Nat) (loc : List (Option Value)) (h : MH) (P : MP), mFr d 19 41 loc [] h P = P none h) := fun _ _ _ _ => (mFr_S mq19 h19_41).trans rfl
theorem B19 : ∀ (d : Nat) (b : Nat) (a0 : Int32) (h : MH) (P : MP), mRun (d + 1) 19 [.ref b, .int a0] h P = mFr d 19 0 [some (.ref b), some (.int a0), none, none] [] h P := fun _ _ _ _ _ => mRun_S mq19 (Nat.le_of_ble_eq_true rfl)
-- 20: PuncturesAreViews$Road.become(LPuncturesAreViews$Road;)V
def q20 : MI := (yX2_become, cX2_become, 2, none, 2, 1)
theorem mq20 : mtab[20]? = some q20 := rfl
theorem h20_0 : mfetch q20.2.1 0 = some (.aload_n 1) := by decide +kernel
theorem h20_1 : mfetch q20.2.1 1 = some (.getfield 9) := by decide +kernel
theorem h20_4 : mfetch q20.2.1 4 = some (.iconst 0) := by decide +kernel
theorem h20_5 : mfetch q20.2.1 5 = some (.aload_n 0) := by decide +kernel
theorem h20_6 : mfetch q20.2.1 6 = some (.getfield 9) := by decide +kernel
theorem h20_9 : mfetch q20.2.1 9 = some (.iconst 0) := by decide +kernel
theorem h20_10 : mfetch q20.2.1 10 = some (.bipush 24) := by decide +kernel
theorem h20_12 : mfetch q20.2.1 12 = some (.invokestatic 20) := by decide +kernel
theorem h20_15 : mfetch q20.2.1 15 = some (.aload_n 0) := by decide +kernel
theorem h20_16 : mfetch q20.2.1 16 = some (.aload_n 1) := by decide +kernel
theorem h20_17 : mfetch q20.2.1 17 = some (.getfield 26) := by decide +kernel
theorem h20_20 : mfetch q20.2.1 20 = some (.putfield 26) := by decide +kernel
theorem h20_23 : mfetch q20.2.1 23 = some (.aload_n 0) := by decide +kernel
theorem h20_24 : mfetch q20.2.1 24 = some (.aload_n 1) := by decide +kernel
theorem h20_25 : mfetch q20.2.1 25 = some (.getfield 15) := by decide +kernel
theorem h20_28 : mfetch q20.2.1 28 = some (.putfield 15) := by decide +kernel
theorem h20_31 : mfetch q20.2.1 31 = some (.return_) := by decide +kernel
theorem E20_0 : (∀ (d : Nat) (l0 : Option Value) (x : Nat) (st : List Value) (h : MH) (P : MP), mFr d 20 0 [l0, some (.ref x)] st h P = mFr d 20 1 [l0, some (.ref x)] (.ref x :: st) h P) ∧
  (∀ (d : Nat) (l0 : Option Value) (st : List Value) (h : MH) (P : MP), mFr d 20 0 [l0, some .null] st h P = mFr d 20 1 [l0, some .null] (.null :: st) h P) ∧
  (∀ (d : Nat) (loc : List (Option Value)) (a : Nat) (st : List Value) (h : MH) (P : MP), mFr d 20 1 loc (.ref a :: st) h P = pget h a 2 0 (fun v => mFr d 20 4 loc (v :: st) h P)) ∧
  (∀ (d : Nat) (loc : List (Option Value)) (st : List Value) (h : MH) (P : MP), mFr d 20 4 loc st h P = mFr d 20 5 loc (.int 0 :: st) h P) ∧
  (∀ (d : Nat) (l1 : Option Value) (x : Nat) (st : List Value) (h : MH) (P : MP), mFr d 20 5 [some (.ref x), l1] st h P = mFr d 20 6 [some (.ref x), l1] (.ref x :: st) h P) ∧
  (∀ (d : Nat) (loc : List (Option Value)) (a : Nat) (st : List Value) (h : MH) (P : MP), mFr d 20 6 loc (.ref a :: st) h P = pget h a 2 0 (fun v => mFr d 20 9 loc (v :: st) h P)) ∧
  (∀ (d : Nat) (loc : List (Option Value)) (st : List Value) (h : MH) (P : MP), mFr d 20 9 loc st h P = mFr d 20 10 loc (.int 0 :: st) h P) ∧
  (∀ (d : Nat) (loc : List (Option Value)) (st : List Value) (h : MH) (P : MP), mFr d 20 10 loc st h P = mFr d 20 12 loc (.int 24 :: st) h P) ∧
  (∀ (d : Nat) (loc : List (Option Value)) (a b : Nat) (sp dp n : Int32) (h : MH) (P : MP), mFr d 20 12 loc [.int n, .int dp, .ref b, .int sp, .ref a] h P = pcopy h a sp b dp n (fun h' => mFr d 20 15 loc ([]) h' P)) ∧
  (∀ (d : Nat) (l1 : Option Value) (x : Nat) (st : List Value) (h : MH) (P : MP), mFr d 20 15 [some (.ref x), l1] st h P = mFr d 20 16 [some (.ref x), l1] (.ref x :: st) h P) ∧
  (∀ (d : Nat) (l0 : Option Value) (x : Nat) (st : List Value) (h : MH) (P : MP), mFr d 20 16 [l0, some (.ref x)] st h P = mFr d 20 17 [l0, some (.ref x)] (.ref x :: st) h P) ∧
  (∀ (d : Nat) (l0 : Option Value) (st : List Value) (h : MH) (P : MP), mFr d 20 16 [l0, some .null] st h P = mFr d 20 17 [l0, some .null] (.null :: st) h P) ∧
  (∀ (d : Nat) (loc : List (Option Value)) (a : Nat) (st : List Value) (h : MH) (P : MP), mFr d 20 17 loc (.ref a :: st) h P = pget h a 2 1 (fun v => mFr d 20 20 loc (v :: st) h P)) ∧
  (∀ (d : Nat) (loc : List (Option Value)) (a : Nat) (x : Int32) (st : List Value) (h : MH) (P : MP), mFr d 20 20 loc (.int x :: .ref a :: st) h P = pput h a 2 1 (.int x) (fun h' => mFr d 20 23 loc (st) h' P)) ∧
  (∀ (d : Nat) (l1 : Option Value) (x : Nat) (st : List Value) (h : MH) (P : MP), mFr d 20 23 [some (.ref x), l1] st h P = mFr d 20 24 [some (.ref x), l1] (.ref x :: st) h P) ∧
  (∀ (d : Nat) (l0 : Option Value) (x : Nat) (st : List Value) (h : MH) (P : MP), mFr d 20 24 [l0, some (.ref x)] st h P = mFr d 20 25 [l0, some (.ref x)] (.ref x :: st) h P) ∧
  (∀ (d : Nat) (l0 : Option Value) (st : List Value) (h : MH) (P : MP), mFr d 20 24 [l0, some .null] st h P = mFr d 20 25 [l0, some .null] (.null :: st) h P) ∧
  (∀ (d : Nat) (loc : List (Option Value)) (a : Nat) (st : List Value) (h : MH) (P : MP), mFr d 20 25 loc (.ref a :: st) h P = pget h a 2 2 (fun v => mFr d 20 28 loc (v :: st) h P)) ∧
  (∀ (d : Nat) (loc : List (Option Value)) (a : Nat) (x : Nat) (st : List Value) (h : MH) (P : MP), mFr d 20 28 loc (.ref x :: .ref a :: st) h P = pput h a 2 2 (.ref x) (fun h' => mFr d 20 31 loc (st) h' P)) ∧
  (∀ (d : Nat) (loc : List (Option Value)) (h : MH) (P : MP), mFr d 20 31 loc [] h P = P none h) := ⟨fun _ _ _ _ _ _ => (mFr_S mq20 h20_0).trans rfl,
  fun _ _ _ _ _ => (mFr_S mq20 h20_0).trans rfl,
  fun _ _ _ _ _ _ => F_get mq20 h20_1 (Or.inl (rfl : _ = some (9, 0, 2, 0))),
  fun _ _ _ _ _ => (mFr_S mq20 h20_4).trans rfl,
  fun _ _ _ _ _ _ => (mFr_S mq20 h20_5).trans rfl,
  fun _ _ _ _ _ _ => F_get mq20 h20_6 (Or.inl (rfl : _ = some (9, 0, 2, 0))),
  fun _ _ _ _ _ => (mFr_S mq20 h20_9).trans rfl,
  fun _ _ _ _ _ => (mFr_S mq20 h20_10).trans rfl,
  fun _ _ _ _ _ _ _ _ _ => F_copy mq20 h20_12 (rfl : _ = some (20, 8, 0, 0)) (Nat.zero_le _),
  fun _ _ _ _ _ _ => (mFr_S mq20 h20_15).trans rfl,
  fun _ _ _ _ _ _ => (mFr_S mq20 h20_16).trans rfl,
  fun _ _ _ _ _ => (mFr_S mq20 h20_16).trans rfl,
  fun _ _ _ _ _ _ => F_get mq20 h20_17 (Or.inl (rfl : _ = some (26, 0, 2, 1))),
  fun _ _ _ _ _ _ _ => F_put mq20 h20_20 (Or.inl ⟨(rfl : _ = some (26, 0, 2, 1)), Or.inl rfl⟩),
  fun _ _ _ _ _ _ => (mFr_S mq20 h20_23).trans rfl,
  fun _ _ _ _ _ _ => (mFr_S mq20 h20_24).trans rfl,
  fun _ _ _ _ _ => (mFr_S mq20 h20_24).trans rfl,
  fun _ _ _ _ _ _ => F_get mq20 h20_25 (Or.inl (rfl : _ = some (15, 0, 2, 2))),
  fun _ _ _ _ _ _ _ => F_put mq20 h20_28 (Or.inl ⟨(rfl : _ = some (15, 0, 2, 2)), Or.inl rfl⟩),
  fun _ _ _ _ => (mFr_S mq20 h20_31).trans rfl⟩
theorem B20 : ∀ (d : Nat) (b : Nat) (a0 : Nat) (h : MH) (P : MP), mRun (d + 1) 20 [.ref b, .ref a0] h P = mFr d 20 0 [some (.ref b), some (.ref a0)] [] h P := fun _ _ _ _ _ => mRun_S mq20 (Nat.le_of_ble_eq_true rfl)
