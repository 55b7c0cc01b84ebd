/-! the instructions as equations: PuncturesAreViews$Tokens -/
-- 48: PuncturesAreViews$Tokens.<init>(LPuncturesAreViews$Tape;)V
def q48 : MI := (yX7_init, cX7_init, 2, none, 7, 1)
theorem mq48 : mtab[48]? = some q48 := rfl
theorem h48_0 : mfetch q48.2.1 0 = some (.aload_n 0) := by decide +kernel
theorem h48_1 : mfetch q48.2.1 1 = some (.invokespecial 3) := by decide +kernel
theorem h48_4 : mfetch q48.2.1 4 = some (.aload_n 0) := by decide +kernel
theorem h48_5 : mfetch q48.2.1 5 = some (.sipush 160) := by decide +kernel
theorem h48_8 : mfetch q48.2.1 8 = some (.newarray .int) := by decide +kernel
theorem h48_10 : mfetch q48.2.1 10 = some (.putfield 9) := by decide +kernel
theorem h48_13 : mfetch q48.2.1 13 = some (.aload_n 0) := by decide +kernel
theorem h48_14 : mfetch q48.2.1 14 = some (.sipush 160) := by decide +kernel
theorem h48_17 : mfetch q48.2.1 17 = some (.newarray .int) := by decide +kernel
theorem h48_19 : mfetch q48.2.1 19 = some (.putfield 15) := by decide +kernel
theorem h48_22 : mfetch q48.2.1 22 = some (.aload_n 0) := by decide +kernel
theorem h48_23 : mfetch q48.2.1 23 = some (.aload_n 1) := by decide +kernel
theorem h48_24 : mfetch q48.2.1 24 = some (.putfield 18) := by decide +kernel
theorem h48_27 : mfetch q48.2.1 27 = some (.return_) := by decide +kernel
theorem E48_0 : (∀ (d : Nat) (l1 : Option Value) (x : Nat) (st : List Value) (h : MH) (P : MP), mFr d 48 0 [some (.ref x), l1] st h P = mFr d 48 1 [some (.ref x), l1] (.ref x :: st) h P) ∧
  (∀ (d : Nat) (loc : List (Option Value)) (a : Nat) (h : MH) (P : MP), mFr d 48 1 loc [.ref a] h P = if a < 900 then mFr d 48 4 loc ([]) h P else False) ∧
  (∀ (d : Nat) (l1 : Option Value) (x : Nat) (st : List Value) (h : MH) (P : MP), mFr d 48 4 [some (.ref x), l1] st h P = mFr d 48 5 [some (.ref x), l1] (.ref x :: st) h P) ∧
  (∀ (d : Nat) (loc : List (Option Value)) (st : List Value) (h : MH) (P : MP), mFr d 48 5 loc st h P = mFr d 48 8 loc (.int 160 :: st) h P) ∧
  (∀ (d : Nat) (loc : List (Option Value)) (a : Nat) (x : Nat) (st : List Value) (h : MH) (P : MP), mFr d 48 10 loc (.ref x :: .ref a :: st) h P = pput h a 7 0 (.ref x) (fun h' => mFr d 48 13 loc (st) h' P)) ∧
  (∀ (d : Nat) (l1 : Option Value) (x : Nat) (st : List Value) (h : MH) (P : MP), mFr d 48 13 [some (.ref x), l1] st h P = mFr d 48 14 [some (.ref x), l1] (.ref x :: st) h P) ∧
  (∀ (d : Nat) (loc : List (Option Value)) (st : List Value) (h : MH) (P : MP), mFr d 48 14 loc st h P = mFr d 48 17 loc (.int 160 :: st) h P) ∧
  (∀ (d : Nat) (loc : List (Option Value)) (a : Nat) (x : Nat) (st : List Value) (h : MH) (P : MP), mFr d 48 19 loc (.ref x :: .ref a :: st) h P = pput h a 7 1 (.ref x) (fun h' => mFr d 48 22 loc (st) h' P)) ∧
  (∀ (d : Nat) (l1 : Option Value) (x : Nat) (st : List Value) (h : MH) (P : MP), mFr d 48 22 [some (.ref x), l1] st h P = mFr d 48 23 [some (.ref x), l1] (.ref x :: st) h P) ∧
  (∀ (d : Nat) (l0 : Option Value) (x : Nat) (st : List Value) (h : MH) (P : MP), mFr d 48 23 [l0, some (.ref x)] st h P = mFr d 48 24 [l0, some (.ref x)] (.ref x :: st) h P) ∧
  (∀ (d : Nat) (l0 : Option Value) (st : List Value) (h : MH) (P : MP), mFr d 48 23 [l0, some .null] st h P = mFr d 48 24 [l0, some .null] (.null :: st) h P) ∧
  (∀ (d : Nat) (loc : List (Option Value)) (a : Nat) (x : Nat) (st : List Value) (h : MH) (P : MP), mFr d 48 24 loc (.ref x :: .ref a :: st) h P = pput h a 7 3 (.ref x) (fun h' => mFr d 48 27 loc (st) h' P)) ∧
  (∀ (d : Nat) (loc : List (Option Value)) (h : MH) (P : MP), mFr d 48 27 loc [] h P = P none h) := ⟨fun _ _ _ _ _ _ => (mFr_S mq48 h48_0).trans rfl,
  fun _ _ _ _ _ => F_obj mq48 h48_1 (rfl : _ = some (3, 7, 0, 0)) (Nat.zero_le _),
  fun _ _ _ _ _ _ => (mFr_S mq48 h48_4).trans rfl,
  fun _ _ _ _ _ => (mFr_S mq48 h48_5).trans rfl,
  fun _ _ _ _ _ _ _ => F_put mq48 h48_10 (Or.inl ⟨(rfl : _ = some (9, 0, 7, 0)), Or.inr ⟨by decide, rfl⟩⟩),
  fun _ _ _ _ _ _ => (mFr_S mq48 h48_13).trans rfl,
  fun _ _ _ _ _ => (mFr_S mq48 h48_14).trans rfl,
  fun _ _ _ _ _ _ _ => F_put mq48 h48_19 (Or.inl ⟨(rfl : _ = some (15, 0, 7, 1)), Or.inr ⟨by decide, rfl⟩⟩),
  fun _ _ _ _ _ _ => (mFr_S mq48 h48_22).trans rfl,
  fun _ _ _ _ _ _ => (mFr_S mq48 h48_23).trans rfl,
  fun _ _ _ _ _ => (mFr_S mq48 h48_23).trans rfl,
  fun _ _ _ _ _ _ _ => F_put mq48 h48_24 (Or.inl ⟨(rfl : _ = some (18, 0, 7, 3)), Or.inr ⟨by decide, rfl⟩⟩),
  fun _ _ _ _ => (mFr_S mq48 h48_27).trans rfl⟩
theorem B48 : ∀ (d : Nat) (b : Nat) (a0 : Nat) (h : MH) (P : MP), mRun (d + 1) 48 [.ref b, .ref a0] h P = mFr d 48 0 [some (.ref b), some (.ref a0)] [] h P := fun _ _ _ _ _ => mRun_S mq48 (Nat.le_of_ble_eq_true rfl)
-- 49: PuncturesAreViews$Tokens.token(I)I
def q49 : MI := (yX7_token, cX7_token, 2, (some .int), 7, 1)
theorem mq49 : mtab[49]? = some q49 := rfl
theorem h49_0 : mfetch q49.2.1 0 = some (.iload_n 1) := by decide +kernel
theorem h49_1 : mfetch q49.2.1 1 = some (.ifCond .lt 29) := by decide +kernel
theorem h49_4 : mfetch q49.2.1 4 = some (.iload_n 1) := by decide +kernel
theorem h49_5 : mfetch q49.2.1 5 = some (.aload_n 0) := by decide +kernel
theorem h49_6 : mfetch q49.2.1 6 = some (.getfield 22) := by decide +kernel
theorem h49_9 : mfetch q49.2.1 9 = some (.if_icmp .ge 21) := by decide +kernel
theorem h49_12 : mfetch q49.2.1 12 = some (.iload_n 1) := by decide +kernel
theorem h49_13 : mfetch q49.2.1 13 = some (.aload_n 0) := by decide +kernel
theorem h49_14 : mfetch q49.2.1 14 = some (.getfield 9) := by decide +kernel
theorem h49_17 : mfetch q49.2.1 17 = some (.arraylength) := by decide +kernel
theorem h49_18 : mfetch q49.2.1 18 = some (.if_icmp .ge 12) := by decide +kernel
theorem h49_21 : mfetch q49.2.1 21 = some (.aload_n 0) := by decide +kernel
theorem h49_22 : mfetch q49.2.1 22 = some (.getfield 9) := by decide +kernel
theorem h49_25 : mfetch q49.2.1 25 = some (.iload_n 1) := by decide +kernel
theorem h49_26 : mfetch q49.2.1 26 = some (.iaload) := by decide +kernel
theorem h49_27 : mfetch q49.2.1 27 = some (.goto 5) := by decide +kernel
theorem h49_30 : mfetch q49.2.1 30 = some (.bipush 20) := by decide +kernel
theorem h49_32 : mfetch q49.2.1 32 = some (.ireturn) := by decide +kernel
theorem E49_0 : (∀ (d : Nat) (l0 : Option Value) (x : Int32) (st : List Value) (h : MH) (P : MP), mFr d 49 0 [l0, some (.int x)] st h P = mFr d 49 1 [l0, some (.int x)] (.int x :: st) h P) ∧
  (∀ (d : Nat) (loc : List (Option Value)) (x : Int32) (st : List Value) (h : MH) (P : MP), mFr d 49 1 loc (.int x :: st) h P = if x < 0 then mFr d 49 30 loc (st) h P else mFr d 49 4 loc (st) h P) := ⟨fun _ _ _ _ _ _ => (mFr_S mq49 h49_0).trans rfl,
  fun _ _ _ _ _ _ => (F_ifz 30 mq49 h49_1 (by decide)).trans mif_lt⟩
theorem E49_4 : (∀ (d : Nat) (l0 : Option Value) (x : Int32) (st : List Value) (h : MH) (P : MP), mFr d 49 4 [l0, some (.int x)] st h P = mFr d 49 5 [l0, some (.int x)] (.int x :: st) h P) ∧
  (∀ (d : Nat) (l1 : Option Value) (x : Nat) (st : List Value) (h : MH) (P : MP), mFr d 49 5 [some (.ref x), l1] st h P = mFr d 49 6 [some (.ref x), l1] (.ref x :: st) h P) ∧
  (∀ (d : Nat) (loc : List (Option Value)) (a : Nat) (st : List Value) (h : MH) (P : MP), mFr d 49 6 loc (.ref a :: st) h P = pget h a 7 2 (fun v => mFr d 49 9 loc (v :: st) h P)) ∧
  (∀ (d : Nat) (loc : List (Option Value)) (x y : Int32) (st : List Value) (h : MH) (P : MP), mFr d 49 9 loc (.int y :: .int x :: st) h P = if x < y then mFr d 49 12 loc (st) h P else mFr d 49 30 loc (st) h P) := ⟨fun _ _ _ _ _ _ => (mFr_S mq49 h49_4).trans rfl,
  fun _ _ _ _ _ _ => (mFr_S mq49 h49_5).trans rfl,
  fun _ _ _ _ _ _ => F_get mq49 h49_6 (Or.inl (rfl : _ = some (22, 0, 7, 2))),
  fun _ _ _ _ _ _ _ => (F_icmp 30 mq49 h49_9 (by decide)).trans mif_ge⟩
theorem E49_12 : (∀ (d : Nat) (l0 : Option Value) (x : Int32) (st : List Value) (h : MH) (P : MP), mFr d 49 12 [l0, some (.int x)] st h P = mFr d 49 13 [l0, some (.int x)] (.int x :: st) h P) ∧
  (∀ (d : Nat) (l1 : Option Value) (x : Nat) (st : List Value) (h : MH) (P : MP), mFr d 49 13 [some (.ref x), l1] st h P = mFr d 49 14 [some (.ref x), l1] (.ref x :: st) h P) ∧
  (∀ (d : Nat) (loc : List (Option Value)) (a : Nat) (st : List Value) (h : MH) (P : MP), mFr d 49 14 loc (.ref a :: st) h P = pget h a 7 0 (fun v => mFr d 49 17 loc (v :: st) h P)) ∧
  (∀ (d : Nat) (loc : List (Option Value)) (a : Nat) (st : List Value) (h : MH) (P : MP), mFr d 49 17 loc (.ref a :: st) h P = palen h a (fun n => mFr d 49 18 loc (.int (Int32.ofNat n) :: st) h P)) ∧
  (∀ (d : Nat) (loc : List (Option Value)) (x y : Int32) (st : List Value) (h : MH) (P : MP), mFr d 49 18 loc (.int y :: .int x :: st) h P = if x < y then mFr d 49 21 loc (st) h P else mFr d 49 30 loc (st) h P) := ⟨fun _ _ _ _ _ _ => (mFr_S mq49 h49_12).trans rfl,
  fun _ _ _ _ _ _ => (mFr_S mq49 h49_13).trans rfl,
  fun _ _ _ _ _ _ => F_get mq49 h49_14 (Or.inl (rfl : _ = some (9, 0, 7, 0))),
  fun _ _ _ _ _ _ => F_alen mq49 h49_17,
  fun _ _ _ _ _ _ _ => (F_icmp 30 mq49 h49_18 (by decide)).trans mif_ge⟩
theorem E49_21 : (∀ (d : Nat) (l1 : Option Value) (x : Nat) (st : List Value) (h : MH) (P : MP), mFr d 49 21 [some (.ref x), l1] st h P = mFr d 49 22 [some (.ref x), l1] (.ref x :: st) h P) ∧
  (∀ (d : Nat) (loc : List (Option Value)) (a : Nat) (st : List Value) (h : MH) (P : MP), mFr d 49 22 loc (.ref a :: st) h P = pget h a 7 0 (fun v => mFr d 49 25 loc (v :: st) h P)) ∧
  (∀ (d : Nat) (l0 : Option Value) (x : Int32) (st : List Value) (h : MH) (P : MP), mFr d 49 25 [l0, some (.int x)] st h P = mFr d 49 26 [l0, some (.int x)] (.int x :: st) h P) ∧
  (∀ (d : Nat) (loc : List (Option Value)) (a : Nat) (i : Int32) (st : List Value) (h : MH) (P : MP), mFr d 49 26 loc (.int i :: .ref a :: st) h P = pial h a i (fun x => mFr d 49 27 loc (.int x :: st) h P)) ∧
  (∀ (d : Nat) (loc : List (Option Value)) (st : List Value) (h : MH) (P : MP), mFr d 49 27 loc st h P = mFr d 49 32 loc (st) h P) := ⟨fun _ _ _ _ _ _ => (mFr_S mq49 h49_21).trans rfl,
  fun _ _ _ _ _ _ => F_get mq49 h49_22 (Or.inl (rfl : _ = some (9, 0, 7, 0))),
  fun _ _ _ _ _ _ => (mFr_S mq49 h49_25).trans rfl,
  fun _ _ _ _ _ _ _ => F_iald mq49 h49_26,
  fun _ _ _ _ _ => F_goto 32 mq49 h49_27 (by decide)⟩
theorem E49_30 : (∀ (d : Nat) (loc : List (Option Value)) (st : List Value) (h : MH) (P : MP), mFr d 49 30 loc st h P = mFr d 49 32 loc (.int 20 :: st) h P) := fun _ _ _ _ _ => (mFr_S mq49 h49_30).trans rfl
theorem E49_32 : (∀ (d : Nat) (loc : List (Option Value)) (x : Int32) (h : MH) (P : MP), mFr d 49 32 loc [.int x] h P = P (some (.int x)) h) := fun _ _ _ _ _ => F_ret mq49 h49_32 rfl rfl
theorem B49 : ∀ (d : Nat) (b : Nat) (a0 : Int32) (h : MH) (P : MP), mRun (d + 1) 49 [.ref b, .int a0] h P = mFr d 49 0 [some (.ref b), some (.int a0)] [] h P := fun _ _ _ _ _ => mRun_S mq49 (Nat.le_of_ble_eq_true rfl)
-- 50: PuncturesAreViews$Tokens.start(I)I
def q50 : MI := (yX7_start, cX7_start, 2, (some .int), 7, 1)
theorem mq50 : mtab[50]? = some q50 := rfl
theorem h50_0 : mfetch q50.2.1 0 = some (.iload_n 1) := by decide +kernel
theorem h50_1 : mfetch q50.2.1 1 = some (.ifCond .lt 29) := by decide +kernel
theorem h50_4 : mfetch q50.2.1 4 = some (.iload_n 1) := by decide +kernel
theorem h50_5 : mfetch q50.2.1 5 = some (.aload_n 0) := by decide +kernel
theorem h50_6 : mfetch q50.2.1 6 = some (.getfield 22) := by decide +kernel
theorem h50_9 : mfetch q50.2.1 9 = some (.if_icmp .ge 21) := by decide +kernel
theorem h50_12 : mfetch q50.2.1 12 = some (.iload_n 1) := by decide +kernel
theorem h50_13 : mfetch q50.2.1 13 = some (.aload_n 0) := by decide +kernel
theorem h50_14 : mfetch q50.2.1 14 = some (.getfield 15) := by decide +kernel
theorem h50_17 : mfetch q50.2.1 17 = some (.arraylength) := by decide +kernel
theorem h50_18 : mfetch q50.2.1 18 = some (.if_icmp .ge 12) := by decide +kernel
theorem h50_21 : mfetch q50.2.1 21 = some (.aload_n 0) := by decide +kernel
theorem h50_22 : mfetch q50.2.1 22 = some (.getfield 15) := by decide +kernel
theorem h50_25 : mfetch q50.2.1 25 = some (.iload_n 1) := by decide +kernel
theorem h50_26 : mfetch q50.2.1 26 = some (.iaload) := by decide +kernel
theorem h50_27 : mfetch q50.2.1 27 = some (.goto 10) := by decide +kernel
theorem h50_30 : mfetch q50.2.1 30 = some (.aload_n 0) := by decide +kernel
theorem h50_31 : mfetch q50.2.1 31 = some (.getfield 18) := by decide +kernel
theorem h50_34 : mfetch q50.2.1 34 = some (.getfield 26) := by decide +kernel
theorem h50_37 : mfetch q50.2.1 37 = some (.ireturn) := by decide +kernel
theorem E50_0 : (∀ (d : Nat) (l0 : Option Value) (x : Int32) (st : List Value) (h : MH) (P : MP), mFr d 50 0 [l0, some (.int x)] st h P = mFr d 50 1 [l0, some (.int x)] (.int x :: st) h P) ∧
  (∀ (d : Nat) (loc : List (Option Value)) (x : Int32) (st : List Value) (h : MH) (P : MP), mFr d 50 1 loc (.int x :: st) h P = if x < 0 then mFr d 50 30 loc (st) h P else mFr d 50 4 loc (st) h P) := ⟨fun _ _ _ _ _ _ => (mFr_S mq50 h50_0).trans rfl,
  fun _ _ _ _ _ _ => (F_ifz 30 mq50 h50_1 (by decide)).trans mif_lt⟩
theorem E50_4 : (∀ (d : Nat) (l0 : Option Value) (x : Int32) (st : List Value) (h : MH) (P : MP), mFr d 50 4 [l0, some (.int x)] st h P = mFr d 50 5 [l0, some (.int x)] (.int x :: st) h P) ∧
  (∀ (d : Nat) (l1 : Option Value) (x : Nat) (st : List Value) (h : MH) (P : MP), mFr d 50 5 [some (.ref x), l1] st h P = mFr d 50 6 [some (.ref x), l1] (.ref x :: st) h P) ∧
  (∀ (d : Nat) (loc : List (Option Value)) (a : Nat) (st : List Value) (h : MH) (P : MP), mFr d 50 6 loc (.ref a :: st) h P = pget h a 7 2 (fun v => mFr d 50 9 loc (v :: st) h P)) ∧
  (∀ (d : Nat) (loc : List (Option Value)) (x y : Int32) (st : List Value) (h : MH) (P : MP), mFr d 50 9 loc (.int y :: .int x :: st) h P = if x < y then mFr d 50 12 loc (st) h P else mFr d 50 30 loc (st) h P) := ⟨fun _ _ _ _ _ _ => (mFr_S mq50 h50_4).trans rfl,
  fun _ _ _ _ _ _ => (mFr_S mq50 h50_5).trans rfl,
  fun _ _ _ _ _ _ => F_get mq50 h50_6 (Or.inl (rfl : _ = some (22, 0, 7, 2))),
  fun _ _ _ _ _ _ _ => (F_icmp 30 mq50 h50_9 (by decide)).trans mif_ge⟩
theorem E50_12 : (∀ (d : Nat) (l0 : Option Value) (x : Int32) (st : List Value) (h : MH) (P : MP), mFr d 50 12 [l0, some (.int x)] st h P = mFr d 50 13 [l0, some (.int x)] (.int x :: st) h P) ∧
  (∀ (d : Nat) (l1 : Option Value) (x : Nat) (st : List Value) (h : MH) (P : MP), mFr d 50 13 [some (.ref x), l1] st h P = mFr d 50 14 [some (.ref x), l1] (.ref x :: st) h P) ∧
  (∀ (d : Nat) (loc : List (Option Value)) (a : Nat) (st : List Value) (h : MH) (P : MP), mFr d 50 14 loc (.ref a :: st) h P = pget h a 7 1 (fun v => mFr d 50 17 loc (v :: st) h P)) ∧
  (∀ (d : Nat) (loc : List (Option Value)) (a : Nat) (st : List Value) (h : MH) (P : MP), mFr d 50 17 loc (.ref a :: st) h P = palen h a (fun n => mFr d 50 18 loc (.int (Int32.ofNat n) :: st) h P)) ∧
  (∀ (d : Nat) (loc : List (Option Value)) (x y : Int32) (st : List Value) (h : MH) (P : MP), mFr d 50 18 loc (.int y :: .int x :: st) h P = if x < y then mFr d 50 21 loc (st) h P else mFr d 50 30 loc (st) h P) := ⟨fun _ _ _ _ _ _ => (mFr_S mq50 h50_12).trans rfl,
  fun _ _ _ _ _ _ => (mFr_S mq50 h50_13).trans rfl,
  fun _ _ _ _ _ _ => F_get mq50 h50_14 (Or.inl (rfl : _ = some (15, 0, 7, 1))),
  fun _ _ _ _ _ _ => F_alen mq50 h50_17,
  fun _ _ _ _ _ _ _ => (F_icmp 30 mq50 h50_18 (by decide)).trans mif_ge⟩
theorem E50_21 : (∀ (d : Nat) (l1 : Option Value) (x : Nat) (st : List Value) (h : MH) (P : MP), mFr d 50 21 [some (.ref x), l1] st h P = mFr d 50 22 [some (.ref x), l1] (.ref x :: st) h P) ∧
  (∀ (d : Nat) (loc : List (Option Value)) (a : Nat) (st : List Value) (h : MH) (P : MP), mFr d 50 22 loc (.ref a :: st) h P = pget h a 7 1 (fun v => mFr d 50 25 loc (v :: st) h P)) ∧
  (∀ (d : Nat) (l0 : Option Value) (x : Int32) (st : List Value) (h : MH) (P : MP), mFr d 50 25 [l0, some (.int x)] st h P = mFr d 50 26 [l0, some (.int x)] (.int x :: st) h P) ∧
  (∀ (d : Nat) (loc : List (Option Value)) (a : Nat) (i : Int32) (st : List Value) (h : MH) (P : MP), mFr d 50 26 loc (.int i :: .ref a :: st) h P = pial h a i (fun x => mFr d 50 27 loc (.int x :: st) h P)) ∧
  (∀ (d : Nat) (loc : List (Option Value)) (st : List Value) (h : MH) (P : MP), mFr d 50 27 loc st h P = mFr d 50 37 loc (st) h P) := ⟨fun _ _ _ _ _ _ => (mFr_S mq50 h50_21).trans rfl,
  fun _ _ _ _ _ _ => F_get mq50 h50_22 (Or.inl (rfl : _ = some (15, 0, 7, 1))),
  fun _ _ _ _ _ _ => (mFr_S mq50 h50_25).trans rfl,
  fun _ _ _ _ _ _ _ => F_iald mq50 h50_26,
  fun _ _ _ _ _ => F_goto 37 mq50 h50_27 (by decide)⟩
theorem E50_30 : (∀ (d : Nat) (l1 : Option Value) (x : Nat) (st : List Value) (h : MH) (P : MP), mFr d 50 30 [some (.ref x), l1] st h P = mFr d 50 31 [some (.ref x), l1] (.ref x :: st) h P) ∧
  (∀ (d : Nat) (loc : List (Option Value)) (a : Nat) (st : List Value) (h : MH) (P : MP), mFr d 50 31 loc (.ref a :: st) h P = pget h a 7 3 (fun v => mFr d 50 34 loc (v :: st) h P)) ∧
  (∀ (d : Nat) (loc : List (Option Value)) (a : Nat) (st : List Value) (h : MH) (P : MP), mFr d 50 34 loc (.ref a :: st) h P = pget h a 4 1 (fun v => mFr d 50 37 loc (v :: st) h P)) := ⟨fun _ _ _ _ _ _ => (mFr_S mq50 h50_30).trans rfl,
  fun _ _ _ _ _ _ => F_get mq50 h50_31 (Or.inl (rfl : _ = some (18, 0, 7, 3))),
  fun _ _ _ _ _ _ => F_get mq50 h50_34 (Or.inr (rfl : _ = some (26, 1, 4, 1)))⟩
theorem E50_37 : (∀ (d : Nat) (loc : List (Option Value)) (x : Int32) (h : MH) (P : MP), mFr d 50 37 loc [.int x] h P = P (some (.int x)) h) := fun _ _ _ _ _ => F_ret mq50 h50_37 rfl rfl
theorem B50 : ∀ (d : Nat) (b : Nat) (a0 : Int32) (h : MH) (P : MP), mRun (d + 1) 50 [.ref b, .int a0] h P = mFr d 50 0 [some (.ref b), some (.int a0)] [] h P := fun _ _ _ _ _ => mRun_S mq50 (Nat.le_of_ble_eq_true rfl)
-- 51: PuncturesAreViews$Tokens.scan()V loops at [9]
def q51 : MI := (yX7_scan, cX7_scan, 4, none, 7, 0)
theorem mq51 : mtab[51]? = some q51 := rfl
theorem h51_0 : mfetch q51.2.1 0 = some (.aload_n 0) := by decide +kernel
theorem h51_1 : mfetch q51.2.1 1 = some (.iconst 0) := by decide +kernel
theorem h51_2 : mfetch q51.2.1 2 = some (.putfield 22) := by decide +kernel
theorem h51_5 : mfetch q51.2.1 5 = some (.iconst 0) := by decide +kernel
theorem h51_6 : mfetch q51.2.1 6 = some (.istore_n 1) := by decide +kernel
theorem h51_7 : mfetch q51.2.1 7 = some (.iconst 0) := by decide +kernel
theorem h51_8 : mfetch q51.2.1 8 = some (.istore_n 2) := by decide +kernel
theorem h51_9 : mfetch q51.2.1 9 = some (.iload_n 2) := by decide +kernel
theorem h51_10 : mfetch q51.2.1 10 = some (.aload_n 0) := by decide +kernel
theorem h51_11 : mfetch q51.2.1 11 = some (.getfield 18) := by decide +kernel
theorem h51_14 : mfetch q51.2.1 14 = some (.getfield 26) := by decide +kernel
theorem h51_17 : mfetch q51.2.1 17 = some (.if_icmp .ge 99) := by decide +kernel
theorem h51_20 : mfetch q51.2.1 20 = some (.aload_n 0) := by decide +kernel
theorem h51_21 : mfetch q51.2.1 21 = some (.getfield 18) := by decide +kernel
theorem h51_24 : mfetch q51.2.1 24 = some (.iload_n 2) := by decide +kernel
theorem h51_25 : mfetch q51.2.1 25 = some (.invokevirtual 31) := by decide +kernel
theorem h51_28 : mfetch q51.2.1 28 = some (.istore_n 3) := by decide +kernel
theorem h51_29 : mfetch q51.2.1 29 = some (.iload_n 2) := by decide +kernel
theorem h51_30 : mfetch q51.2.1 30 = some (.iload_n 1) := by decide +kernel
theorem h51_31 : mfetch q51.2.1 31 = some (.if_icmp .lt 79) := by decide +kernel
theorem h51_34 : mfetch q51.2.1 34 = some (.iload_n 3) := by decide +kernel
theorem h51_35 : mfetch q51.2.1 35 = some (.invokestatic 35) := by decide +kernel
theorem h51_38 : mfetch q51.2.1 38 = some (.ifCond .eq 6) := by decide +kernel
theorem h51_41 : mfetch q51.2.1 41 = some (.goto 69) := by decide +kernel
theorem h51_44 : mfetch q51.2.1 44 = some (.iload_n 3) := by decide +kernel
theorem h51_45 : mfetch q51.2.1 45 = some (.invokestatic 39) := by decide +kernel
theorem h51_48 : mfetch q51.2.1 48 = some (.ifCond .eq 23) := by decide +kernel
theorem h51_51 : mfetch q51.2.1 51 = some (.aload_n 0) := by decide +kernel
theorem h51_52 : mfetch q51.2.1 52 = some (.iload_n 2) := by decide +kernel
theorem h51_53 : mfetch q51.2.1 53 = some (.invokevirtual 42) := by decide +kernel
theorem h51_56 : mfetch q51.2.1 56 = some (.istore_n 1) := by decide +kernel
theorem h51_57 : mfetch q51.2.1 57 = some (.aload_n 0) := by decide +kernel
theorem h51_58 : mfetch q51.2.1 58 = some (.aload_n 0) := by decide +kernel
theorem h51_59 : mfetch q51.2.1 59 = some (.iload_n 2) := by decide +kernel
theorem h51_60 : mfetch q51.2.1 60 = some (.iload_n 1) := by decide +kernel
theorem h51_61 : mfetch q51.2.1 61 = some (.invokevirtual 45) := by decide +kernel
theorem h51_64 : mfetch q51.2.1 64 = some (.iload_n 2) := by decide +kernel
theorem h51_65 : mfetch q51.2.1 65 = some (.invokevirtual 49) := by decide +kernel
theorem h51_68 : mfetch q51.2.1 68 = some (.goto 42) := by decide +kernel
theorem h51_71 : mfetch q51.2.1 71 = some (.iload_n 3) := by decide +kernel
theorem h51_72 : mfetch q51.2.1 72 = some (.bipush 48) := by decide +kernel
theorem h51_74 : mfetch q51.2.1 74 = some (.isub) := by decide +kernel
theorem h51_75 : mfetch q51.2.1 75 = some (.invokestatic 53) := by decide +kernel
theorem h51_78 : mfetch q51.2.1 78 = some (.ifCond .eq 23) := by decide +kernel
theorem h51_81 : mfetch q51.2.1 81 = some (.aload_n 0) := by decide +kernel
theorem h51_82 : mfetch q51.2.1 82 = some (.iload_n 2) := by decide +kernel
theorem h51_83 : mfetch q51.2.1 83 = some (.invokevirtual 56) := by decide +kernel
theorem h51_86 : mfetch q51.2.1 86 = some (.istore_n 1) := by decide +kernel
theorem h51_87 : mfetch q51.2.1 87 = some (.aload_n 0) := by decide +kernel
theorem h51_88 : mfetch q51.2.1 88 = some (.aload_n 0) := by decide +kernel
theorem h51_89 : mfetch q51.2.1 89 = some (.iload_n 2) := by decide +kernel
theorem h51_90 : mfetch q51.2.1 90 = some (.iload_n 1) := by decide +kernel
theorem h51_91 : mfetch q51.2.1 91 = some (.invokevirtual 59) := by decide +kernel
theorem h51_94 : mfetch q51.2.1 94 = some (.iload_n 2) := by decide +kernel
theorem h51_95 : mfetch q51.2.1 95 = some (.invokevirtual 49) := by decide +kernel
theorem h51_98 : mfetch q51.2.1 98 = some (.goto 12) := by decide +kernel
theorem h51_101 : mfetch q51.2.1 101 = some (.aload_n 0) := by decide +kernel
theorem h51_102 : mfetch q51.2.1 102 = some (.iload_n 3) := by decide +kernel
theorem h51_103 : mfetch q51.2.1 103 = some (.invokestatic 62) := by decide +kernel
theorem h51_106 : mfetch q51.2.1 106 = some (.iload_n 2) := by decide +kernel
theorem h51_107 : mfetch q51.2.1 107 = some (.invokevirtual 49) := by decide +kernel
theorem h51_110 : mfetch q51.2.1 110 = some (.iinc 2 1) := by decide +kernel
theorem h51_113 : mfetch q51.2.1 113 = some (.goto (-104)) := by decide +kernel
theorem h51_116 : mfetch q51.2.1 116 = some (.return_) := by decide +kernel
theorem E51_0 : (∀ (d : Nat) (l1 : Option Value) (l2 : Option Value) (l3 : Option Value) (x : Nat) (st : List Value) (h : MH) (P : MP), mFr d 51 0 [some (.ref x), l1, l2, l3] st h P = mFr d 51 1 [some (.ref x), l1, l2, l3] (.ref x :: st) h P) ∧
  (∀ (d : Nat) (loc : List (Option Value)) (st : List Value) (h : MH) (P : MP), mFr d 51 1 loc st h P = mFr d 51 2 loc (.int 0 :: st) h P) ∧
  (∀ (d : Nat) (loc : List (Option Value)) (a : Nat) (x : Int32) (st : List Value) (h : MH) (P : MP), mFr d 51 2 loc (.int x :: .ref a :: st) h P = pput h a 7 2 (.int x) (fun h' => mFr d 51 5 loc (st) h' P)) ∧
  (∀ (d : Nat) (loc : List (Option Value)) (st : List Value) (h : MH) (P : MP), mFr d 51 5 loc st h P = mFr d 51 6 loc (.int 0 :: st) h P) ∧
  (∀ (d : Nat) (l0 : Option Value) (l1 : Option Value) (l2 : Option Value) (l3 : Option Value) (x : Int32) (st : List Value) (h : MH) (P : MP), mnl l0 = true → mFr d 51 6 [l0, l1, l2, l3] (.int x :: st) h P = mFr d 51 7 [l0, some (.int x), l2, l3] (st) h P) ∧
  (∀ (d : Nat) (loc : List (Option Value)) (st : List Value) (h : MH) (P : MP), mFr d 51 7 loc st h P = mFr d 51 8 loc (.int 0 :: st) h P) ∧
  (∀ (d : Nat) (l0 : Option Value) (l1 : Option Value) (l2 : Option Value) (l3 : Option Value) (x : Int32) (st : List Value) (h : MH) (P : MP), mnl l1 = true → mFr d 51 8 [l0, l1, l2, l3] (.int x :: st) h P = mFr d 51 9 [l0, l1, some (.int x), l3] (st) h P) := ⟨fun _ _ _ _ _ _ _ _ => (mFr_S mq51 h51_0).trans rfl,
  fun _ _ _ _ _ => (mFr_S mq51 h51_1).trans rfl,
  fun _ _ _ _ _ _ _ => F_put mq51 h51_2 (Or.inl ⟨(rfl : _ = some (22, 0, 7, 2)), Or.inl rfl⟩),
  fun _ _ _ _ _ => (mFr_S mq51 h51_5).trans rfl,
  fun _ _ _ _ _ _ _ _ _ hm => (mFr_S mq51 h51_6).trans (by simp only [mgo.eq_1, mstep, mi1, ml1, mast, mst, mst2, mprev, List.length_cons, List.length_nil, List.getElem?_cons_succ, List.getElem?_cons_zero, hm]; rfl),
  fun _ _ _ _ _ => (mFr_S mq51 h51_7).trans rfl,
  fun _ _ _ _ _ _ _ _ _ hm => (mFr_S mq51 h51_8).trans (by simp only [mgo.eq_1, mstep, mi1, ml1, mast, mst, mst2, mprev, List.length_cons, List.length_nil, List.getElem?_cons_succ, List.getElem?_cons_zero, hm]; rfl)⟩
theorem E51_9 : (∀ (d : Nat) (l0 : Option Value) (l1 : Option Value) (l3 : Option Value) (x : Int32) (st : List Value) (h : MH) (P : MP), mFr d 51 9 [l0, l1, some (.int x), l3] st h P = mFr d 51 10 [l0, l1, some (.int x), l3] (.int x :: st) h P) ∧
  (∀ (d : Nat) (l1 : Option Value) (l2 : Option Value) (l3 : Option Value) (x : Nat) (st : List Value) (h : MH) (P : MP), mFr d 51 10 [some (.ref x), l1, l2, l3] st h P = mFr d 51 11 [some (.ref x), l1, l2, l3] (.ref x :: st) h P) ∧
  (∀ (d : Nat) (loc : List (Option Value)) (a : Nat) (st : List Value) (h : MH) (P : MP), mFr d 51 11 loc (.ref a :: st) h P = pget h a 7 3 (fun v => mFr d 51 14 loc (v :: st) h P)) ∧
  (∀ (d : Nat) (loc : List (Option Value)) (a : Nat) (st : List Value) (h : MH) (P : MP), mFr d 51 14 loc (.ref a :: st) h P = pget h a 4 1 (fun v => mFr d 51 17 loc (v :: st) h P)) ∧
  (∀ (d : Nat) (loc : List (Option Value)) (x y : Int32) (st : List Value) (h : MH) (P : MP), mFr d 51 17 loc (.int y :: .int x :: st) h P = if x < y then mFr d 51 20 loc (st) h P else mFr d 51 116 loc (st) h P) := ⟨fun _ _ _ _ _ _ _ _ => (mFr_S mq51 h51_9).trans rfl,
  fun _ _ _ _ _ _ _ _ => (mFr_S mq51 h51_10).trans rfl,
  fun _ _ _ _ _ _ => F_get mq51 h51_11 (Or.inl (rfl : _ = some (18, 0, 7, 3))),
  fun _ _ _ _ _ _ => F_get mq51 h51_14 (Or.inr (rfl : _ = some (26, 1, 4, 1))),
  fun _ _ _ _ _ _ _ => (F_icmp 116 mq51 h51_17 (by decide)).trans mif_ge⟩
theorem E51_20 : (∀ (d : Nat) (l1 : Option Value) (l2 : Option Value) (l3 : Option Value) (x : Nat) (st : List Value) (h : MH) (P : MP), mFr d 51 20 [some (.ref x), l1, l2, l3] st h P = mFr d 51 21 [some (.ref x), l1, l2, l3] (.ref x :: st) h P) ∧
  (∀ (d : Nat) (loc : List (Option Value)) (a : Nat) (st : List Value) (h : MH) (P : MP), mFr d 51 21 loc (.ref a :: st) h P = pget h a 7 3 (fun v => mFr d 51 24 loc (v :: st) h P)) ∧
  (∀ (d : Nat) (l0 : Option Value) (l1 : Option Value) (l3 : Option Value) (x : Int32) (st : List Value) (h : MH) (P : MP), mFr d 51 24 [l0, l1, some (.int x), l3] st h P = mFr d 51 25 [l0, l1, some (.int x), l3] (.int x :: st) h P) ∧
  (∀ (d : Nat) (loc : List (Option Value)) (b : Nat) (a0 : Int32) (h : MH) (P : MP), mFr d 51 25 loc ((.int a0) :: .ref b :: []) h P = if mrcv h b 4 = true then mRun d 28 [.ref b, .int a0] h (fun v h' => mFr d 51 28 loc (v.toList ++ []) h' P) else False) ∧
  (∀ (d : Nat) (l0 : Option Value) (l1 : Option Value) (l2 : Option Value) (l3 : Option Value) (x : Int32) (st : List Value) (h : MH) (P : MP), mnl l2 = true → mFr d 51 28 [l0, l1, l2, l3] (.int x :: st) h P = mFr d 51 29 [l0, l1, l2, some (.int x)] (st) h P) ∧
  (∀ (d : Nat) (l0 : Option Value) (l1 : Option Value) (l3 : Option Value) (x : Int32) (st : List Value) (h : MH) (P : MP), mFr d 51 29 [l0, l1, some (.int x), l3] st h P = mFr d 51 30 [l0, l1, some (.int x), l3] (.int x :: st) h P) ∧
  (∀ (d : Nat) (l0 : Option Value) (l2 : Option Value) (l3 : Option Value) (x : Int32) (st : List Value) (h : MH) (P : MP), mFr d 51 30 [l0, some (.int x), l2, l3] st h P = mFr d 51 31 [l0, some (.int x), l2, l3] (.int x :: st) h P) ∧
  (∀ (d : Nat) (loc : List (Option Value)) (x y : Int32) (st : List Value) (h : MH) (P : MP), mFr d 51 31 loc (.int y :: .int x :: st) h P = if x < y then mFr d 51 110 loc (st) h P else mFr d 51 34 loc (st) h P) := ⟨fun _ _ _ _ _ _ _ _ => (mFr_S mq51 h51_20).trans rfl,
  fun _ _ _ _ _ _ => F_get mq51 h51_21 (Or.inl (rfl : _ = some (18, 0, 7, 3))),
  fun _ _ _ _ _ _ _ _ => (mFr_S mq51 h51_24).trans rfl,
  fun _ _ b a0 _ _ => F_callV (as := [.int a0]) (rest := []) mq51 (Or.inl h51_25) (rfl : _ = some (31, 6, 28, 1)) (Or.inl ⟨h51_25, by decide⟩) (by rfl) (by rfl) (by rfl) (Nat.le_of_ble_eq_true rfl),
  fun _ _ _ _ _ _ _ _ _ hm => (mFr_S mq51 h51_28).trans (by simp only [mgo.eq_1, mstep, mi1, ml1, mast, mst, mst2, mprev, List.length_cons, List.length_nil, List.getElem?_cons_succ, List.getElem?_cons_zero, hm]; rfl),
  fun _ _ _ _ _ _ _ _ => (mFr_S mq51 h51_29).trans rfl,
  fun _ _ _ _ _ _ _ _ => (mFr_S mq51 h51_30).trans rfl,
  fun _ _ _ _ _ _ _ => (F_icmp 110 mq51 h51_31 (by decide)).trans mif_lt⟩
theorem E51_34 : (∀ (d : Nat) (l0 : Option Value) (l1 : Option Value) (l2 : Option Value) (x : Int32) (st : List Value) (h : MH) (P : MP), mFr d 51 34 [l0, l1, l2, some (.int x)] st h P = mFr d 51 35 [l0, l1, l2, some (.int x)] (.int x :: st) h P) ∧
  (∀ (d : Nat) (loc : List (Option Value)) (a0 : Int32) (h : MH) (P : MP), mFr d 51 35 loc ((.int a0) :: []) h P = mRun d 53 [.int a0] h (fun v h' => mFr d 51 38 loc (v.toList ++ []) h' P)) ∧
  (∀ (d : Nat) (loc : List (Option Value)) (x : Int32) (st : List Value) (h : MH) (P : MP), mFr d 51 38 loc (.int x :: st) h P = if x = 0 then mFr d 51 44 loc (st) h P else mFr d 51 41 loc (st) h P) := ⟨fun _ _ _ _ _ _ _ _ => (mFr_S mq51 h51_34).trans rfl,
  fun _ _ a0 _ _ => F_callS (as := [.int a0]) (rest := []) mq51 h51_35 (rfl : _ = some (35, 6, 53, 2)) (by decide) (by rfl) (by rfl) (by rfl) (Nat.le_of_ble_eq_true rfl),
  fun _ _ _ _ _ _ => (F_ifz 44 mq51 h51_38 (by decide)).trans mif_eq⟩
theorem E51_41 : (∀ (d : Nat) (loc : List (Option Value)) (st : List Value) (h : MH) (P : MP), mFr d 51 41 loc st h P = mFr d 51 110 loc (st) h P) := fun _ _ _ _ _ => F_goto 110 mq51 h51_41 (by decide)
theorem E51_44 : (∀ (d : Nat) (l0 : Option Value) (l1 : Option Value) (l2 : Option Value) (x : Int32) (st : List Value) (h : MH) (P : MP), mFr d 51 44 [l0, l1, l2, some (.int x)] st h P = mFr d 51 45 [l0, l1, l2, some (.int x)] (.int x :: st) h P) ∧
  (∀ (d : Nat) (loc : List (Option Value)) (a0 : Int32) (h : MH) (P : MP), mFr d 51 45 loc ((.int a0) :: []) h P = mRun d 54 [.int a0] h (fun v h' => mFr d 51 48 loc (v.toList ++ []) h' P)) ∧
  (∀ (d : Nat) (loc : List (Option Value)) (x : Int32) (st : List Value) (h : MH) (P : MP), mFr d 51 48 loc (.int x :: st) h P = if x = 0 then mFr d 51 71 loc (st) h P else mFr d 51 51 loc (st) h P) := ⟨fun _ _ _ _ _ _ _ _ => (mFr_S mq51 h51_44).trans rfl,
  fun _ _ a0 _ _ => F_callS (as := [.int a0]) (rest := []) mq51 h51_45 (rfl : _ = some (39, 6, 54, 2)) (by decide) (by rfl) (by rfl) (by rfl) (Nat.le_of_ble_eq_true rfl),
  fun _ _ _ _ _ _ => (F_ifz 71 mq51 h51_48 (by decide)).trans mif_eq⟩
theorem E51_51 : (∀ (d : Nat) (l1 : Option Value) (l2 : Option Value) (l3 : Option Value) (x : Nat) (st : List Value) (h : MH) (P : MP), mFr d 51 51 [some (.ref x), l1, l2, l3] st h P = mFr d 51 52 [some (.ref x), l1, l2, l3] (.ref x :: st) h P) ∧
  (∀ (d : Nat) (l0 : Option Value) (l1 : Option Value) (l3 : Option Value) (x : Int32) (st : List Value) (h : MH) (P : MP), mFr d 51 52 [l0, l1, some (.int x), l3] st h P = mFr d 51 53 [l0, l1, some (.int x), l3] (.int x :: st) h P) ∧
  (∀ (d : Nat) (loc : List (Option Value)) (b : Nat) (a0 : Int32) (h : MH) (P : MP), mFr d 51 53 loc ((.int a0) :: .ref b :: []) h P = if mrcv h b 7 = true then mRun d 55 [.ref b, .int a0] h (fun v h' => mFr d 51 56 loc (v.toList ++ []) h' P) else False) ∧
  (∀ (d : Nat) (l0 : Option Value) (l1 : Option Value) (l2 : Option Value) (l3 : Option Value) (x : Int32) (st : List Value) (h : MH) (P : MP), mnl l0 = true → mFr d 51 56 [l0, l1, l2, l3] (.int x :: st) h P = mFr d 51 57 [l0, some (.int x), l2, l3] (st) h P) ∧
  (∀ (d : Nat) (l1 : Option Value) (l2 : Option Value) (l3 : Option Value) (x : Nat) (st : List Value) (h : MH) (P : MP), mFr d 51 57 [some (.ref x), l1, l2, l3] st h P = mFr d 51 58 [some (.ref x), l1, l2, l3] (.ref x :: st) h P) ∧
  (∀ (d : Nat) (l1 : Option Value) (l2 : Option Value) (l3 : Option Value) (x : Nat) (st : List Value) (h : MH) (P : MP), mFr d 51 58 [some (.ref x), l1, l2, l3] st h P = mFr d 51 59 [some (.ref x), l1, l2, l3] (.ref x :: st) h P) ∧
  (∀ (d : Nat) (l0 : Option Value) (l1 : Option Value) (l3 : Option Value) (x : Int32) (st : List Value) (h : MH) (P : MP), mFr d 51 59 [l0, l1, some (.int x), l3] st h P = mFr d 51 60 [l0, l1, some (.int x), l3] (.int x :: st) h P) ∧
  (∀ (d : Nat) (l0 : Option Value) (l2 : Option Value) (l3 : Option Value) (x : Int32) (st : List Value) (h : MH) (P : MP), mFr d 51 60 [l0, some (.int x), l2, l3] st h P = mFr d 51 61 [l0, some (.int x), l2, l3] (.int x :: st) h P) ∧
  (∀ (d : Nat) (loc : List (Option Value)) (b : Nat) (a0 : Int32) (a1 : Int32) (s0 : Nat) (h : MH) (P : MP), mFr d 51 61 loc ((.int a1) :: (.int a0) :: .ref b :: [.ref s0]) h P = if mrcv h b 7 = true then mRun d 56 [.ref b, .int a0, .int a1] h (fun v h' => mFr d 51 64 loc (v.toList ++ [.ref s0]) h' P) else False) ∧
  (∀ (d : Nat) (l0 : Option Value) (l1 : Option Value) (l3 : Option Value) (x : Int32) (st : List Value) (h : MH) (P : MP), mFr d 51 64 [l0, l1, some (.int x), l3] st h P = mFr d 51 65 [l0, l1, some (.int x), l3] (.int x :: st) h P) ∧
  (∀ (d : Nat) (loc : List (Option Value)) (b : Nat) (a0 : Int32) (a1 : Int32) (h : MH) (P : MP), mFr d 51 65 loc ((.int a1) :: (.int a0) :: .ref b :: []) h P = if mrcv h b 7 = true then mRun d 52 [.ref b, .int a0, .int a1] h (fun v h' => mFr d 51 68 loc (v.toList ++ []) h' P) else False) ∧
  (∀ (d : Nat) (loc : List (Option Value)) (st : List Value) (h : MH) (P : MP), mFr d 51 68 loc st h P = mFr d 51 110 loc (st) h P) := ⟨fun _ _ _ _ _ _ _ _ => (mFr_S mq51 h51_51).trans rfl,
  fun _ _ _ _ _ _ _ _ => (mFr_S mq51 h51_52).trans rfl,
  fun _ _ b a0 _ _ => F_callV (as := [.int a0]) (rest := []) mq51 (Or.inl h51_53) (rfl : _ = some (42, 6, 55, 0)) (Or.inl ⟨h51_53, by decide⟩) (by rfl) (by rfl) (by rfl) (Nat.le_of_ble_eq_true rfl),
  fun _ _ _ _ _ _ _ _ _ hm => (mFr_S mq51 h51_56).trans (by simp only [mgo.eq_1, mstep, mi1, ml1, mast, mst, mst2, mprev, List.length_cons, List.length_nil, List.getElem?_cons_succ, List.getElem?_cons_zero, hm]; rfl),
  fun _ _ _ _ _ _ _ _ => (mFr_S mq51 h51_57).trans rfl,
  fun _ _ _ _ _ _ _ _ => (mFr_S mq51 h51_58).trans rfl,
  fun _ _ _ _ _ _ _ _ => (mFr_S mq51 h51_59).trans rfl,
  fun _ _ _ _ _ _ _ _ => (mFr_S mq51 h51_60).trans rfl,
  fun _ _ b a0 a1 s0 _ _ => F_callV (as := [.int a0, .int a1]) (rest := [.ref s0]) mq51 (Or.inl h51_61) (rfl : _ = some (45, 6, 56, 0)) (Or.inl ⟨h51_61, by decide⟩) (by rfl) (by rfl) (by rfl) (Nat.le_of_ble_eq_true rfl),
  fun _ _ _ _ _ _ _ _ => (mFr_S mq51 h51_64).trans rfl,
  fun _ _ b a0 a1 _ _ => F_callV (as := [.int a0, .int a1]) (rest := []) mq51 (Or.inl h51_65) (rfl : _ = some (49, 6, 52, 0)) (Or.inl ⟨h51_65, by decide⟩) (by rfl) (by rfl) (by rfl) (Nat.le_of_ble_eq_true rfl),
  fun _ _ _ _ _ => F_goto 110 mq51 h51_68 (by decide)⟩
theorem E51_71 : (∀ (d : Nat) (l0 : Option Value) (l1 : Option Value) (l2 : Option Value) (x : Int32) (st : List Value) (h : MH) (P : MP), mFr d 51 71 [l0, l1, l2, some (.int x)] st h P = mFr d 51 72 [l0, l1, l2, some (.int x)] (.int x :: st) h P) ∧
  (∀ (d : Nat) (loc : List (Option Value)) (st : List Value) (h : MH) (P : MP), mFr d 51 72 loc st h P = mFr d 51 74 loc (.int 48 :: st) h P) ∧
  (∀ (d : Nat) (loc : List (Option Value)) (x y : Int32) (st : List Value) (h : MH) (P : MP), mFr d 51 74 loc (.int y :: .int x :: st) h P = mFr d 51 75 loc (.int (x - y) :: st) h P) ∧
  (∀ (d : Nat) (loc : List (Option Value)) (a0 : Int32) (h : MH) (P : MP), mFr d 51 75 loc ((.int a0) :: []) h P = mRun d 65 [.int a0] h (fun v h' => mFr d 51 78 loc (v.toList ++ []) h' P)) ∧
  (∀ (d : Nat) (loc : List (Option Value)) (x : Int32) (st : List Value) (h : MH) (P : MP), mFr d 51 78 loc (.int x :: st) h P = if x = 0 then mFr d 51 101 loc (st) h P else mFr d 51 81 loc (st) h P) := ⟨fun _ _ _ _ _ _ _ _ => (mFr_S mq51 h51_71).trans rfl,
  fun _ _ _ _ _ => (mFr_S mq51 h51_72).trans rfl,
  fun _ _ _ _ _ _ _ => (mFr_S mq51 h51_74).trans rfl,
  fun _ _ a0 _ _ => F_callS (as := [.int a0]) (rest := []) mq51 h51_75 (rfl : _ = some (53, 6, 65, 3)) (by decide) (by rfl) (by rfl) (by rfl) (Nat.le_of_ble_eq_true rfl),
  fun _ _ _ _ _ _ => (F_ifz 101 mq51 h51_78 (by decide)).trans mif_eq⟩
theorem E51_81 : (∀ (d : Nat) (l1 : Option Value) (l2 : Option Value) (l3 : Option Value) (x : Nat) (st : List Value) (h : MH) (P : MP), mFr d 51 81 [some (.ref x), l1, l2, l3] st h P = mFr d 51 82 [some (.ref x), l1, l2, l3] (.ref x :: st) h P) ∧
  (∀ (d : Nat) (l0 : Option Value) (l1 : Option Value) (l3 : Option Value) (x : Int32) (st : List Value) (h : MH) (P : MP), mFr d 51 82 [l0, l1, some (.int x), l3] st h P = mFr d 51 83 [l0, l1, some (.int x), l3] (.int x :: st) h P) ∧
  (∀ (d : Nat) (loc : List (Option Value)) (b : Nat) (a0 : Int32) (h : MH) (P : MP), mFr d 51 83 loc ((.int a0) :: .ref b :: []) h P = if mrcv h b 7 = true then mRun d 58 [.ref b, .int a0] h (fun v h' => mFr d 51 86 loc (v.toList ++ []) h' P) else False) ∧
  (∀ (d : Nat) (l0 : Option Value) (l1 : Option Value) (l2 : Option Value) (l3 : Option Value) (x : Int32) (st : List Value) (h : MH) (P : MP), mnl l0 = true → mFr d 51 86 [l0, l1, l2, l3] (.int x :: st) h P = mFr d 51 87 [l0, some (.int x), l2, l3] (st) h P) ∧
  (∀ (d : Nat) (l1 : Option Value) (l2 : Option Value) (l3 : Option Value) (x : Nat) (st : List Value) (h : MH) (P : MP), mFr d 51 87 [some (.ref x), l1, l2, l3] st h P = mFr d 51 88 [some (.ref x), l1, l2, l3] (.ref x :: st) h P) ∧
  (∀ (d : Nat) (l1 : Option Value) (l2 : Option Value) (l3 : Option Value) (x : Nat) (st : List Value) (h : MH) (P : MP), mFr d 51 88 [some (.ref x), l1, l2, l3] st h P = mFr d 51 89 [some (.ref x), l1, l2, l3] (.ref x :: st) h P) ∧
  (∀ (d : Nat) (l0 : Option Value) (l1 : Option Value) (l3 : Option Value) (x : Int32) (st : List Value) (h : MH) (P : MP), mFr d 51 89 [l0, l1, some (.int x), l3] st h P = mFr d 51 90 [l0, l1, some (.int x), l3] (.int x :: st) h P) ∧
  (∀ (d : Nat) (l0 : Option Value) (l2 : Option Value) (l3 : Option Value) (x : Int32) (st : List Value) (h : MH) (P : MP), mFr d 51 90 [l0, some (.int x), l2, l3] st h P = mFr d 51 91 [l0, some (.int x), l2, l3] (.int x :: st) h P) ∧
  (∀ (d : Nat) (loc : List (Option Value)) (b : Nat) (a0 : Int32) (a1 : Int32) (s0 : Nat) (h : MH) (P : MP), mFr d 51 91 loc ((.int a1) :: (.int a0) :: .ref b :: [.ref s0]) h P = if mrcv h b 7 = true then mRun d 59 [.ref b, .int a0, .int a1] h (fun v h' => mFr d 51 94 loc (v.toList ++ [.ref s0]) h' P) else False) ∧
  (∀ (d : Nat) (l0 : Option Value) (l1 : Option Value) (l3 : Option Value) (x : Int32) (st : List Value) (h : MH) (P : MP), mFr d 51 94 [l0, l1, some (.int x), l3] st h P = mFr d 51 95 [l0, l1, some (.int x), l3] (.int x :: st) h P) ∧
  (∀ (d : Nat) (loc : List (Option Value)) (b : Nat) (a0 : Int32) (a1 : Int32) (h : MH) (P : MP), mFr d 51 95 loc ((.int a1) :: (.int a0) :: .ref b :: []) h P = if mrcv h b 7 = true then mRun d 52 [.ref b, .int a0, .int a1] h (fun v h' => mFr d 51 98 loc (v.toList ++ []) h' P) else False) ∧
  (∀ (d : Nat) (loc : List (Option Value)) (st : List Value) (h : MH) (P : MP), mFr d 51 98 loc st h P = mFr d 51 110 loc (st) h P) := ⟨fun _ _ _ _ _ _ _ _ => (mFr_S mq51 h51_81).trans rfl,
  fun _ _ _ _ _ _ _ _ => (mFr_S mq51 h51_82).trans rfl,
  fun _ _ b a0 _ _ => F_callV (as := [.int a0]) (rest := []) mq51 (Or.inl h51_83) (rfl : _ = some (56, 6, 58, 0)) (Or.inl ⟨h51_83, by decide⟩) (by rfl) (by rfl) (by rfl) (Nat.le_of_ble_eq_true rfl),
  fun _ _ _ _ _ _ _ _ _ hm => (mFr_S mq51 h51_86).trans (by simp only [mgo.eq_1, mstep, mi1, ml1, mast, mst, mst2, mprev, List.length_cons, List.length_nil, List.getElem?_cons_succ, List.getElem?_cons_zero, hm]; rfl),
  fun _ _ _ _ _ _ _ _ => (mFr_S mq51 h51_87).trans rfl,
  fun _ _ _ _ _ _ _ _ => (mFr_S mq51 h51_88).trans rfl,
  fun _ _ _ _ _ _ _ _ => (mFr_S mq51 h51_89).trans rfl,
  fun _ _ _ _ _ _ _ _ => (mFr_S mq51 h51_90).trans rfl,
  fun _ _ b a0 a1 s0 _ _ => F_callV (as := [.int a0, .int a1]) (rest := [.ref s0]) mq51 (Or.inl h51_91) (rfl : _ = some (59, 6, 59, 0)) (Or.inl ⟨h51_91, by decide⟩) (by rfl) (by rfl) (by rfl) (Nat.le_of_ble_eq_true rfl),
  fun _ _ _ _ _ _ _ _ => (mFr_S mq51 h51_94).trans rfl,
  fun _ _ b a0 a1 _ _ => F_callV (as := [.int a0, .int a1]) (rest := []) mq51 (Or.inl h51_95) (rfl : _ = some (49, 6, 52, 0)) (Or.inl ⟨h51_95, by decide⟩) (by rfl) (by rfl) (by rfl) (Nat.le_of_ble_eq_true rfl),
  fun _ _ _ _ _ => F_goto 110 mq51 h51_98 (by decide)⟩
theorem E51_101 : (∀ (d : Nat) (l1 : Option Value) (l2 : Option Value) (l3 : Option Value) (x : Nat) (st : List Value) (h : MH) (P : MP), mFr d 51 101 [some (.ref x), l1, l2, l3] st h P = mFr d 51 102 [some (.ref x), l1, l2, l3] (.ref x :: st) h P) ∧
  (∀ (d : Nat) (l0 : Option Value) (l1 : Option Value) (l2 : Option Value) (x : Int32) (st : List Value) (h : MH) (P : MP), mFr d 51 102 [l0, l1, l2, some (.int x)] st h P = mFr d 51 103 [l0, l1, l2, some (.int x)] (.int x :: st) h P) ∧
  (∀ (d : Nat) (loc : List (Option Value)) (a0 : Int32) (s0 : Nat) (h : MH) (P : MP), mFr d 51 103 loc ((.int a0) :: [.ref s0]) h P = mRun d 60 [.int a0] h (fun v h' => mFr d 51 106 loc (v.toList ++ [.ref s0]) h' P)) ∧
  (∀ (d : Nat) (l0 : Option Value) (l1 : Option Value) (l3 : Option Value) (x : Int32) (st : List Value) (h : MH) (P : MP), mFr d 51 106 [l0, l1, some (.int x), l3] st h P = mFr d 51 107 [l0, l1, some (.int x), l3] (.int x :: st) h P) ∧
  (∀ (d : Nat) (loc : List (Option Value)) (b : Nat) (a0 : Int32) (a1 : Int32) (h : MH) (P : MP), mFr d 51 107 loc ((.int a1) :: (.int a0) :: .ref b :: []) h P = if mrcv h b 7 = true then mRun d 52 [.ref b, .int a0, .int a1] h (fun v h' => mFr d 51 110 loc (v.toList ++ []) h' P) else False) := ⟨fun _ _ _ _ _ _ _ _ => (mFr_S mq51 h51_101).trans rfl,
  fun _ _ _ _ _ _ _ _ => (mFr_S mq51 h51_102).trans rfl,
  fun _ _ a0 s0 _ _ => F_callS (as := [.int a0]) (rest := [.ref s0]) mq51 h51_103 (rfl : _ = some (62, 6, 60, 2)) (by decide) (by rfl) (by rfl) (by rfl) (Nat.le_of_ble_eq_true rfl),
  fun _ _ _ _ _ _ _ _ => (mFr_S mq51 h51_106).trans rfl,
  fun _ _ b a0 a1 _ _ => F_callV (as := [.int a0, .int a1]) (rest := []) mq51 (Or.inl h51_107) (rfl : _ = some (49, 6, 52, 0)) (Or.inl ⟨h51_107, by decide⟩) (by rfl) (by rfl) (by rfl) (Nat.le_of_ble_eq_true rfl)⟩
theorem E51_110 : (∀ (d : Nat) (l0 : Option Value) (l1 : Option Value) (l3 : Option Value) (x : Int32) (st : List Value) (h : MH) (P : MP), mnl l1 = true → mFr d 51 110 [l0, l1, some (.int x), l3] st h P = mFr d 51 113 [l0, l1, some (.int (x + 1)), l3] (st) h P) ∧
  (∀ (d : Nat) (loc : List (Option Value)) (st : List Value) (h : MH) (P : MP), mFr d 51 113 loc st h P = mFr d 51 9 loc (st) h P) := ⟨fun _ _ _ _ _ _ _ _ hm => (mFr_S mq51 h51_110).trans (by simp only [mgo.eq_1, mstep, mld, mst, mprev, List.length_cons, List.length_nil, List.getElem?_cons_succ, List.getElem?_cons_zero, hm]; rfl),
  fun _ _ _ _ _ => F_goto 9 mq51 h51_113 (by decide)⟩
theorem E51_116 : (∀ (d : Nat) (loc : List (Option Value)) (h : MH) (P : MP), mFr d 51 116 loc [] h P = P none h) := fun _ _ _ _ => (mFr_S mq51 h51_116).trans rfl
theorem B51 : ∀ (d : Nat) (b : Nat) (h : MH) (P : MP), mRun (d + 1) 51 [.ref b] h P = mFr d 51 0 [some (.ref b), none, none, none] [] h P := fun _ _ _ _ => mRun_S mq51 (Nat.le_of_ble_eq_true rfl)
-- 52: PuncturesAreViews$Tokens.add(II)V
def q52 : MI := (yX7_add, cX7_add, 3, none, 7, 2)
theorem mq52 : mtab[52]? = some q52 := rfl
theorem h52_0 : mfetch q52.2.1 0 = some (.aload_n 0) := by decide +kernel
theorem h52_1 : mfetch q52.2.1 1 = some (.getfield 22) := by decide +kernel
theorem h52_4 : mfetch q52.2.1 4 = some (.aload_n 0) := by decide +kernel
theorem h52_5 : mfetch q52.2.1 5 = some (.getfield 9) := by decide +kernel
theorem h52_8 : mfetch q52.2.1 8 = some (.arraylength) := by decide +kernel
theorem h52_9 : mfetch q52.2.1 9 = some (.if_icmp .ge 45) := by decide +kernel
theorem h52_12 : mfetch q52.2.1 12 = some (.aload_n 0) := by decide +kernel
theorem h52_13 : mfetch q52.2.1 13 = some (.getfield 22) := by decide +kernel
theorem h52_16 : mfetch q52.2.1 16 = some (.aload_n 0) := by decide +kernel
theorem h52_17 : mfetch q52.2.1 17 = some (.getfield 15) := by decide +kernel
theorem h52_20 : mfetch q52.2.1 20 = some (.arraylength) := by decide +kernel
theorem h52_21 : mfetch q52.2.1 21 = some (.if_icmp .ge 33) := by decide +kernel
theorem h52_24 : mfetch q52.2.1 24 = some (.aload_n 0) := by decide +kernel
theorem h52_25 : mfetch q52.2.1 25 = some (.getfield 9) := by decide +kernel
theorem h52_28 : mfetch q52.2.1 28 = some (.aload_n 0) := by decide +kernel
theorem h52_29 : mfetch q52.2.1 29 = some (.getfield 22) := by decide +kernel
theorem h52_32 : mfetch q52.2.1 32 = some (.iload_n 1) := by decide +kernel
theorem h52_33 : mfetch q52.2.1 33 = some (.iastore) := by decide +kernel
theorem h52_34 : mfetch q52.2.1 34 = some (.aload_n 0) := by decide +kernel
theorem h52_35 : mfetch q52.2.1 35 = some (.getfield 15) := by decide +kernel
theorem h52_38 : mfetch q52.2.1 38 = some (.aload_n 0) := by decide +kernel
theorem h52_39 : mfetch q52.2.1 39 = some (.getfield 22) := by decide +kernel
theorem h52_42 : mfetch q52.2.1 42 = some (.iload_n 2) := by decide +kernel
theorem h52_43 : mfetch q52.2.1 43 = some (.iastore) := by decide +kernel
theorem h52_44 : mfetch q52.2.1 44 = some (.aload_n 0) := by decide +kernel
theorem h52_45 : mfetch q52.2.1 45 = some (.dup) := by decide +kernel
theorem h52_46 : mfetch q52.2.1 46 = some (.getfield 22) := by decide +kernel
theorem h52_49 : mfetch q52.2.1 49 = some (.iconst 1) := by decide +kernel
theorem h52_50 : mfetch q52.2.1 50 = some (.iadd) := by decide +kernel
theorem h52_51 : mfetch q52.2.1 51 = some (.putfield 22) := by decide +kernel
theorem h52_54 : mfetch q52.2.1 54 = some (.return_) := by decide +kernel
theorem E52_0 : (∀ (d : Nat) (l1 : Option Value) (l2 : Option Value) (x : Nat) (st : List Value) (h : MH) (P : MP), mFr d 52 0 [some (.ref x), l1, l2] st h P = mFr d 52 1 [some (.ref x), l1, l2] (.ref x :: st) h P) ∧
  (∀ (d : Nat) (loc : List (Option Value)) (a : Nat) (st : List Value) (h : MH) (P : MP), mFr d 52 1 loc (.ref a :: st) h P = pget h a 7 2 (fun v => mFr d 52 4 loc (v :: st) h P)) ∧
  (∀ (d : Nat) (l1 : Option Value) (l2 : Option Value) (x : Nat) (st : List Value) (h : MH) (P : MP), mFr d 52 4 [some (.ref x), l1, l2] st h P = mFr d 52 5 [some (.ref x), l1, l2] (.ref x :: st) h P) ∧
  (∀ (d : Nat) (loc : List (Option Value)) (a : Nat) (st : List Value) (h : MH) (P : MP), mFr d 52 5 loc (.ref a :: st) h P = pget h a 7 0 (fun v => mFr d 52 8 loc (v :: st) h P)) ∧
  (∀ (d : Nat) (loc : List (Option Value)) (a : Nat) (st : List Value) (h : MH) (P : MP), mFr d 52 8 loc (.ref a :: st) h P = palen h a (fun n => mFr d 52 9 loc (.int (Int32.ofNat n) :: st) h P)) ∧
  (∀ (d : Nat) (loc : List (Option Value)) (x y : Int32) (st : List Value) (h : MH) (P : MP), mFr d 52 9 loc (.int y :: .int x :: st) h P = if x < y then mFr d 52 12 loc (st) h P else mFr d 52 54 loc (st) h P) := ⟨fun _ _ _ _ _ _ _ => (mFr_S mq52 h52_0).trans rfl,
  fun _ _ _ _ _ _ => F_get mq52 h52_1 (Or.inl (rfl : _ = some (22, 0, 7, 2))),
  fun _ _ _ _ _ _ _ => (mFr_S mq52 h52_4).trans rfl,
  fun _ _ _ _ _ _ => F_get mq52 h52_5 (Or.inl (rfl : _ = some (9, 0, 7, 0))),
  fun _ _ _ _ _ _ => F_alen mq52 h52_8,
  fun _ _ _ _ _ _ _ => (F_icmp 54 mq52 h52_9 (by decide)).trans mif_ge⟩
theorem E52_12 : (∀ (d : Nat) (l1 : Option Value) (l2 : Option Value) (x : Nat) (st : List Value) (h : MH) (P : MP), mFr d 52 12 [some (.ref x), l1, l2] st h P = mFr d 52 13 [some (.ref x), l1, l2] (.ref x :: st) h P) ∧
  (∀ (d : Nat) (loc : List (Option Value)) (a : Nat) (st : List Value) (h : MH) (P : MP), mFr d 52 13 loc (.ref a :: st) h P = pget h a 7 2 (fun v => mFr d 52 16 loc (v :: st) h P)) ∧
  (∀ (d : Nat) (l1 : Option Value) (l2 : Option Value) (x : Nat) (st : List Value) (h : MH) (P : MP), mFr d 52 16 [some (.ref x), l1, l2] st h P = mFr d 52 17 [some (.ref x), l1, l2] (.ref x :: st) h P) ∧
  (∀ (d : Nat) (loc : List (Option Value)) (a : Nat) (st : List Value) (h : MH) (P : MP), mFr d 52 17 loc (.ref a :: st) h P = pget h a 7 1 (fun v => mFr d 52 20 loc (v :: st) h P)) ∧
  (∀ (d : Nat) (loc : List (Option Value)) (a : Nat) (st : List Value) (h : MH) (P : MP), mFr d 52 20 loc (.ref a :: st) h P = palen h a (fun n => mFr d 52 21 loc (.int (Int32.ofNat n) :: st) h P)) ∧
  (∀ (d : Nat) (loc : List (Option Value)) (x y : Int32) (st : List Value) (h : MH) (P : MP), mFr d 52 21 loc (.int y :: .int x :: st) h P = if x < y then mFr d 52 24 loc (st) h P else mFr d 52 54 loc (st) h P) := ⟨fun _ _ _ _ _ _ _ => (mFr_S mq52 h52_12).trans rfl,
  fun _ _ _ _ _ _ => F_get mq52 h52_13 (Or.inl (rfl : _ = some (22, 0, 7, 2))),
  fun _ _ _ _ _ _ _ => (mFr_S mq52 h52_16).trans rfl,
  fun _ _ _ _ _ _ => F_get mq52 h52_17 (Or.inl (rfl : _ = some (15, 0, 7, 1))),
  fun _ _ _ _ _ _ => F_alen mq52 h52_20,
  fun _ _ _ _ _ _ _ => (F_icmp 54 mq52 h52_21 (by decide)).trans mif_ge⟩
theorem E52_24 : (∀ (d : Nat) (l1 : Option Value) (l2 : Option Value) (x : Nat) (st : List Value) (h : MH) (P : MP), mFr d 52 24 [some (.ref x), l1, l2] st h P = mFr d 52 25 [some (.ref x), l1, l2] (.ref x :: st) h P) ∧
  (∀ (d : Nat) (loc : List (Option Value)) (a : Nat) (st : List Value) (h : MH) (P : MP), mFr d 52 25 loc (.ref a :: st) h P = pget h a 7 0 (fun v => mFr d 52 28 loc (v :: st) h P)) ∧
  (∀ (d : Nat) (l1 : Option Value) (l2 : Option Value) (x : Nat) (st : List Value) (h : MH) (P : MP), mFr d 52 28 [some (.ref x), l1, l2] st h P = mFr d 52 29 [some (.ref x), l1, l2] (.ref x :: st) h P) ∧
  (∀ (d : Nat) (loc : List (Option Value)) (a : Nat) (st : List Value) (h : MH) (P : MP), mFr d 52 29 loc (.ref a :: st) h P = pget h a 7 2 (fun v => mFr d 52 32 loc (v :: st) h P)) ∧
  (∀ (d : Nat) (l0 : Option Value) (l2 : Option Value) (x : Int32) (st : List Value) (h : MH) (P : MP), mFr d 52 32 [l0, some (.int x), l2] st h P = mFr d 52 33 [l0, some (.int x), l2] (.int x :: st) h P) ∧
  (∀ (d : Nat) (loc : List (Option Value)) (a : Nat) (i x : Int32) (st : List Value) (h : MH) (P : MP), mFr d 52 33 loc (.int x :: .int i :: .ref a :: st) h P = pias h a i x (fun h' => mFr d 52 34 loc (st) h' P)) ∧
  (∀ (d : Nat) (l1 : Option Value) (l2 : Option Value) (x : Nat) (st : List Value) (h : MH) (P : MP), mFr d 52 34 [some (.ref x), l1, l2] st h P = mFr d 52 35 [some (.ref x), l1, l2] (.ref x :: st) h P) ∧
  (∀ (d : Nat) (loc : List (Option Value)) (a : Nat) (st : List Value) (h : MH) (P : MP), mFr d 52 35 loc (.ref a :: st) h P = pget h a 7 1 (fun v => mFr d 52 38 loc (v :: st) h P)) ∧
  (∀ (d : Nat) (l1 : Option Value) (l2 : Option Value) (x : Nat) (st : List Value) (h : MH) (P : MP), mFr d 52 38 [some (.ref x), l1, l2] st h P = mFr d 52 39 [some (.ref x), l1, l2] (.ref x :: st) h P) ∧
  (∀ (d : Nat) (loc : List (Option Value)) (a : Nat) (st : List Value) (h : MH) (P : MP), mFr d 52 39 loc (.ref a :: st) h P = pget h a 7 2 (fun v => mFr d 52 42 loc (v :: st) h P)) ∧
  (∀ (d : Nat) (l0 : Option Value) (l1 : Option Value) (x : Int32) (st : List Value) (h : MH) (P : MP), mFr d 52 42 [l0, l1, some (.int x)] st h P = mFr d 52 43 [l0, l1, some (.int x)] (.int x :: st) h P) ∧
  (∀ (d : Nat) (loc : List (Option Value)) (a : Nat) (i x : Int32) (st : List Value) (h : MH) (P : MP), mFr d 52 43 loc (.int x :: .int i :: .ref a :: st) h P = pias h a i x (fun h' => mFr d 52 44 loc (st) h' P)) ∧
  (∀ (d : Nat) (l1 : Option Value) (l2 : Option Value) (x : Nat) (st : List Value) (h : MH) (P : MP), mFr d 52 44 [some (.ref x), l1, l2] st h P = mFr d 52 45 [some (.ref x), l1, l2] (.ref x :: st) h P) ∧
  (∀ (d : Nat) (loc : List (Option Value)) (x : Nat) (st : List Value) (h : MH) (P : MP), mFr d 52 45 loc (.ref x :: st) h P = mFr d 52 46 loc (.ref x :: .ref x :: st) h P) ∧
  (∀ (d : Nat) (loc : List (Option Value)) (a : Nat) (st : List Value) (h : MH) (P : MP), mFr d 52 46 loc (.ref a :: st) h P = pget h a 7 2 (fun v => mFr d 52 49 loc (v :: st) h P)) ∧
  (∀ (d : Nat) (loc : List (Option Value)) (st : List Value) (h : MH) (P : MP), mFr d 52 49 loc st h P = mFr d 52 50 loc (.int 1 :: st) h P) ∧
  (∀ (d : Nat) (loc : List (Option Value)) (x y : Int32) (st : List Value) (h : MH) (P : MP), mFr d 52 50 loc (.int y :: .int x :: st) h P = mFr d 52 51 loc (.int (x + y) :: st) h P) ∧
  (∀ (d : Nat) (loc : List (Option Value)) (a : Nat) (x : Int32) (st : List Value) (h : MH) (P : MP), mFr d 52 51 loc (.int x :: .ref a :: st) h P = pput h a 7 2 (.int x) (fun h' => mFr d 52 54 loc (st) h' P)) := ⟨fun _ _ _ _ _ _ _ => (mFr_S mq52 h52_24).trans rfl,
  fun _ _ _ _ _ _ => F_get mq52 h52_25 (Or.inl (rfl : _ = some (9, 0, 7, 0))),
  fun _ _ _ _ _ _ _ => (mFr_S mq52 h52_28).trans rfl,
  fun _ _ _ _ _ _ => F_get mq52 h52_29 (Or.inl (rfl : _ = some (22, 0, 7, 2))),
  fun _ _ _ _ _ _ _ => (mFr_S mq52 h52_32).trans rfl,
  fun _ _ _ _ _ _ _ _ => F_iast mq52 h52_33,
  fun _ _ _ _ _ _ _ => (mFr_S mq52 h52_34).trans rfl,
  fun _ _ _ _ _ _ => F_get mq52 h52_35 (Or.inl (rfl : _ = some (15, 0, 7, 1))),
  fun _ _ _ _ _ _ _ => (mFr_S mq52 h52_38).trans rfl,
  fun _ _ _ _ _ _ => F_get mq52 h52_39 (Or.inl (rfl : _ = some (22, 0, 7, 2))),
  fun _ _ _ _ _ _ _ => (mFr_S mq52 h52_42).trans rfl,
  fun _ _ _ _ _ _ _ _ => F_iast mq52 h52_43,
  fun _ _ _ _ _ _ _ => (mFr_S mq52 h52_44).trans rfl,
  fun _ _ _ _ _ _ => (mFr_S mq52 h52_45).trans rfl,
  fun _ _ _ _ _ _ => F_get mq52 h52_46 (Or.inl (rfl : _ = some (22, 0, 7, 2))),
  fun _ _ _ _ _ => (mFr_S mq52 h52_49).trans rfl,
  fun _ _ _ _ _ _ _ => (mFr_S mq52 h52_50).trans rfl,
  fun _ _ _ _ _ _ _ => F_put mq52 h52_51 (Or.inl ⟨(rfl : _ = some (22, 0, 7, 2)), Or.inl rfl⟩)⟩
theorem E52_54 : (∀ (d : Nat) (loc : List (Option Value)) (h : MH) (P : MP), mFr d 52 54 loc [] h P = P none h) := fun _ _ _ _ => (mFr_S mq52 h52_54).trans rfl
theorem B52 : ∀ (d : Nat) (b : Nat) (a0 : Int32) (a1 : Int32) (h : MH) (P : MP), mRun (d + 1) 52 [.ref b, .int a0, .int a1] h P = mFr d 52 0 [some (.ref b), some (.int a0), some (.int a1)] [] h P := fun _ _ _ _ _ _ => mRun_S mq52 (Nat.le_of_ble_eq_true rfl)
-- 53: PuncturesAreViews$Tokens.isBlank(I)Z
def q53 : MI := (yX7_isBlank, cX7_isBlank, 1, (some .boolean), 7, 1)
theorem mq53 : mtab[53]? = some q53 := rfl
theorem h53_0 : mfetch q53.2.1 0 = some (.iload_n 0) := by decide +kernel
theorem h53_1 : mfetch q53.2.1 1 = some (.bipush 32) := by decide +kernel
theorem h53_3 : mfetch q53.2.1 3 = some (.if_icmp .eq 9) := by decide +kernel
theorem h53_6 : mfetch q53.2.1 6 = some (.iload_n 0) := by decide +kernel
theorem h53_7 : mfetch q53.2.1 7 = some (.bipush 10) := by decide +kernel
theorem h53_9 : mfetch q53.2.1 9 = some (.if_icmp .ne 7) := by decide +kernel
theorem h53_12 : mfetch q53.2.1 12 = some (.iconst 1) := by decide +kernel
theorem h53_13 : mfetch q53.2.1 13 = some (.goto 4) := by decide +kernel
theorem h53_16 : mfetch q53.2.1 16 = some (.iconst 0) := by decide +kernel
theorem h53_17 : mfetch q53.2.1 17 = some (.ireturn) := by decide +kernel
theorem E53_0 : (∀ (d : Nat) (x : Int32) (st : List Value) (h : MH) (P : MP), mFr d 53 0 [some (.int x)] st h P = mFr d 53 1 [some (.int x)] (.int x :: st) h P) ∧
  (∀ (d : Nat) (loc : List (Option Value)) (st : List Value) (h : MH) (P : MP), mFr d 53 1 loc st h P = mFr d 53 3 loc (.int 32 :: st) h P) ∧
  (∀ (d : Nat) (loc : List (Option Value)) (x y : Int32) (st : List Value) (h : MH) (P : MP), mFr d 53 3 loc (.int y :: .int x :: st) h P = if x = y then mFr d 53 12 loc (st) h P else mFr d 53 6 loc (st) h P) := ⟨fun _ _ _ _ _ => (mFr_S mq53 h53_0).trans rfl,
  fun _ _ _ _ _ => (mFr_S mq53 h53_1).trans rfl,
  fun _ _ _ _ _ _ _ => (F_icmp 12 mq53 h53_3 (by decide)).trans mif_eq⟩
theorem E53_6 : (∀ (d : Nat) (x : Int32) (st : List Value) (h : MH) (P : MP), mFr d 53 6 [some (.int x)] st h P = mFr d 53 7 [some (.int x)] (.int x :: st) h P) ∧
  (∀ (d : Nat) (loc : List (Option Value)) (st : List Value) (h : MH) (P : MP), mFr d 53 7 loc st h P = mFr d 53 9 loc (.int 10 :: st) h P) ∧
  (∀ (d : Nat) (loc : List (Option Value)) (x y : Int32) (st : List Value) (h : MH) (P : MP), mFr d 53 9 loc (.int y :: .int x :: st) h P = if x = y then mFr d 53 12 loc (st) h P else mFr d 53 16 loc (st) h P) := ⟨fun _ _ _ _ _ => (mFr_S mq53 h53_6).trans rfl,
  fun _ _ _ _ _ => (mFr_S mq53 h53_7).trans rfl,
  fun _ _ _ _ _ _ _ => (F_icmp 16 mq53 h53_9 (by decide)).trans mif_ne⟩
theorem E53_12 : (∀ (d : Nat) (loc : List (Option Value)) (st : List Value) (h : MH) (P : MP), mFr d 53 12 loc st h P = mFr d 53 13 loc (.int 1 :: st) h P) ∧
  (∀ (d : Nat) (loc : List (Option Value)) (st : List Value) (h : MH) (P : MP), mFr d 53 13 loc st h P = mFr d 53 17 loc (st) h P) := ⟨fun _ _ _ _ _ => (mFr_S mq53 h53_12).trans rfl,
  fun _ _ _ _ _ => F_goto 17 mq53 h53_13 (by decide)⟩
theorem E53_16 : (∀ (d : Nat) (loc : List (Option Value)) (st : List Value) (h : MH) (P : MP), mFr d 53 16 loc st h P = mFr d 53 17 loc (.int 0 :: st) h P) := fun _ _ _ _ _ => (mFr_S mq53 h53_16).trans rfl
theorem E53_17 : (∀ (d : Nat) (loc : List (Option Value)) (h : MH) (P : MP), mFr d 53 17 loc [.int 0] h P = P (some (.int 0)) h) ∧
  (∀ (d : Nat) (loc : List (Option Value)) (h : MH) (P : MP), mFr d 53 17 loc [.int 1] h P = P (some (.int 1)) h) ∧
  (∀ (d : Nat) (loc : List (Option Value)) (c : Prop) [Decidable c] (h : MH) (P : MP), mFr d 53 17 loc [.int (if c then 1 else 0)] h P = P (some (.int (if c then 1 else 0))) h) := ⟨fun _ _ _ _ => F_ret mq53 h53_17 rfl (by decide),
  fun _ _ _ _ => F_ret mq53 h53_17 rfl (by decide),
  fun _ _ _ _ _ _ => F_ret mq53 h53_17 rfl (by split <;> decide)⟩
theorem B53 : ∀ (d : Nat) (a0 : Int32) (h : MH) (P : MP), mRun (d + 1) 53 [.int a0] h P = mFr d 53 0 [some (.int a0)] [] h P := fun _ _ _ _ => mRun_S mq53 (Nat.le_of_ble_eq_true rfl)
-- 54: PuncturesAreViews$Tokens.isLetter(I)Z
def q54 : MI := (yX7_isLetter, cX7_isLetter, 1, (some .boolean), 7, 1)
theorem mq54 : mtab[54]? = some q54 := rfl
theorem h54_0 : mfetch q54.2.1 0 = some (.iload_n 0) := by decide +kernel
theorem h54_1 : mfetch q54.2.1 1 = some (.bipush 97) := by decide +kernel
theorem h54_3 : mfetch q54.2.1 3 = some (.if_icmp .lt 13) := by decide +kernel
theorem h54_6 : mfetch q54.2.1 6 = some (.iload_n 0) := by decide +kernel
theorem h54_7 : mfetch q54.2.1 7 = some (.bipush 122) := by decide +kernel
theorem h54_9 : mfetch q54.2.1 9 = some (.if_icmp .gt 7) := by decide +kernel
theorem h54_12 : mfetch q54.2.1 12 = some (.iconst 1) := by decide +kernel
theorem h54_13 : mfetch q54.2.1 13 = some (.goto 4) := by decide +kernel
theorem h54_16 : mfetch q54.2.1 16 = some (.iconst 0) := by decide +kernel
theorem h54_17 : mfetch q54.2.1 17 = some (.ireturn) := by decide +kernel
theorem E54_0 : (∀ (d : Nat) (x : Int32) (st : List Value) (h : MH) (P : MP), mFr d 54 0 [some (.int x)] st h P = mFr d 54 1 [some (.int x)] (.int x :: st) h P) ∧
  (∀ (d : Nat) (loc : List (Option Value)) (st : List Value) (h : MH) (P : MP), mFr d 54 1 loc st h P = mFr d 54 3 loc (.int 97 :: st) h P) ∧
  (∀ (d : Nat) (loc : List (Option Value)) (x y : Int32) (st : List Value) (h : MH) (P : MP), mFr d 54 3 loc (.int y :: .int x :: st) h P = if x < y then mFr d 54 16 loc (st) h P else mFr d 54 6 loc (st) h P) := ⟨fun _ _ _ _ _ => (mFr_S mq54 h54_0).trans rfl,
  fun _ _ _ _ _ => (mFr_S mq54 h54_1).trans rfl,
  fun _ _ _ _ _ _ _ => (F_icmp 16 mq54 h54_3 (by decide)).trans mif_lt⟩
theorem E54_6 : (∀ (d : Nat) (x : Int32) (st : List Value) (h : MH) (P : MP), mFr d 54 6 [some (.int x)] st h P = mFr d 54 7 [some (.int x)] (.int x :: st) h P) ∧
  (∀ (d : Nat) (loc : List (Option Value)) (st : List Value) (h : MH) (P : MP), mFr d 54 7 loc st h P = mFr d 54 9 loc (.int 122 :: st) h P) ∧
  (∀ (d : Nat) (loc : List (Option Value)) (x y : Int32) (st : List Value) (h : MH) (P : MP), mFr d 54 9 loc (.int y :: .int x :: st) h P = if y < x then mFr d 54 16 loc (st) h P else mFr d 54 12 loc (st) h P) := ⟨fun _ _ _ _ _ => (mFr_S mq54 h54_6).trans rfl,
  fun _ _ _ _ _ => (mFr_S mq54 h54_7).trans rfl,
  fun _ _ _ _ _ _ _ => (F_icmp 16 mq54 h54_9 (by decide)).trans mif_gt⟩
theorem E54_12 : (∀ (d : Nat) (loc : List (Option Value)) (st : List Value) (h : MH) (P : MP), mFr d 54 12 loc st h P = mFr d 54 13 loc (.int 1 :: st) h P) ∧
  (∀ (d : Nat) (loc : List (Option Value)) (st : List Value) (h : MH) (P : MP), mFr d 54 13 loc st h P = mFr d 54 17 loc (st) h P) := ⟨fun _ _ _ _ _ => (mFr_S mq54 h54_12).trans rfl,
  fun _ _ _ _ _ => F_goto 17 mq54 h54_13 (by decide)⟩
theorem E54_16 : (∀ (d : Nat) (loc : List (Option Value)) (st : List Value) (h : MH) (P : MP), mFr d 54 16 loc st h P = mFr d 54 17 loc (.int 0 :: st) h P) := fun _ _ _ _ _ => (mFr_S mq54 h54_16).trans rfl
theorem E54_17 : (∀ (d : Nat) (loc : List (Option Value)) (h : MH) (P : MP), mFr d 54 17 loc [.int 0] h P = P (some (.int 0)) h) ∧
  (∀ (d : Nat) (loc : List (Option Value)) (h : MH) (P : MP), mFr d 54 17 loc [.int 1] h P = P (some (.int 1)) h) ∧
  (∀ (d : Nat) (loc : List (Option Value)) (c : Prop) [Decidable c] (h : MH) (P : MP), mFr d 54 17 loc [.int (if c then 1 else 0)] h P = P (some (.int (if c then 1 else 0))) h) := ⟨fun _ _ _ _ => F_ret mq54 h54_17 rfl (by decide),
  fun _ _ _ _ => F_ret mq54 h54_17 rfl (by decide),
  fun _ _ _ _ _ _ => F_ret mq54 h54_17 rfl (by split <;> decide)⟩
theorem B54 : ∀ (d : Nat) (a0 : Int32) (h : MH) (P : MP), mRun (d + 1) 54 [.int a0] h P = mFr d 54 0 [some (.int a0)] [] h P := fun _ _ _ _ => mRun_S mq54 (Nat.le_of_ble_eq_true rfl)
-- 55: PuncturesAreViews$Tokens.wordEnd(I)I loops at [4]
def q55 : MI := (yX7_wordEnd, cX7_wordEnd, 3, (some .int), 7, 1)
theorem mq55 : mtab[55]? = some q55 := rfl
theorem h55_0 : mfetch q55.2.1 0 = some (.iload_n 1) := by decide +kernel
theorem h55_1 : mfetch q55.2.1 1 = some (.iconst 1) := by decide +kernel
theorem h55_2 : mfetch q55.2.1 2 = some (.iadd) := by decide +kernel
theorem h55_3 : mfetch q55.2.1 3 = some (.istore_n 2) := by decide +kernel
theorem h55_4 : mfetch q55.2.1 4 = some (.iload_n 2) := by decide +kernel
theorem h55_5 : mfetch q55.2.1 5 = some (.aload_n 0) := by decide +kernel
theorem h55_6 : mfetch q55.2.1 6 = some (.getfield 18) := by decide +kernel
theorem h55_9 : mfetch q55.2.1 9 = some (.getfield 26) := by decide +kernel
theorem h55_12 : mfetch q55.2.1 12 = some (.if_icmp .ge 23) := by decide +kernel
theorem h55_15 : mfetch q55.2.1 15 = some (.aload_n 0) := by decide +kernel
theorem h55_16 : mfetch q55.2.1 16 = some (.getfield 18) := by decide +kernel
theorem h55_19 : mfetch q55.2.1 19 = some (.iload_n 2) := by decide +kernel
theorem h55_20 : mfetch q55.2.1 20 = some (.invokevirtual 31) := by decide +kernel
theorem h55_23 : mfetch q55.2.1 23 = some (.invokestatic 39) := by decide +kernel
theorem h55_26 : mfetch q55.2.1 26 = some (.ifCond .eq 9) := by decide +kernel
theorem h55_29 : mfetch q55.2.1 29 = some (.iinc 2 1) := by decide +kernel
theorem h55_32 : mfetch q55.2.1 32 = some (.goto (-28)) := by decide +kernel
theorem h55_35 : mfetch q55.2.1 35 = some (.iload_n 2) := by decide +kernel
theorem h55_36 : mfetch q55.2.1 36 = some (.ireturn) := by decide +kernel
theorem E55_0 : (∀ (d : Nat) (l0 : Option Value) (l2 : Option Value) (x : Int32) (st : List Value) (h : MH) (P : MP), mFr d 55 0 [l0, some (.int x), l2] st h P = mFr d 55 1 [l0, some (.int x), l2] (.int x :: st) h P) ∧
  (∀ (d : Nat) (loc : List (Option Value)) (st : List Value) (h : MH) (P : MP), mFr d 55 1 loc st h P = mFr d 55 2 loc (.int 1 :: st) h P) ∧
  (∀ (d : Nat) (loc : List (Option Value)) (x y : Int32) (st : List Value) (h : MH) (P : MP), mFr d 55 2 loc (.int y :: .int x :: st) h P = mFr d 55 3 loc (.int (x + y) :: st) h P) ∧
  (∀ (d : Nat) (l0 : Option Value) (l1 : Option Value) (l2 : Option Value) (x : Int32) (st : List Value) (h : MH) (P : MP), mnl l1 = true → mFr d 55 3 [l0, l1, l2] (.int x :: st) h P = mFr d 55 4 [l0, l1, some (.int x)] (st) h P) := ⟨fun _ _ _ _ _ _ _ => (mFr_S mq55 h55_0).trans rfl,
  fun _ _ _ _ _ => (mFr_S mq55 h55_1).trans rfl,
  fun _ _ _ _ _ _ _ => (mFr_S mq55 h55_2).trans rfl,
  fun _ _ _ _ _ _ _ _ hm => (mFr_S mq55 h55_3).trans (by simp only [mgo.eq_1, mstep, mi1, ml1, mast, mst, mst2, mprev, List.length_cons, List.length_nil, List.getElem?_cons_succ, List.getElem?_cons_zero, hm]; rfl)⟩
theorem E55_4 : (∀ (d : Nat) (l0 : Option Value) (l1 : Option Value) (x : Int32) (st : List Value) (h : MH) (P : MP), mFr d 55 4 [l0, l1, some (.int x)] st h P = mFr d 55 5 [l0, l1, some (.int x)] (.int x :: st) h P) ∧
  (∀ (d : Nat) (l1 : Option Value) (l2 : Option Value) (x : Nat) (st : List Value) (h : MH) (P : MP), mFr d 55 5 [some (.ref x), l1, l2] st h P = mFr d 55 6 [some (.ref x), l1, l2] (.ref x :: st) h P) ∧
  (∀ (d : Nat) (loc : List (Option Value)) (a : Nat) (st : List Value) (h : MH) (P : MP), mFr d 55 6 loc (.ref a :: st) h P = pget h a 7 3 (fun v => mFr d 55 9 loc (v :: st) h P)) ∧
  (∀ (d : Nat) (loc : List (Option Value)) (a : Nat) (st : List Value) (h : MH) (P : MP), mFr d 55 9 loc (.ref a :: st) h P = pget h a 4 1 (fun v => mFr d 55 12 loc (v :: st) h P)) ∧
  (∀ (d : Nat) (loc : List (Option Value)) (x y : Int32) (st : List Value) (h : MH) (P : MP), mFr d 55 12 loc (.int y :: .int x :: st) h P = if x < y then mFr d 55 15 loc (st) h P else mFr d 55 35 loc (st) h P) := ⟨fun _ _ _ _ _ _ _ => (mFr_S mq55 h55_4).trans rfl,
  fun _ _ _ _ _ _ _ => (mFr_S mq55 h55_5).trans rfl,
  fun _ _ _ _ _ _ => F_get mq55 h55_6 (Or.inl (rfl : _ = some (18, 0, 7, 3))),
  fun _ _ _ _ _ _ => F_get mq55 h55_9 (Or.inr (rfl : _ = some (26, 1, 4, 1))),
  fun _ _ _ _ _ _ _ => (F_icmp 35 mq55 h55_12 (by decide)).trans mif_ge⟩
theorem E55_15 : (∀ (d : Nat) (l1 : Option Value) (l2 : Option Value) (x : Nat) (st : List Value) (h : MH) (P : MP), mFr d 55 15 [some (.ref x), l1, l2] st h P = mFr d 55 16 [some (.ref x), l1, l2] (.ref x :: st) h P) ∧
  (∀ (d : Nat) (loc : List (Option Value)) (a : Nat) (st : List Value) (h : MH) (P : MP), mFr d 55 16 loc (.ref a :: st) h P = pget h a 7 3 (fun v => mFr d 55 19 loc (v :: st) h P)) ∧
  (∀ (d : Nat) (l0 : Option Value) (l1 : Option Value) (x : Int32) (st : List Value) (h : MH) (P : MP), mFr d 55 19 [l0, l1, some (.int x)] st h P = mFr d 55 20 [l0, l1, some (.int x)] (.int x :: st) h P) ∧
  (∀ (d : Nat) (loc : List (Option Value)) (b : Nat) (a0 : Int32) (h : MH) (P : MP), mFr d 55 20 loc ((.int a0) :: .ref b :: []) h P = if mrcv h b 4 = true then mRun d 28 [.ref b, .int a0] h (fun v h' => mFr d 55 23 loc (v.toList ++ []) h' P) else False) ∧
  (∀ (d : Nat) (loc : List (Option Value)) (a0 : Int32) (h : MH) (P : MP), mFr d 55 23 loc ((.int a0) :: []) h P = mRun d 54 [.int a0] h (fun v h' => mFr d 55 26 loc (v.toList ++ []) h' P)) ∧
  (∀ (d : Nat) (loc : List (Option Value)) (x : Int32) (st : List Value) (h : MH) (P : MP), mFr d 55 26 loc (.int x :: st) h P = if x = 0 then mFr d 55 35 loc (st) h P else mFr d 55 29 loc (st) h P) := ⟨fun _ _ _ _ _ _ _ => (mFr_S mq55 h55_15).trans rfl,
  fun _ _ _ _ _ _ => F_get mq55 h55_16 (Or.inl (rfl : _ = some (18, 0, 7, 3))),
  fun _ _ _ _ _ _ _ => (mFr_S mq55 h55_19).trans rfl,
  fun _ _ b a0 _ _ => F_callV (as := [.int a0]) (rest := []) mq55 (Or.inl h55_20) (rfl : _ = some (31, 6, 28, 1)) (Or.inl ⟨h55_20, by decide⟩) (by rfl) (by rfl) (by rfl) (Nat.le_of_ble_eq_true rfl),
  fun _ _ a0 _ _ => F_callS (as := [.int a0]) (rest := []) mq55 h55_23 (rfl : _ = some (39, 6, 54, 2)) (by decide) (by rfl) (by rfl) (by rfl) (Nat.le_of_ble_eq_true rfl),
  fun _ _ _ _ _ _ => (F_ifz 35 mq55 h55_26 (by decide)).trans mif_eq⟩
theorem E55_29 : (∀ (d : Nat) (l0 : Option Value) (l1 : Option Value) (x : Int32) (st : List Value) (h : MH) (P : MP), mnl l1 = true → mFr d 55 29 [l0, l1, some (.int x)] st h P = mFr d 55 32 [l0, l1, some (.int (x + 1))] (st) h P) ∧
  (∀ (d : Nat) (loc : List (Option Value)) (st : List Value) (h : MH) (P : MP), mFr d 55 32 loc st h P = mFr d 55 4 loc (st) h P) := ⟨fun _ _ _ _ _ _ _ hm => (mFr_S mq55 h55_29).trans (by simp only [mgo.eq_1, mstep, mld, mst, mprev, List.length_cons, List.length_nil, List.getElem?_cons_succ, List.getElem?_cons_zero, hm]; rfl),
  fun _ _ _ _ _ => F_goto 4 mq55 h55_32 (by decide)⟩
theorem E55_35 : (∀ (d : Nat) (l0 : Option Value) (l1 : Option Value) (x : Int32) (st : List Value) (h : MH) (P : MP), mFr d 55 35 [l0, l1, some (.int x)] st h P = mFr d 55 36 [l0, l1, some (.int x)] (.int x :: st) h P) ∧
  (∀ (d : Nat) (loc : List (Option Value)) (x : Int32) (h : MH) (P : MP), mFr d 55 36 loc [.int x] h P = P (some (.int x)) h) := ⟨fun _ _ _ _ _ _ _ => (mFr_S mq55 h55_35).trans rfl,
  fun _ _ _ _ _ => F_ret mq55 h55_36 rfl rfl⟩
theorem B55 : ∀ (d : Nat) (b : Nat) (a0 : Int32) (h : MH) (P : MP), mRun (d + 1) 55 [.ref b, .int a0] h P = mFr d 55 0 [some (.ref b), some (.int a0), none] [] h P := fun _ _ _ _ _ => mRun_S mq55 (Nat.le_of_ble_eq_true rfl)
-- 56: PuncturesAreViews$Tokens.word(II)I loops at [2]
def q56 : MI := (yX7_word, cX7_word, 4, (some .int), 7, 2)
theorem mq56 : mtab[56]? = some q56 := rfl
theorem h56_0 : mfetch q56.2.1 0 = some (.iconst 0) := by decide +kernel
theorem h56_1 : mfetch q56.2.1 1 = some (.istore_n 3) := by decide +kernel
theorem h56_2 : mfetch q56.2.1 2 = some (.iload_n 3) := by decide +kernel
theorem h56_3 : mfetch q56.2.1 3 = some (.ldc 65) := by decide +kernel
theorem h56_5 : mfetch q56.2.1 5 = some (.invokevirtual 67) := by decide +kernel
theorem h56_8 : mfetch q56.2.1 8 = some (.bipush 8) := by decide +kernel
theorem h56_10 : mfetch q56.2.1 10 = some (.idiv) := by decide +kernel
theorem h56_11 : mfetch q56.2.1 11 = some (.if_icmp .ge 21) := by decide +kernel
theorem h56_14 : mfetch q56.2.1 14 = some (.aload_n 0) := by decide +kernel
theorem h56_15 : mfetch q56.2.1 15 = some (.iload_n 3) := by decide +kernel
theorem h56_16 : mfetch q56.2.1 16 = some (.iload_n 1) := by decide +kernel
theorem h56_17 : mfetch q56.2.1 17 = some (.iload_n 2) := by decide +kernel
theorem h56_18 : mfetch q56.2.1 18 = some (.invokevirtual 73) := by decide +kernel
theorem h56_21 : mfetch q56.2.1 21 = some (.ifCond .eq 5) := by decide +kernel
theorem h56_24 : mfetch q56.2.1 24 = some (.iload_n 3) := by decide +kernel
theorem h56_25 : mfetch q56.2.1 25 = some (.ireturn) := by decide +kernel
theorem h56_26 : mfetch q56.2.1 26 = some (.iinc 3 1) := by decide +kernel
theorem h56_29 : mfetch q56.2.1 29 = some (.goto (-27)) := by decide +kernel
theorem h56_32 : mfetch q56.2.1 32 = some (.bipush 21) := by decide +kernel
theorem h56_34 : mfetch q56.2.1 34 = some (.ireturn) := by decide +kernel
theorem E56_0 : (∀ (d : Nat) (loc : List (Option Value)) (st : List Value) (h : MH) (P : MP), mFr d 56 0 loc st h P = mFr d 56 1 loc (.int 0 :: st) h P) ∧
  (∀ (d : Nat) (l0 : Option Value) (l1 : Option Value) (l2 : Option Value) (l3 : Option Value) (x : Int32) (st : List Value) (h : MH) (P : MP), mnl l2 = true → mFr d 56 1 [l0, l1, l2, l3] (.int x :: st) h P = mFr d 56 2 [l0, l1, l2, some (.int x)] (st) h P) := ⟨fun _ _ _ _ _ => (mFr_S mq56 h56_0).trans rfl,
  fun _ _ _ _ _ _ _ _ _ hm => (mFr_S mq56 h56_1).trans (by simp only [mgo.eq_1, mstep, mi1, ml1, mast, mst, mst2, mprev, List.length_cons, List.length_nil, List.getElem?_cons_succ, List.getElem?_cons_zero, hm]; rfl)⟩
theorem E56_2 : (∀ (d : Nat) (l0 : Option Value) (l1 : Option Value) (l2 : Option Value) (x : Int32) (st : List Value) (h : MH) (P : MP), mFr d 56 2 [l0, l1, l2, some (.int x)] st h P = mFr d 56 3 [l0, l1, l2, some (.int x)] (.int x :: st) h P) ∧
  (∀ (d : Nat) (loc : List (Option Value)) (st : List Value) (h : MH) (P : MP), mFr d 56 3 loc st h P = mFr d 56 5 loc (.ref 1011 :: st) h P) ∧
  (∀ (d : Nat) (loc : List (Option Value)) (b : Nat) (s0 : Int32) (h : MH) (P : MP), mFr d 56 5 loc (.ref b :: [.int s0]) h P = if mrcv h b 10 = true then mRun d 192 [.ref b] h (fun v h' => mFr d 56 8 loc (v.toList ++ [.int s0]) h' P) else False) ∧
  (∀ (d : Nat) (loc : List (Option Value)) (st : List Value) (h : MH) (P : MP), mFr d 56 8 loc st h P = mFr d 56 10 loc (.int 8 :: st) h P) ∧
  (∀ (d : Nat) (loc : List (Option Value)) (x y : Int32) (st : List Value) (h : MH) (P : MP), mFr d 56 10 loc (.int y :: .int x :: st) h P = if y = 0 then False else mFr d 56 11 loc (.int (x / y) :: st) h P) ∧
  (∀ (d : Nat) (loc : List (Option Value)) (x y : Int32) (st : List Value) (h : MH) (P : MP), mFr d 56 11 loc (.int y :: .int x :: st) h P = if x < y then mFr d 56 14 loc (st) h P else mFr d 56 32 loc (st) h P) := ⟨fun _ _ _ _ _ _ _ _ => (mFr_S mq56 h56_2).trans rfl,
  fun _ _ _ _ _ => (mFr_S mq56 h56_3).trans rfl,
  fun _ _ b s0 _ _ => F_callV (as := []) (rest := [.int s0]) mq56 (Or.inl h56_5) (rfl : _ = some (67, 6, 192, 0)) (Or.inl ⟨h56_5, by decide⟩) (by rfl) (by rfl) (by rfl) (Nat.le_of_ble_eq_true rfl),
  fun _ _ _ _ _ => (mFr_S mq56 h56_8).trans rfl,
  fun _ _ _ _ _ _ _ => F_div mq56 h56_10,
  fun _ _ _ _ _ _ _ => (F_icmp 32 mq56 h56_11 (by decide)).trans mif_ge⟩
theorem E56_14 : (∀ (d : Nat) (l1 : Option Value) (l2 : Option Value) (l3 : Option Value) (x : Nat) (st : List Value) (h : MH) (P : MP), mFr d 56 14 [some (.ref x), l1, l2, l3] st h P = mFr d 56 15 [some (.ref x), l1, l2, l3] (.ref x :: st) h P) ∧
  (∀ (d : Nat) (l0 : Option Value) (l1 : Option Value) (l2 : Option Value) (x : Int32) (st : List Value) (h : MH) (P : MP), mFr d 56 15 [l0, l1, l2, some (.int x)] st h P = mFr d 56 16 [l0, l1, l2, some (.int x)] (.int x :: st) h P) ∧
  (∀ (d : Nat) (l0 : Option Value) (l2 : Option Value) (l3 : Option Value) (x : Int32) (st : List Value) (h : MH) (P : MP), mFr d 56 16 [l0, some (.int x), l2, l3] st h P = mFr d 56 17 [l0, some (.int x), l2, l3] (.int x :: st) h P) ∧
  (∀ (d : Nat) (l0 : Option Value) (l1 : Option Value) (l3 : Option Value) (x : Int32) (st : List Value) (h : MH) (P : MP), mFr d 56 17 [l0, l1, some (.int x), l3] st h P = mFr d 56 18 [l0, l1, some (.int x), l3] (.int x :: st) h P) ∧
  (∀ (d : Nat) (loc : List (Option Value)) (b : Nat) (a0 : Int32) (a1 : Int32) (a2 : Int32) (h : MH) (P : MP), mFr d 56 18 loc ((.int a2) :: (.int a1) :: (.int a0) :: .ref b :: []) h P = if mrcv h b 7 = true then mRun d 57 [.ref b, .int a0, .int a1, .int a2] h (fun v h' => mFr d 56 21 loc (v.toList ++ []) h' P) else False) ∧
  (∀ (d : Nat) (loc : List (Option Value)) (x : Int32) (st : List Value) (h : MH) (P : MP), mFr d 56 21 loc (.int x :: st) h P = if x = 0 then mFr d 56 26 loc (st) h P else mFr d 56 24 loc (st) h P) := ⟨fun _ _ _ _ _ _ _ _ => (mFr_S mq56 h56_14).trans rfl,
  fun _ _ _ _ _ _ _ _ => (mFr_S mq56 h56_15).trans rfl,
  fun _ _ _ _ _ _ _ _ => (mFr_S mq56 h56_16).trans rfl,
  fun _ _ _ _ _ _ _ _ => (mFr_S mq56 h56_17).trans rfl,
  fun _ _ b a0 a1 a2 _ _ => F_callV (as := [.int a0, .int a1, .int a2]) (rest := []) mq56 (Or.inl h56_18) (rfl : _ = some (73, 6, 57, 0)) (Or.inl ⟨h56_18, by decide⟩) (by rfl) (by rfl) (by rfl) (Nat.le_of_ble_eq_true rfl),
  fun _ _ _ _ _ _ => (F_ifz 26 mq56 h56_21 (by decide)).trans mif_eq⟩
theorem E56_24 : (∀ (d : Nat) (l0 : Option Value) (l1 : Option Value) (l2 : Option Value) (x : Int32) (st : List Value) (h : MH) (P : MP), mFr d 56 24 [l0, l1, l2, some (.int x)] st h P = mFr d 56 25 [l0, l1, l2, some (.int x)] (.int x :: st) h P) ∧
  (∀ (d : Nat) (loc : List (Option Value)) (x : Int32) (h : MH) (P : MP), mFr d 56 25 loc [.int x] h P = P (some (.int x)) h) := ⟨fun _ _ _ _ _ _ _ _ => (mFr_S mq56 h56_24).trans rfl,
  fun _ _ _ _ _ => F_ret mq56 h56_25 rfl rfl⟩
theorem E56_26 : (∀ (d : Nat) (l0 : Option Value) (l1 : Option Value) (l2 : Option Value) (x : Int32) (st : List Value) (h : MH) (P : MP), mnl l2 = true → mFr d 56 26 [l0, l1, l2, some (.int x)] st h P = mFr d 56 29 [l0, l1, l2, some (.int (x + 1))] (st) h P) ∧
  (∀ (d : Nat) (loc : List (Option Value)) (st : List Value) (h : MH) (P : MP), mFr d 56 29 loc st h P = mFr d 56 2 loc (st) h P) := ⟨fun _ _ _ _ _ _ _ _ hm => (mFr_S mq56 h56_26).trans (by simp only [mgo.eq_1, mstep, mld, mst, mprev, List.length_cons, List.length_nil, List.getElem?_cons_succ, List.getElem?_cons_zero, hm]; rfl),
  fun _ _ _ _ _ => F_goto 2 mq56 h56_29 (by decide)⟩
theorem E56_32 : (∀ (d : Nat) (loc : List (Option Value)) (st : List Value) (h : MH) (P : MP), mFr d 56 32 loc st h P = mFr d 56 34 loc (.int 21 :: st) h P) ∧
  (∀ (d : Nat) (loc : List (Option Value)) (x : Int32) (h : MH) (P : MP), mFr d 56 34 loc [.int x] h P = P (some (.int x)) h) := ⟨fun _ _ _ _ _ => (mFr_S mq56 h56_32).trans rfl,
  fun _ _ _ _ _ => F_ret mq56 h56_34 rfl rfl⟩
theorem B56 : ∀ (d : Nat) (b : Nat) (a0 : Int32) (a1 : Int32) (h : MH) (P : MP), mRun (d + 1) 56 [.ref b, .int a0, .int a1] h P = mFr d 56 0 [some (.ref b), some (.int a0), some (.int a1), none] [] h P := fun _ _ _ _ _ _ => mRun_S mq56 (Nat.le_of_ble_eq_true rfl)
-- 57: PuncturesAreViews$Tokens.spells(III)Z loops at [13]
def q57 : MI := (yX7_spells, cX7_spells, 6, (some .boolean), 7, 3)
theorem mq57 : mtab[57]? = some q57 := rfl
theorem h57_0 : mfetch q57.2.1 0 = some (.iload_n 3) := by decide +kernel
theorem h57_1 : mfetch q57.2.1 1 = some (.iload_n 2) := by decide +kernel
theorem h57_2 : mfetch q57.2.1 2 = some (.isub) := by decide +kernel
theorem h57_3 : mfetch q57.2.1 3 = some (.bipush 8) := by decide +kernel
theorem h57_5 : mfetch q57.2.1 5 = some (.if_icmp .lt 5) := by decide +kernel
theorem h57_8 : mfetch q57.2.1 8 = some (.iconst 0) := by decide +kernel
theorem h57_9 : mfetch q57.2.1 9 = some (.ireturn) := by decide +kernel
theorem h57_10 : mfetch q57.2.1 10 = some (.iconst 0) := by decide +kernel
theorem h57_11 : mfetch q57.2.1 11 = some (.istore 4) := by decide +kernel
theorem h57_13 : mfetch q57.2.1 13 = some (.iload 4) := by decide +kernel
theorem h57_15 : mfetch q57.2.1 15 = some (.bipush 8) := by decide +kernel
theorem h57_17 : mfetch q57.2.1 17 = some (.if_icmp .ge 54) := by decide +kernel
theorem h57_20 : mfetch q57.2.1 20 = some (.iload_n 2) := by decide +kernel
theorem h57_21 : mfetch q57.2.1 21 = some (.iload 4) := by decide +kernel
theorem h57_23 : mfetch q57.2.1 23 = some (.iadd) := by decide +kernel
theorem h57_24 : mfetch q57.2.1 24 = some (.iload_n 3) := by decide +kernel
theorem h57_25 : mfetch q57.2.1 25 = some (.if_icmp .ge 17) := by decide +kernel
theorem h57_28 : mfetch q57.2.1 28 = some (.aload_n 0) := by decide +kernel
theorem h57_29 : mfetch q57.2.1 29 = some (.getfield 18) := by decide +kernel
theorem h57_32 : mfetch q57.2.1 32 = some (.iload_n 2) := by decide +kernel
theorem h57_33 : mfetch q57.2.1 33 = some (.iload 4) := by decide +kernel
theorem h57_35 : mfetch q57.2.1 35 = some (.iadd) := by decide +kernel
theorem h57_36 : mfetch q57.2.1 36 = some (.invokevirtual 31) := by decide +kernel
theorem h57_39 : mfetch q57.2.1 39 = some (.goto 5) := by decide +kernel
theorem h57_42 : mfetch q57.2.1 42 = some (.bipush 32) := by decide +kernel
theorem h57_44 : mfetch q57.2.1 44 = some (.istore 5) := by decide +kernel
theorem h57_46 : mfetch q57.2.1 46 = some (.iload 5) := by decide +kernel
theorem h57_48 : mfetch q57.2.1 48 = some (.ldc 65) := by decide +kernel
theorem h57_50 : mfetch q57.2.1 50 = some (.iload_n 1) := by decide +kernel
theorem h57_51 : mfetch q57.2.1 51 = some (.bipush 8) := by decide +kernel
theorem h57_53 : mfetch q57.2.1 53 = some (.imul) := by decide +kernel
theorem h57_54 : mfetch q57.2.1 54 = some (.iload 4) := by decide +kernel
theorem h57_56 : mfetch q57.2.1 56 = some (.iadd) := by decide +kernel
theorem h57_57 : mfetch q57.2.1 57 = some (.invokevirtual 77) := by decide +kernel
theorem h57_60 : mfetch q57.2.1 60 = some (.if_icmp .eq 5) := by decide +kernel
theorem h57_63 : mfetch q57.2.1 63 = some (.iconst 0) := by decide +kernel
theorem h57_64 : mfetch q57.2.1 64 = some (.ireturn) := by decide +kernel
theorem h57_65 : mfetch q57.2.1 65 = some (.iinc 4 1) := by decide +kernel
theorem h57_68 : mfetch q57.2.1 68 = some (.goto (-55)) := by decide +kernel
theorem h57_71 : mfetch q57.2.1 71 = some (.iconst 1) := by decide +kernel
theorem h57_72 : mfetch q57.2.1 72 = some (.ireturn) := by decide +kernel
theorem E57_0 : (∀ (d : Nat) (l0 : Option Value) (l1 : Option Value) (l2 : Option Value) (l4 : Option Value) (l5 : Option Value) (x : Int32) (st : List Value) (h : MH) (P : MP), mFr d 57 0 [l0, l1, l2, some (.int x), l4, l5] st h P = mFr d 57 1 [l0, l1, l2, some (.int x), l4, l5] (.int x :: st) h P) ∧
  (∀ (d : Nat) (l0 : Option Value) (l1 : Option Value) (l3 : Option Value) (l4 : Option Value) (l5 : Option Value) (x : Int32) (st : List Value) (h : MH) (P : MP), mFr d 57 1 [l0, l1, some (.int x), l3, l4, l5] st h P = mFr d 57 2 [l0, l1, some (.int x), l3, l4, l5] (.int x :: st) h P) ∧
  (∀ (d : Nat) (loc : List (Option Value)) (x y : Int32) (st : List Value) (h : MH) (P : MP), mFr d 57 2 loc (.int y :: .int x :: st) h P = mFr d 57 3 loc (.int (x - y) :: st) h P) ∧
  (∀ (d : Nat) (loc : List (Option Value)) (st : List Value) (h : MH) (P : MP), mFr d 57 3 loc st h P = mFr d 57 5 loc (.int 8 :: st) h P) ∧
  (∀ (d : Nat) (loc : List (Option Value)) (x y : Int32) (st : List Value) (h : MH) (P : MP), mFr d 57 5 loc (.int y :: .int x :: st) h P = if x < y then mFr d 57 10 loc (st) h P else mFr d 57 8 loc (st) h P) := ⟨fun _ _ _ _ _ _ _ _ _ _ => (mFr_S mq57 h57_0).trans rfl,
  fun _ _ _ _ _ _ _ _ _ _ => (mFr_S mq57 h57_1).trans rfl,
  fun _ _ _ _ _ _ _ => (mFr_S mq57 h57_2).trans rfl,
  fun _ _ _ _ _ => (mFr_S mq57 h57_3).trans rfl,
  fun _ _ _ _ _ _ _ => (F_icmp 10 mq57 h57_5 (by decide)).trans mif_lt⟩
theorem E57_8 : (∀ (d : Nat) (loc : List (Option Value)) (st : List Value) (h : MH) (P : MP), mFr d 57 8 loc st h P = mFr d 57 9 loc (.int 0 :: st) h P) ∧
  (∀ (d : Nat) (loc : List (Option Value)) (h : MH) (P : MP), mFr d 57 9 loc [.int 0] h P = P (some (.int 0)) h) ∧
  (∀ (d : Nat) (loc : List (Option Value)) (h : MH) (P : MP), mFr d 57 9 loc [.int 1] h P = P (some (.int 1)) h) ∧
  (∀ (d : Nat) (loc : List (Option Value)) (c : Prop) [Decidable c] (h : MH) (P : MP), mFr d 57 9 loc [.int (if c then 1 else 0)] h P = P (some (.int (if c then 1 else 0))) h) := ⟨fun _ _ _ _ _ => (mFr_S mq57 h57_8).trans rfl,
  fun _ _ _ _ => F_ret mq57 h57_9 rfl (by decide),
  fun _ _ _ _ => F_ret mq57 h57_9 rfl (by decide),
  fun _ _ _ _ _ _ => F_ret mq57 h57_9 rfl (by split <;> decide)⟩
theorem E57_10 : (∀ (d : Nat) (loc : List (Option Value)) (st : List Value) (h : MH) (P : MP), mFr d 57 10 loc st h P = mFr d 57 11 loc (.int 0 :: st) h P) ∧
  (∀ (d : Nat) (l0 : Option Value) (l1 : Option Value) (l2 : Option Value) (l3 : Option Value) (l4 : Option Value) (l5 : Option Value) (x : Int32) (st : List Value) (h : MH) (P : MP), mnl l3 = true → mFr d 57 11 [l0, l1, l2, l3, l4, l5] (.int x :: st) h P = mFr d 57 13 [l0, l1, l2, l3, some (.int x), l5] (st) h P) := ⟨fun _ _ _ _ _ => (mFr_S mq57 h57_10).trans rfl,
  fun _ _ _ _ _ _ _ _ _ _ _ hm => (mFr_S mq57 h57_11).trans (by simp only [mgo.eq_1, mstep, mi1, ml1, mast, mst, mst2, mprev, List.length_cons, List.length_nil, List.getElem?_cons_succ, List.getElem?_cons_zero, hm]; rfl)⟩
theorem E57_13 : (∀ (d : Nat) (l0 : Option Value) (l1 : Option Value) (l2 : Option Value) (l3 : Option Value) (l5 : Option Value) (x : Int32) (st : List Value) (h : MH) (P : MP), mFr d 57 13 [l0, l1, l2, l3, some (.int x), l5] st h P = mFr d 57 15 [l0, l1, l2, l3, some (.int x), l5] (.int x :: st) h P) ∧
  (∀ (d : Nat) (loc : List (Option Value)) (st : List Value) (h : MH) (P : MP), mFr d 57 15 loc st h P = mFr d 57 17 loc (.int 8 :: st) h P) ∧
  (∀ (d : Nat) (loc : List (Option Value)) (x y : Int32) (st : List Value) (h : MH) (P : MP), mFr d 57 17 loc (.int y :: .int x :: st) h P = if x < y then mFr d 57 20 loc (st) h P else mFr d 57 71 loc (st) h P) := ⟨fun _ _ _ _ _ _ _ _ _ _ => (mFr_S mq57 h57_13).trans rfl,
  fun _ _ _ _ _ => (mFr_S mq57 h57_15).trans rfl,
  fun _ _ _ _ _ _ _ => (F_icmp 71 mq57 h57_17 (by decide)).trans mif_ge⟩
theorem E57_20 : (∀ (d : Nat) (l0 : Option Value) (l1 : Option Value) (l3 : Option Value) (l4 : Option Value) (l5 : Option Value) (x : Int32) (st : List Value) (h : MH) (P : MP), mFr d 57 20 [l0, l1, some (.int x), l3, l4, l5] st h P = mFr d 57 21 [l0, l1, some (.int x), l3, l4, l5] (.int x :: st) h P) ∧
  (∀ (d : Nat) (l0 : Option Value) (l1 : Option Value) (l2 : Option Value) (l3 : Option Value) (l5 : Option Value) (x : Int32) (st : List Value) (h : MH) (P : MP), mFr d 57 21 [l0, l1, l2, l3, some (.int x), l5] st h P = mFr d 57 23 [l0, l1, l2, l3, some (.int x), l5] (.int x :: st) h P) ∧
  (∀ (d : Nat) (loc : List (Option Value)) (x y : Int32) (st : List Value) (h : MH) (P : MP), mFr d 57 23 loc (.int y :: .int x :: st) h P = mFr d 57 24 loc (.int (x + y) :: st) h P) ∧
  (∀ (d : Nat) (l0 : Option Value) (l1 : Option Value) (l2 : Option Value) (l4 : Option Value) (l5 : Option Value) (x : Int32) (st : List Value) (h : MH) (P : MP), mFr d 57 24 [l0, l1, l2, some (.int x), l4, l5] st h P = mFr d 57 25 [l0, l1, l2, some (.int x), l4, l5] (.int x :: st) h P) ∧
  (∀ (d : Nat) (loc : List (Option Value)) (x y : Int32) (st : List Value) (h : MH) (P : MP), mFr d 57 25 loc (.int y :: .int x :: st) h P = if x < y then mFr d 57 28 loc (st) h P else mFr d 57 42 loc (st) h P) := ⟨fun _ _ _ _ _ _ _ _ _ _ => (mFr_S mq57 h57_20).trans rfl,
  fun _ _ _ _ _ _ _ _ _ _ => (mFr_S mq57 h57_21).trans rfl,
  fun _ _ _ _ _ _ _ => (mFr_S mq57 h57_23).trans rfl,
  fun _ _ _ _ _ _ _ _ _ _ => (mFr_S mq57 h57_24).trans rfl,
  fun _ _ _ _ _ _ _ => (F_icmp 42 mq57 h57_25 (by decide)).trans mif_ge⟩
theorem E57_28 : (∀ (d : Nat) (l1 : Option Value) (l2 : Option Value) (l3 : Option Value) (l4 : Option Value) (l5 : Option Value) (x : Nat) (st : List Value) (h : MH) (P : MP), mFr d 57 28 [some (.ref x), l1, l2, l3, l4, l5] st h P = mFr d 57 29 [some (.ref x), l1, l2, l3, l4, l5] (.ref x :: st) h P) ∧
  (∀ (d : Nat) (loc : List (Option Value)) (a : Nat) (st : List Value) (h : MH) (P : MP), mFr d 57 29 loc (.ref a :: st) h P = pget h a 7 3 (fun v => mFr d 57 32 loc (v :: st) h P)) ∧
  (∀ (d : Nat) (l0 : Option Value) (l1 : Option Value) (l3 : Option Value) (l4 : Option Value) (l5 : Option Value) (x : Int32) (st : List Value) (h : MH) (P : MP), mFr d 57 32 [l0, l1, some (.int x), l3, l4, l5] st h P = mFr d 57 33 [l0, l1, some (.int x), l3, l4, l5] (.int x :: st) h P) ∧
  (∀ (d : Nat) (l0 : Option Value) (l1 : Option Value) (l2 : Option Value) (l3 : Option Value) (l5 : Option Value) (x : Int32) (st : List Value) (h : MH) (P : MP), mFr d 57 33 [l0, l1, l2, l3, some (.int x), l5] st h P = mFr d 57 35 [l0, l1, l2, l3, some (.int x), l5] (.int x :: st) h P) ∧
  (∀ (d : Nat) (loc : List (Option Value)) (x y : Int32) (st : List Value) (h : MH) (P : MP), mFr d 57 35 loc (.int y :: .int x :: st) h P = mFr d 57 36 loc (.int (x + y) :: st) h P) ∧
  (∀ (d : Nat) (loc : List (Option Value)) (b : Nat) (a0 : Int32) (h : MH) (P : MP), mFr d 57 36 loc ((.int a0) :: .ref b :: []) h P = if mrcv h b 4 = true then mRun d 28 [.ref b, .int a0] h (fun v h' => mFr d 57 39 loc (v.toList ++ []) h' P) else False) ∧
  (∀ (d : Nat) (loc : List (Option Value)) (st : List Value) (h : MH) (P : MP), mFr d 57 39 loc st h P = mFr d 57 44 loc (st) h P) := ⟨fun _ _ _ _ _ _ _ _ _ _ => (mFr_S mq57 h57_28).trans rfl,
  fun _ _ _ _ _ _ => F_get mq57 h57_29 (Or.inl (rfl : _ = some (18, 0, 7, 3))),
  fun _ _ _ _ _ _ _ _ _ _ => (mFr_S mq57 h57_32).trans rfl,
  fun _ _ _ _ _ _ _ _ _ _ => (mFr_S mq57 h57_33).trans rfl,
  fun _ _ _ _ _ _ _ => (mFr_S mq57 h57_35).trans rfl,
  fun _ _ b a0 _ _ => F_callV (as := [.int a0]) (rest := []) mq57 (Or.inl h57_36) (rfl : _ = some (31, 6, 28, 1)) (Or.inl ⟨h57_36, by decide⟩) (by rfl) (by rfl) (by rfl) (Nat.le_of_ble_eq_true rfl),
  fun _ _ _ _ _ => F_goto 44 mq57 h57_39 (by decide)⟩
theorem E57_42 : (∀ (d : Nat) (loc : List (Option Value)) (st : List Value) (h : MH) (P : MP), mFr d 57 42 loc st h P = mFr d 57 44 loc (.int 32 :: st) h P) := fun _ _ _ _ _ => (mFr_S mq57 h57_42).trans rfl
theorem E57_44 : (∀ (d : Nat) (l0 : Option Value) (l1 : Option Value) (l2 : Option Value) (l3 : Option Value) (l4 : Option Value) (l5 : Option Value) (x : Int32) (st : List Value) (h : MH) (P : MP), mnl l4 = true → mFr d 57 44 [l0, l1, l2, l3, l4, l5] (.int x :: st) h P = mFr d 57 46 [l0, l1, l2, l3, l4, some (.int x)] (st) h P) ∧
  (∀ (d : Nat) (l0 : Option Value) (l1 : Option Value) (l2 : Option Value) (l3 : Option Value) (l4 : Option Value) (x : Int32) (st : List Value) (h : MH) (P : MP), mFr d 57 46 [l0, l1, l2, l3, l4, some (.int x)] st h P = mFr d 57 48 [l0, l1, l2, l3, l4, some (.int x)] (.int x :: st) h P) ∧
  (∀ (d : Nat) (loc : List (Option Value)) (st : List Value) (h : MH) (P : MP), mFr d 57 48 loc st h P = mFr d 57 50 loc (.ref 1011 :: st) h P) ∧
  (∀ (d : Nat) (l0 : Option Value) (l2 : Option Value) (l3 : Option Value) (l4 : Option Value) (l5 : Option Value) (x : Int32) (st : List Value) (h : MH) (P : MP), mFr d 57 50 [l0, some (.int x), l2, l3, l4, l5] st h P = mFr d 57 51 [l0, some (.int x), l2, l3, l4, l5] (.int x :: st) h P) ∧
  (∀ (d : Nat) (loc : List (Option Value)) (st : List Value) (h : MH) (P : MP), mFr d 57 51 loc st h P = mFr d 57 53 loc (.int 8 :: st) h P) ∧
  (∀ (d : Nat) (loc : List (Option Value)) (x y : Int32) (st : List Value) (h : MH) (P : MP), mFr d 57 53 loc (.int y :: .int x :: st) h P = mFr d 57 54 loc (.int (x * y) :: st) h P) ∧
  (∀ (d : Nat) (l0 : Option Value) (l1 : Option Value) (l2 : Option Value) (l3 : Option Value) (l5 : Option Value) (x : Int32) (st : List Value) (h : MH) (P : MP), mFr d 57 54 [l0, l1, l2, l3, some (.int x), l5] st h P = mFr d 57 56 [l0, l1, l2, l3, some (.int x), l5] (.int x :: st) h P) ∧
  (∀ (d : Nat) (loc : List (Option Value)) (x y : Int32) (st : List Value) (h : MH) (P : MP), mFr d 57 56 loc (.int y :: .int x :: st) h P = mFr d 57 57 loc (.int (x + y) :: st) h P) ∧
  (∀ (d : Nat) (loc : List (Option Value)) (b : Nat) (a0 : Int32) (s0 : Int32) (h : MH) (P : MP), mFr d 57 57 loc ((.int a0) :: .ref b :: [.int s0]) h P = if mrcv h b 10 = true then mRun d 193 [.ref b, .int a0] h (fun v h' => mFr d 57 60 loc (v.toList ++ [.int s0]) h' P) else False) ∧
  (∀ (d : Nat) (loc : List (Option Value)) (x y : Int32) (st : List Value) (h : MH) (P : MP), mFr d 57 60 loc (.int y :: .int x :: st) h P = if x = y then mFr d 57 65 loc (st) h P else mFr d 57 63 loc (st) h P) := ⟨fun _ _ _ _ _ _ _ _ _ _ _ hm => (mFr_S mq57 h57_44).trans (by simp only [mgo.eq_1, mstep, mi1, ml1, mast, mst, mst2, mprev, List.length_cons, List.length_nil, List.getElem?_cons_succ, List.getElem?_cons_zero, hm]; rfl),
  fun _ _ _ _ _ _ _ _ _ _ => (mFr_S mq57 h57_46).trans rfl,
  fun _ _ _ _ _ => (mFr_S mq57 h57_48).trans rfl,
  fun _ _ _ _ _ _ _ _ _ _ => (mFr_S mq57 h57_50).trans rfl,
  fun _ _ _ _ _ => (mFr_S mq57 h57_51).trans rfl,
  fun _ _ _ _ _ _ _ => (mFr_S mq57 h57_53).trans rfl,
  fun _ _ _ _ _ _ _ _ _ _ => (mFr_S mq57 h57_54).trans rfl,
  fun _ _ _ _ _ _ _ => (mFr_S mq57 h57_56).trans rfl,
  fun _ _ b a0 s0 _ _ => F_callV (as := [.int a0]) (rest := [.int s0]) mq57 (Or.inl h57_57) (rfl : _ = some (77, 6, 193, 0)) (Or.inl ⟨h57_57, by decide⟩) (by rfl) (by rfl) (by rfl) (Nat.le_of_ble_eq_true rfl),
  fun _ _ _ _ _ _ _ => (F_icmp 65 mq57 h57_60 (by decide)).trans mif_eq⟩
theorem E57_63 : (∀ (d : Nat) (loc : List (Option Value)) (st : List Value) (h : MH) (P : MP), mFr d 57 63 loc st h P = mFr d 57 64 loc (.int 0 :: st) h P) ∧
  (∀ (d : Nat) (loc : List (Option Value)) (h : MH) (P : MP), mFr d 57 64 loc [.int 0] h P = P (some (.int 0)) h) ∧
  (∀ (d : Nat) (loc : List (Option Value)) (h : MH) (P : MP), mFr d 57 64 loc [.int 1] h P = P (some (.int 1)) h) ∧
  (∀ (d : Nat) (loc : List (Option Value)) (c : Prop) [Decidable c] (h : MH) (P : MP), mFr d 57 64 loc [.int (if c then 1 else 0)] h P = P (some (.int (if c then 1 else 0))) h) := ⟨fun _ _ _ _ _ => (mFr_S mq57 h57_63).trans rfl,
  fun _ _ _ _ => F_ret mq57 h57_64 rfl (by decide),
  fun _ _ _ _ => F_ret mq57 h57_64 rfl (by decide),
  fun _ _ _ _ _ _ => F_ret mq57 h57_64 rfl (by split <;> decide)⟩
theorem E57_65 : (∀ (d : Nat) (l0 : Option Value) (l1 : Option Value) (l2 : Option Value) (l3 : Option Value) (l5 : Option Value) (x : Int32) (st : List Value) (h : MH) (P : MP), mnl l3 = true → mFr d 57 65 [l0, l1, l2, l3, some (.int x), l5] st h P = mFr d 57 68 [l0, l1, l2, l3, some (.int (x + 1)), l5] (st) h P) ∧
  (∀ (d : Nat) (loc : List (Option Value)) (st : List Value) (h : MH) (P : MP), mFr d 57 68 loc st h P = mFr d 57 13 loc (st) h P) := ⟨fun _ _ _ _ _ _ _ _ _ _ hm => (mFr_S mq57 h57_65).trans (by simp only [mgo.eq_1, mstep, mld, mst, mprev, List.length_cons, List.length_nil, List.getElem?_cons_succ, List.getElem?_cons_zero, hm]; rfl),
  fun _ _ _ _ _ => F_goto 13 mq57 h57_68 (by decide)⟩
theorem E57_71 : (∀ (d : Nat) (loc : List (Option Value)) (st : List Value) (h : MH) (P : MP), mFr d 57 71 loc st h P = mFr d 57 72 loc (.int 1 :: st) h P) ∧
  (∀ (d : Nat) (loc : List (Option Value)) (h : MH) (P : MP), mFr d 57 72 loc [.int 0] h P = P (some (.int 0)) h) ∧
  (∀ (d : Nat) (loc : List (Option Value)) (h : MH) (P : MP), mFr d 57 72 loc [.int 1] h P = P (some (.int 1)) h) ∧
  (∀ (d : Nat) (loc : List (Option Value)) (c : Prop) [Decidable c] (h : MH) (P : MP), mFr d 57 72 loc [.int (if c then 1 else 0)] h P = P (some (.int (if c then 1 else 0))) h) := ⟨fun _ _ _ _ _ => (mFr_S mq57 h57_71).trans rfl,
  fun _ _ _ _ => F_ret mq57 h57_72 rfl (by decide),
  fun _ _ _ _ => F_ret mq57 h57_72 rfl (by decide),
  fun _ _ _ _ _ _ => F_ret mq57 h57_72 rfl (by split <;> decide)⟩
theorem B57 : ∀ (d : Nat) (b : Nat) (a0 : Int32) (a1 : Int32) (a2 : Int32) (h : MH) (P : MP), mRun (d + 1) 57 [.ref b, .int a0, .int a1, .int a2] h P = mFr d 57 0 [some (.ref b), some (.int a0), some (.int a1), some (.int a2), none, none] [] h P := fun _ _ _ _ _ _ _ => mRun_S mq57 (Nat.le_of_ble_eq_true rfl)
-- 58: PuncturesAreViews$Tokens.numberEnd(I)I loops at [4]
def q58 : MI := (yX7_numberEnd, cX7_numberEnd, 3, (some .int), 7, 1)
theorem mq58 : mtab[58]? = some q58 := rfl
theorem h58_0 : mfetch q58.2.1 0 = some (.iload_n 1) := by decide +kernel
theorem h58_1 : mfetch q58.2.1 1 = some (.iconst 1) := by decide +kernel
theorem h58_2 : mfetch q58.2.1 2 = some (.iadd) := by decide +kernel
theorem h58_3 : mfetch q58.2.1 3 = some (.istore_n 2) := by decide +kernel
theorem h58_4 : mfetch q58.2.1 4 = some (.iload_n 2) := by decide +kernel
theorem h58_5 : mfetch q58.2.1 5 = some (.aload_n 0) := by decide +kernel
theorem h58_6 : mfetch q58.2.1 6 = some (.getfield 18) := by decide +kernel
theorem h58_9 : mfetch q58.2.1 9 = some (.getfield 26) := by decide +kernel
theorem h58_12 : mfetch q58.2.1 12 = some (.if_icmp .ge 26) := by decide +kernel
theorem h58_15 : mfetch q58.2.1 15 = some (.aload_n 0) := by decide +kernel
theorem h58_16 : mfetch q58.2.1 16 = some (.getfield 18) := by decide +kernel
theorem h58_19 : mfetch q58.2.1 19 = some (.iload_n 2) := by decide +kernel
theorem h58_20 : mfetch q58.2.1 20 = some (.invokevirtual 31) := by decide +kernel
theorem h58_23 : mfetch q58.2.1 23 = some (.bipush 48) := by decide +kernel
theorem h58_25 : mfetch q58.2.1 25 = some (.isub) := by decide +kernel
theorem h58_26 : mfetch q58.2.1 26 = some (.invokestatic 53) := by decide +kernel
theorem h58_29 : mfetch q58.2.1 29 = some (.ifCond .eq 9) := by decide +kernel
theorem h58_32 : mfetch q58.2.1 32 = some (.iinc 2 1) := by decide +kernel
theorem h58_35 : mfetch q58.2.1 35 = some (.goto (-31)) := by decide +kernel
theorem h58_38 : mfetch q58.2.1 38 = some (.iload_n 2) := by decide +kernel
theorem h58_39 : mfetch q58.2.1 39 = some (.ireturn) := by decide +kernel
theorem E58_0 : (∀ (d : Nat) (l0 : Option Value) (l2 : Option Value) (x : Int32) (st : List Value) (h : MH) (P : MP), mFr d 58 0 [l0, some (.int x), l2] st h P = mFr d 58 1 [l0, some (.int x), l2] (.int x :: st) h P) ∧
  (∀ (d : Nat) (loc : List (Option Value)) (st : List Value) (h : MH) (P : MP), mFr d 58 1 loc st h P = mFr d 58 2 loc (.int 1 :: st) h P) ∧
  (∀ (d : Nat) (loc : List (Option Value)) (x y : Int32) (st : List Value) (h : MH) (P : MP), mFr d 58 2 loc (.int y :: .int x :: st) h P = mFr d 58 3 loc (.int (x + y) :: st) h P) ∧
  (∀ (d : Nat) (l0 : Option Value) (l1 : Option Value) (l2 : Option Value) (x : Int32) (st : List Value) (h : MH) (P : MP), mnl l1 = true → mFr d 58 3 [l0, l1, l2] (.int x :: st) h P = mFr d 58 4 [l0, l1, some (.int x)] (st) h P) := ⟨fun _ _ _ _ _ _ _ => (mFr_S mq58 h58_0).trans rfl,
  fun _ _ _ _ _ => (mFr_S mq58 h58_1).trans rfl,
  fun _ _ _ _ _ _ _ => (mFr_S mq58 h58_2).trans rfl,
  fun _ _ _ _ _ _ _ _ hm => (mFr_S mq58 h58_3).trans (by simp only [mgo.eq_1, mstep, mi1, ml1, mast, mst, mst2, mprev, List.length_cons, List.length_nil, List.getElem?_cons_succ, List.getElem?_cons_zero, hm]; rfl)⟩
theorem E58_4 : (∀ (d : Nat) (l0 : Option Value) (l1 : Option Value) (x : Int32) (st : List Value) (h : MH) (P : MP), mFr d 58 4 [l0, l1, some (.int x)] st h P = mFr d 58 5 [l0, l1, some (.int x)] (.int x :: st) h P) ∧
  (∀ (d : Nat) (l1 : Option Value) (l2 : Option Value) (x : Nat) (st : List Value) (h : MH) (P : MP), mFr d 58 5 [some (.ref x), l1, l2] st h P = mFr d 58 6 [some (.ref x), l1, l2] (.ref x :: st) h P) ∧
  (∀ (d : Nat) (loc : List (Option Value)) (a : Nat) (st : List Value) (h : MH) (P : MP), mFr d 58 6 loc (.ref a :: st) h P = pget h a 7 3 (fun v => mFr d 58 9 loc (v :: st) h P)) ∧
  (∀ (d : Nat) (loc : List (Option Value)) (a : Nat) (st : List Value) (h : MH) (P : MP), mFr d 58 9 loc (.ref a :: st) h P = pget h a 4 1 (fun v => mFr d 58 12 loc (v :: st) h P)) ∧
  (∀ (d : Nat) (loc : List (Option Value)) (x y : Int32) (st : List Value) (h : MH) (P : MP), mFr d 58 12 loc (.int y :: .int x :: st) h P = if x < y then mFr d 58 15 loc (st) h P else mFr d 58 38 loc (st) h P) := ⟨fun _ _ _ _ _ _ _ => (mFr_S mq58 h58_4).trans rfl,
  fun _ _ _ _ _ _ _ => (mFr_S mq58 h58_5).trans rfl,
  fun _ _ _ _ _ _ => F_get mq58 h58_6 (Or.inl (rfl : _ = some (18, 0, 7, 3))),
  fun _ _ _ _ _ _ => F_get mq58 h58_9 (Or.inr (rfl : _ = some (26, 1, 4, 1))),
  fun _ _ _ _ _ _ _ => (F_icmp 38 mq58 h58_12 (by decide)).trans mif_ge⟩
theorem E58_15 : (∀ (d : Nat) (l1 : Option Value) (l2 : Option Value) (x : Nat) (st : List Value) (h : MH) (P : MP), mFr d 58 15 [some (.ref x), l1, l2] st h P = mFr d 58 16 [some (.ref x), l1, l2] (.ref x :: st) h P) ∧
  (∀ (d : Nat) (loc : List (Option Value)) (a : Nat) (st : List Value) (h : MH) (P : MP), mFr d 58 16 loc (.ref a :: st) h P = pget h a 7 3 (fun v => mFr d 58 19 loc (v :: st) h P)) ∧
  (∀ (d : Nat) (l0 : Option Value) (l1 : Option Value) (x : Int32) (st : List Value) (h : MH) (P : MP), mFr d 58 19 [l0, l1, some (.int x)] st h P = mFr d 58 20 [l0, l1, some (.int x)] (.int x :: st) h P) ∧
  (∀ (d : Nat) (loc : List (Option Value)) (b : Nat) (a0 : Int32) (h : MH) (P : MP), mFr d 58 20 loc ((.int a0) :: .ref b :: []) h P = if mrcv h b 4 = true then mRun d 28 [.ref b, .int a0] h (fun v h' => mFr d 58 23 loc (v.toList ++ []) h' P) else False) ∧
  (∀ (d : Nat) (loc : List (Option Value)) (st : List Value) (h : MH) (P : MP), mFr d 58 23 loc st h P = mFr d 58 25 loc (.int 48 :: st) h P) ∧
  (∀ (d : Nat) (loc : List (Option Value)) (x y : Int32) (st : List Value) (h : MH) (P : MP), mFr d 58 25 loc (.int y :: .int x :: st) h P = mFr d 58 26 loc (.int (x - y) :: st) h P) ∧
  (∀ (d : Nat) (loc : List (Option Value)) (a0 : Int32) (h : MH) (P : MP), mFr d 58 26 loc ((.int a0) :: []) h P = mRun d 65 [.int a0] h (fun v h' => mFr d 58 29 loc (v.toList ++ []) h' P)) ∧
  (∀ (d : Nat) (loc : List (Option Value)) (x : Int32) (st : List Value) (h : MH) (P : MP), mFr d 58 29 loc (.int x :: st) h P = if x = 0 then mFr d 58 38 loc (st) h P else mFr d 58 32 loc (st) h P) := ⟨fun _ _ _ _ _ _ _ => (mFr_S mq58 h58_15).trans rfl,
  fun _ _ _ _ _ _ => F_get mq58 h58_16 (Or.inl (rfl : _ = some (18, 0, 7, 3))),
  fun _ _ _ _ _ _ _ => (mFr_S mq58 h58_19).trans rfl,
  fun _ _ b a0 _ _ => F_callV (as := [.int a0]) (rest := []) mq58 (Or.inl h58_20) (rfl : _ = some (31, 6, 28, 1)) (Or.inl ⟨h58_20, by decide⟩) (by rfl) (by rfl) (by rfl) (Nat.le_of_ble_eq_true rfl),
  fun _ _ _ _ _ => (mFr_S mq58 h58_23).trans rfl,
  fun _ _ _ _ _ _ _ => (mFr_S mq58 h58_25).trans rfl,
  fun _ _ a0 _ _ => F_callS (as := [.int a0]) (rest := []) mq58 h58_26 (rfl : _ = some (53, 6, 65, 3)) (by decide) (by rfl) (by rfl) (by rfl) (Nat.le_of_ble_eq_true rfl),
  fun _ _ _ _ _ _ => (F_ifz 38 mq58 h58_29 (by decide)).trans mif_eq⟩
theorem E58_32 : (∀ (d : Nat) (l0 : Option Value) (l1 : Option Value) (x : Int32) (st : List Value) (h : MH) (P : MP), mnl l1 = true → mFr d 58 32 [l0, l1, some (.int x)] st h P = mFr d 58 35 [l0, l1, some (.int (x + 1))] (st) h P) ∧
  (∀ (d : Nat) (loc : List (Option Value)) (st : List Value) (h : MH) (P : MP), mFr d 58 35 loc st h P = mFr d 58 4 loc (st) h P) := ⟨fun _ _ _ _ _ _ _ hm => (mFr_S mq58 h58_32).trans (by simp only [mgo.eq_1, mstep, mld, mst, mprev, List.length_cons, List.length_nil, List.getElem?_cons_succ, List.getElem?_cons_zero, hm]; rfl),
  fun _ _ _ _ _ => F_goto 4 mq58 h58_35 (by decide)⟩
theorem E58_38 : (∀ (d : Nat) (l0 : Option Value) (l1 : Option Value) (x : Int32) (st : List Value) (h : MH) (P : MP), mFr d 58 38 [l0, l1, some (.int x)] st h P = mFr d 58 39 [l0, l1, some (.int x)] (.int x :: st) h P) ∧
  (∀ (d : Nat) (loc : List (Option Value)) (x : Int32) (h : MH) (P : MP), mFr d 58 39 loc [.int x] h P = P (some (.int x)) h) := ⟨fun _ _ _ _ _ _ _ => (mFr_S mq58 h58_38).trans rfl,
  fun _ _ _ _ _ => F_ret mq58 h58_39 rfl rfl⟩
theorem B58 : ∀ (d : Nat) (b : Nat) (a0 : Int32) (h : MH) (P : MP), mRun (d + 1) 58 [.ref b, .int a0] h P = mFr d 58 0 [some (.ref b), some (.int a0), none] [] h P := fun _ _ _ _ _ => mRun_S mq58 (Nat.le_of_ble_eq_true rfl)
-- 59: PuncturesAreViews$Tokens.number(II)I loops at [15]
def q59 : MI := (yX7_number, cX7_number, 5, (some .int), 7, 2)
theorem mq59 : mtab[59]? = some q59 := rfl
theorem h59_0 : mfetch q59.2.1 0 = some (.iload_n 2) := by decide +kernel
theorem h59_1 : mfetch q59.2.1 1 = some (.iload_n 1) := by decide +kernel
theorem h59_2 : mfetch q59.2.1 2 = some (.isub) := by decide +kernel
theorem h59_3 : mfetch q59.2.1 3 = some (.iconst 4) := by decide +kernel
theorem h59_4 : mfetch q59.2.1 4 = some (.if_icmp .le 6) := by decide +kernel
theorem h59_7 : mfetch q59.2.1 7 = some (.bipush 21) := by decide +kernel
theorem h59_9 : mfetch q59.2.1 9 = some (.ireturn) := by decide +kernel
theorem h59_10 : mfetch q59.2.1 10 = some (.iconst 0) := by decide +kernel
theorem h59_11 : mfetch q59.2.1 11 = some (.istore_n 3) := by decide +kernel
theorem h59_12 : mfetch q59.2.1 12 = some (.iload_n 1) := by decide +kernel
theorem h59_13 : mfetch q59.2.1 13 = some (.istore 4) := by decide +kernel
theorem h59_15 : mfetch q59.2.1 15 = some (.iload 4) := by decide +kernel
theorem h59_17 : mfetch q59.2.1 17 = some (.iload_n 2) := by decide +kernel
theorem h59_18 : mfetch q59.2.1 18 = some (.if_icmp .ge 27) := by decide +kernel
theorem h59_21 : mfetch q59.2.1 21 = some (.iload_n 3) := by decide +kernel
theorem h59_22 : mfetch q59.2.1 22 = some (.bipush 10) := by decide +kernel
theorem h59_24 : mfetch q59.2.1 24 = some (.imul) := by decide +kernel
theorem h59_25 : mfetch q59.2.1 25 = some (.aload_n 0) := by decide +kernel
theorem h59_26 : mfetch q59.2.1 26 = some (.getfield 18) := by decide +kernel
theorem h59_29 : mfetch q59.2.1 29 = some (.iload 4) := by decide +kernel
theorem h59_31 : mfetch q59.2.1 31 = some (.invokevirtual 31) := by decide +kernel
theorem h59_34 : mfetch q59.2.1 34 = some (.iadd) := by decide +kernel
theorem h59_35 : mfetch q59.2.1 35 = some (.bipush 48) := by decide +kernel
theorem h59_37 : mfetch q59.2.1 37 = some (.isub) := by decide +kernel
theorem h59_38 : mfetch q59.2.1 38 = some (.istore_n 3) := by decide +kernel
theorem h59_39 : mfetch q59.2.1 39 = some (.iinc 4 1) := by decide +kernel
theorem h59_42 : mfetch q59.2.1 42 = some (.goto (-27)) := by decide +kernel
theorem h59_45 : mfetch q59.2.1 45 = some (.bipush 100) := by decide +kernel
theorem h59_47 : mfetch q59.2.1 47 = some (.iload_n 3) := by decide +kernel
theorem h59_48 : mfetch q59.2.1 48 = some (.iadd) := by decide +kernel
theorem h59_49 : mfetch q59.2.1 49 = some (.ireturn) := by decide +kernel
theorem E59_0 : (∀ (d : Nat) (l0 : Option Value) (l1 : Option Value) (l3 : Option Value) (l4 : Option Value) (x : Int32) (st : List Value) (h : MH) (P : MP), mFr d 59 0 [l0, l1, some (.int x), l3, l4] st h P = mFr d 59 1 [l0, l1, some (.int x), l3, l4] (.int x :: st) h P) ∧
  (∀ (d : Nat) (l0 : Option Value) (l2 : Option Value) (l3 : Option Value) (l4 : Option Value) (x : Int32) (st : List Value) (h : MH) (P : MP), mFr d 59 1 [l0, some (.int x), l2, l3, l4] st h P = mFr d 59 2 [l0, some (.int x), l2, l3, l4] (.int x :: st) h P) ∧
  (∀ (d : Nat) (loc : List (Option Value)) (x y : Int32) (st : List Value) (h : MH) (P : MP), mFr d 59 2 loc (.int y :: .int x :: st) h P = mFr d 59 3 loc (.int (x - y) :: st) h P) ∧
  (∀ (d : Nat) (loc : List (Option Value)) (st : List Value) (h : MH) (P : MP), mFr d 59 3 loc st h P = mFr d 59 4 loc (.int 4 :: st) h P) ∧
  (∀ (d : Nat) (loc : List (Option Value)) (x y : Int32) (st : List Value) (h : MH) (P : MP), mFr d 59 4 loc (.int y :: .int x :: st) h P = if y < x then mFr d 59 7 loc (st) h P else mFr d 59 10 loc (st) h P) := ⟨fun _ _ _ _ _ _ _ _ _ => (mFr_S mq59 h59_0).trans rfl,
  fun _ _ _ _ _ _ _ _ _ => (mFr_S mq59 h59_1).trans rfl,
  fun _ _ _ _ _ _ _ => (mFr_S mq59 h59_2).trans rfl,
  fun _ _ _ _ _ => (mFr_S mq59 h59_3).trans rfl,
  fun _ _ _ _ _ _ _ => (F_icmp 10 mq59 h59_4 (by decide)).trans mif_le⟩
theorem E59_7 : (∀ (d : Nat) (loc : List (Option Value)) (st : List Value) (h : MH) (P : MP), mFr d 59 7 loc st h P = mFr d 59 9 loc (.int 21 :: st) h P) ∧
  (∀ (d : Nat) (loc : List (Option Value)) (x : Int32) (h : MH) (P : MP), mFr d 59 9 loc [.int x] h P = P (some (.int x)) h) := ⟨fun _ _ _ _ _ => (mFr_S mq59 h59_7).trans rfl,
  fun _ _ _ _ _ => F_ret mq59 h59_9 rfl rfl⟩
theorem E59_10 : (∀ (d : Nat) (loc : List (Option Value)) (st : List Value) (h : MH) (P : MP), mFr d 59 10 loc st h P = mFr d 59 11 loc (.int 0 :: st) h P) ∧
  (∀ (d : Nat) (l0 : Option Value) (l1 : Option Value) (l2 : Option Value) (l3 : Option Value) (l4 : Option Value) (x : Int32) (st : List Value) (h : MH) (P : MP), mnl l2 = true → mFr d 59 11 [l0, l1, l2, l3, l4] (.int x :: st) h P = mFr d 59 12 [l0, l1, l2, some (.int x), l4] (st) h P) ∧
  (∀ (d : Nat) (l0 : Option Value) (l2 : Option Value) (l3 : Option Value) (l4 : Option Value) (x : Int32) (st : List Value) (h : MH) (P : MP), mFr d 59 12 [l0, some (.int x), l2, l3, l4] st h P = mFr d 59 13 [l0, some (.int x), l2, l3, l4] (.int x :: st) h P) ∧
  (∀ (d : Nat) (l0 : Option Value) (l1 : Option Value) (l2 : Option Value) (l3 : Option Value) (l4 : Option Value) (x : Int32) (st : List Value) (h : MH) (P : MP), mnl l3 = true → mFr d 59 13 [l0, l1, l2, l3, l4] (.int x :: st) h P = mFr d 59 15 [l0, l1, l2, l3, some (.int x)] (st) h P) := ⟨fun _ _ _ _ _ => (mFr_S mq59 h59_10).trans rfl,
  fun _ _ _ _ _ _ _ _ _ _ hm => (mFr_S mq59 h59_11).trans (by simp only [mgo.eq_1, mstep, mi1, ml1, mast, mst, mst2, mprev, List.length_cons, List.length_nil, List.getElem?_cons_succ, List.getElem?_cons_zero, hm]; rfl),
  fun _ _ _ _ _ _ _ _ _ => (mFr_S mq59 h59_12).trans rfl,
  fun _ _ _ _ _ _ _ _ _ _ hm => (mFr_S mq59 h59_13).trans (by simp only [mgo.eq_1, mstep, mi1, ml1, mast, mst, mst2, mprev, List.length_cons, List.length_nil, List.getElem?_cons_succ, List.getElem?_cons_zero, hm]; rfl)⟩
theorem E59_15 : (∀ (d : Nat) (l0 : Option Value) (l1 : Option Value) (l2 : Option Value) (l3 : Option Value) (x : Int32) (st : List Value) (h : MH) (P : MP), mFr d 59 15 [l0, l1, l2, l3, some (.int x)] st h P = mFr d 59 17 [l0, l1, l2, l3, some (.int x)] (.int x :: st) h P) ∧
  (∀ (d : Nat) (l0 : Option Value) (l1 : Option Value) (l3 : Option Value) (l4 : Option Value) (x : Int32) (st : List Value) (h : MH) (P : MP), mFr d 59 17 [l0, l1, some (.int x), l3, l4] st h P = mFr d 59 18 [l0, l1, some (.int x), l3, l4] (.int x :: st) h P) ∧
  (∀ (d : Nat) (loc : List (Option Value)) (x y : Int32) (st : List Value) (h : MH) (P : MP), mFr d 59 18 loc (.int y :: .int x :: st) h P = if x < y then mFr d 59 21 loc (st) h P else mFr d 59 45 loc (st) h P) := ⟨fun _ _ _ _ _ _ _ _ _ => (mFr_S mq59 h59_15).trans rfl,
  fun _ _ _ _ _ _ _ _ _ => (mFr_S mq59 h59_17).trans rfl,
  fun _ _ _ _ _ _ _ => (F_icmp 45 mq59 h59_18 (by decide)).trans mif_ge⟩
theorem E59_21 : (∀ (d : Nat) (l0 : Option Value) (l1 : Option Value) (l2 : Option Value) (l4 : Option Value) (x : Int32) (st : List Value) (h : MH) (P : MP), mFr d 59 21 [l0, l1, l2, some (.int x), l4] st h P = mFr d 59 22 [l0, l1, l2, some (.int x), l4] (.int x :: st) h P) ∧
  (∀ (d : Nat) (loc : List (Option Value)) (st : List Value) (h : MH) (P : MP), mFr d 59 22 loc st h P = mFr d 59 24 loc (.int 10 :: st) h P) ∧
  (∀ (d : Nat) (loc : List (Option Value)) (x y : Int32) (st : List Value) (h : MH) (P : MP), mFr d 59 24 loc (.int y :: .int x :: st) h P = mFr d 59 25 loc (.int (x * y) :: st) h P) ∧
  (∀ (d : Nat) (l1 : Option Value) (l2 : Option Value) (l3 : Option Value) (l4 : Option Value) (x : Nat) (st : List Value) (h : MH) (P : MP), mFr d 59 25 [some (.ref x), l1, l2, l3, l4] st h P = mFr d 59 26 [some (.ref x), l1, l2, l3, l4] (.ref x :: st) h P) ∧
  (∀ (d : Nat) (loc : List (Option Value)) (a : Nat) (st : List Value) (h : MH) (P : MP), mFr d 59 26 loc (.ref a :: st) h P = pget h a 7 3 (fun v => mFr d 59 29 loc (v :: st) h P)) ∧
  (∀ (d : Nat) (l0 : Option Value) (l1 : Option Value) (l2 : Option Value) (l3 : Option Value) (x : Int32) (st : List Value) (h : MH) (P : MP), mFr d 59 29 [l0, l1, l2, l3, some (.int x)] st h P = mFr d 59 31 [l0, l1, l2, l3, some (.int x)] (.int x :: st) h P) ∧
  (∀ (d : Nat) (loc : List (Option Value)) (b : Nat) (a0 : Int32) (s0 : Int32) (h : MH) (P : MP), mFr d 59 31 loc ((.int a0) :: .ref b :: [.int s0]) h P = if mrcv h b 4 = true then mRun d 28 [.ref b, .int a0] h (fun v h' => mFr d 59 34 loc (v.toList ++ [.int s0]) h' P) else False) ∧
  (∀ (d : Nat) (loc : List (Option Value)) (x y : Int32) (st : List Value) (h : MH) (P : MP), mFr d 59 34 loc (.int y :: .int x :: st) h P = mFr d 59 35 loc (.int (x + y) :: st) h P) ∧
  (∀ (d : Nat) (loc : List (Option Value)) (st : List Value) (h : MH) (P : MP), mFr d 59 35 loc st h P = mFr d 59 37 loc (.int 48 :: st) h P) ∧
  (∀ (d : Nat) (loc : List (Option Value)) (x y : Int32) (st : List Value) (h : MH) (P : MP), mFr d 59 37 loc (.int y :: .int x :: st) h P = mFr d 59 38 loc (.int (x - y) :: st) h P) ∧
  (∀ (d : Nat) (l0 : Option Value) (l1 : Option Value) (l2 : Option Value) (l3 : Option Value) (l4 : Option Value) (x : Int32) (st : List Value) (h : MH) (P : MP), mnl l2 = true → mFr d 59 38 [l0, l1, l2, l3, l4] (.int x :: st) h P = mFr d 59 39 [l0, l1, l2, some (.int x), l4] (st) h P) ∧
  (∀ (d : Nat) (l0 : Option Value) (l1 : Option Value) (l2 : Option Value) (l3 : Option Value) (x : Int32) (st : List Value) (h : MH) (P : MP), mnl l3 = true → mFr d 59 39 [l0, l1, l2, l3, some (.int x)] st h P = mFr d 59 42 [l0, l1, l2, l3, some (.int (x + 1))] (st) h P) ∧
  (∀ (d : Nat) (loc : List (Option Value)) (st : List Value) (h : MH) (P : MP), mFr d 59 42 loc st h P = mFr d 59 15 loc (st) h P) := ⟨fun _ _ _ _ _ _ _ _ _ => (mFr_S mq59 h59_21).trans rfl,
  fun _ _ _ _ _ => (mFr_S mq59 h59_22).trans rfl,
  fun _ _ _ _ _ _ _ => (mFr_S mq59 h59_24).trans rfl,
  fun _ _ _ _ _ _ _ _ _ => (mFr_S mq59 h59_25).trans rfl,
  fun _ _ _ _ _ _ => F_get mq59 h59_26 (Or.inl (rfl : _ = some (18, 0, 7, 3))),
  fun _ _ _ _ _ _ _ _ _ => (mFr_S mq59 h59_29).trans rfl,
  fun _ _ b a0 s0 _ _ => F_callV (as := [.int a0]) (rest := [.int s0]) mq59 (Or.inl h59_31) (rfl : _ = some (31, 6, 28, 1)) (Or.inl ⟨h59_31, by decide⟩) (by rfl) (by rfl) (by rfl) (Nat.le_of_ble_eq_true rfl),
  fun _ _ _ _ _ _ _ => (mFr_S mq59 h59_34).trans rfl,
  fun _ _ _ _ _ => (mFr_S mq59 h59_35).trans rfl,
  fun _ _ _ _ _ _ _ => (mFr_S mq59 h59_37).trans rfl,
  fun _ _ _ _ _ _ _ _ _ _ hm => (mFr_S mq59 h59_38).trans (by simp only [mgo.eq_1, mstep, mi1, ml1, mast, mst, mst2, mprev, List.length_cons, List.length_nil, List.getElem?_cons_succ, List.getElem?_cons_zero, hm]; rfl),
  fun _ _ _ _ _ _ _ _ _ hm => (mFr_S mq59 h59_39).trans (by simp only [mgo.eq_1, mstep, mld, mst, mprev, List.length_cons, List.length_nil, List.getElem?_cons_succ, List.getElem?_cons_zero, hm]; rfl),
  fun _ _ _ _ _ => F_goto 15 mq59 h59_42 (by decide)⟩
theorem E59_45 : (∀ (d : Nat) (loc : List (Option Value)) (st : List Value) (h : MH) (P : MP), mFr d 59 45 loc st h P = mFr d 59 47 loc (.int 100 :: st) h P) ∧
  (∀ (d : Nat) (l0 : Option Value) (l1 : Option Value) (l2 : Option Value) (l4 : Option Value) (x : Int32) (st : List Value) (h : MH) (P : MP), mFr d 59 47 [l0, l1, l2, some (.int x), l4] st h P = mFr d 59 48 [l0, l1, l2, some (.int x), l4] (.int x :: st) h P) ∧
  (∀ (d : Nat) (loc : List (Option Value)) (x y : Int32) (st : List Value) (h : MH) (P : MP), mFr d 59 48 loc (.int y :: .int x :: st) h P = mFr d 59 49 loc (.int (x + y) :: st) h P) ∧
  (∀ (d : Nat) (loc : List (Option Value)) (x : Int32) (h : MH) (P : MP), mFr d 59 49 loc [.int x] h P = P (some (.int x)) h) := ⟨fun _ _ _ _ _ => (mFr_S mq59 h59_45).trans rfl,
  fun _ _ _ _ _ _ _ _ _ => (mFr_S mq59 h59_47).trans rfl,
  fun _ _ _ _ _ _ _ => (mFr_S mq59 h59_48).trans rfl,
  fun _ _ _ _ _ => F_ret mq59 h59_49 rfl rfl⟩
theorem B59 : ∀ (d : Nat) (b : Nat) (a0 : Int32) (a1 : Int32) (h : MH) (P : MP), mRun (d + 1) 59 [.ref b, .int a0, .int a1] h P = mFr d 59 0 [some (.ref b), some (.int a0), some (.int a1), none, none] [] h P := fun _ _ _ _ _ _ => mRun_S mq59 (Nat.le_of_ble_eq_true rfl)
-- 60: PuncturesAreViews$Tokens.sign(I)I
def q60 : MI := (yX7_sign, cX7_sign, 2, (some .int), 7, 1)
theorem mq60 : mtab[60]? = some q60 := rfl
theorem h60_0 : mfetch q60.2.1 0 = some (.ldc 81) := by decide +kernel
theorem h60_2 : mfetch q60.2.1 2 = some (.iload_n 0) := by decide +kernel
theorem h60_3 : mfetch q60.2.1 3 = some (.i2c) := by decide +kernel
theorem h60_4 : mfetch q60.2.1 4 = some (.invokevirtual 83) := by decide +kernel
theorem h60_7 : mfetch q60.2.1 7 = some (.istore_n 1) := by decide +kernel
theorem h60_8 : mfetch q60.2.1 8 = some (.iload_n 1) := by decide +kernel
theorem h60_9 : mfetch q60.2.1 9 = some (.ifCond .ge 8) := by decide +kernel
theorem h60_12 : mfetch q60.2.1 12 = some (.bipush 21) := by decide +kernel
theorem h60_14 : mfetch q60.2.1 14 = some (.goto 7) := by decide +kernel
theorem h60_17 : mfetch q60.2.1 17 = some (.bipush 12) := by decide +kernel
theorem h60_19 : mfetch q60.2.1 19 = some (.iload_n 1) := by decide +kernel
theorem h60_20 : mfetch q60.2.1 20 = some (.iadd) := by decide +kernel
theorem h60_21 : mfetch q60.2.1 21 = some (.ireturn) := by decide +kernel
theorem E60_0 : (∀ (d : Nat) (loc : List (Option Value)) (st : List Value) (h : MH) (P : MP), mFr d 60 0 loc st h P = mFr d 60 2 loc (.ref 1012 :: st) h P) ∧
  (∀ (d : Nat) (l1 : Option Value) (x : Int32) (st : List Value) (h : MH) (P : MP), mFr d 60 2 [some (.int x), l1] st h P = mFr d 60 3 [some (.int x), l1] (.int x :: st) h P) ∧
  (∀ (d : Nat) (loc : List (Option Value)) (x : Int32) (st : List Value) (h : MH) (P : MP), mFr d 60 3 loc (.int x :: st) h P = mFr d 60 4 loc (.int ((x.toUInt32 % 65536).toInt32) :: st) h P) ∧
  (∀ (d : Nat) (loc : List (Option Value)) (b : Nat) (a0 : Int32) (h : MH) (P : MP), mFr d 60 4 loc ((.int a0) :: .ref b :: []) h P = if mrcv h b 10 = true then mRun d 194 [.ref b, .int a0] h (fun v h' => mFr d 60 7 loc (v.toList ++ []) h' P) else False) ∧
  (∀ (d : Nat) (l0 : Option Value) (l1 : Option Value) (x : Int32) (st : List Value) (h : MH) (P : MP), mnl l0 = true → mFr d 60 7 [l0, l1] (.int x :: st) h P = mFr d 60 8 [l0, some (.int x)] (st) h P) ∧
  (∀ (d : Nat) (l0 : Option Value) (x : Int32) (st : List Value) (h : MH) (P : MP), mFr d 60 8 [l0, some (.int x)] st h P = mFr d 60 9 [l0, some (.int x)] (.int x :: st) h P) ∧
  (∀ (d : Nat) (loc : List (Option Value)) (x : Int32) (st : List Value) (h : MH) (P : MP), mFr d 60 9 loc (.int x :: st) h P = if x < 0 then mFr d 60 12 loc (st) h P else mFr d 60 17 loc (st) h P) := ⟨fun _ _ _ _ _ => (mFr_S mq60 h60_0).trans rfl,
  fun _ _ _ _ _ _ => (mFr_S mq60 h60_2).trans rfl,
  fun _ _ _ _ _ _ => (mFr_S mq60 h60_3).trans rfl,
  fun _ _ b a0 _ _ => F_callV (as := [.int a0]) (rest := []) mq60 (Or.inl h60_4) (rfl : _ = some (83, 6, 194, 0)) (Or.inl ⟨h60_4, by decide⟩) (by rfl) (by rfl) (by rfl) (Nat.le_of_ble_eq_true rfl),
  fun _ _ _ _ _ _ _ hm => (mFr_S mq60 h60_7).trans (by simp only [mgo.eq_1, mstep, mi1, ml1, mast, mst, mst2, mprev, List.length_cons, List.length_nil, List.getElem?_cons_succ, List.getElem?_cons_zero, hm]; rfl),
  fun _ _ _ _ _ _ => (mFr_S mq60 h60_8).trans rfl,
  fun _ _ _ _ _ _ => (F_ifz 17 mq60 h60_9 (by decide)).trans mif_ge⟩
theorem E60_12 : (∀ (d : Nat) (loc : List (Option Value)) (st : List Value) (h : MH) (P : MP), mFr d 60 12 loc st h P = mFr d 60 14 loc (.int 21 :: st) h P) ∧
  (∀ (d : Nat) (loc : List (Option Value)) (st : List Value) (h : MH) (P : MP), mFr d 60 14 loc st h P = mFr d 60 21 loc (st) h P) := ⟨fun _ _ _ _ _ => (mFr_S mq60 h60_12).trans rfl,
  fun _ _ _ _ _ => F_goto 21 mq60 h60_14 (by decide)⟩
theorem E60_17 : (∀ (d : Nat) (loc : List (Option Value)) (st : List Value) (h : MH) (P : MP), mFr d 60 17 loc st h P = mFr d 60 19 loc (.int 12 :: st) h P) ∧
  (∀ (d : Nat) (l0 : Option Value) (x : Int32) (st : List Value) (h : MH) (P : MP), mFr d 60 19 [l0, some (.int x)] st h P = mFr d 60 20 [l0, some (.int x)] (.int x :: st) h P) ∧
  (∀ (d : Nat) (loc : List (Option Value)) (x y : Int32) (st : List Value) (h : MH) (P : MP), mFr d 60 20 loc (.int y :: .int x :: st) h P = mFr d 60 21 loc (.int (x + y) :: st) h P) := ⟨fun _ _ _ _ _ => (mFr_S mq60 h60_17).trans rfl,
  fun _ _ _ _ _ _ => (mFr_S mq60 h60_19).trans rfl,
  fun _ _ _ _ _ _ _ => (mFr_S mq60 h60_20).trans rfl⟩
theorem E60_21 : (∀ (d : Nat) (loc : List (Option Value)) (x : Int32) (h : MH) (P : MP), mFr d 60 21 loc [.int x] h P = P (some (.int x)) h) := fun _ _ _ _ _ => F_ret mq60 h60_21 rfl rfl
theorem B60 : ∀ (d : Nat) (a0 : Int32) (h : MH) (P : MP), mRun (d + 1) 60 [.int a0] h P = mFr d 60 0 [some (.int a0), none] [] h P := fun _ _ _ _ => mRun_S mq60 (Nat.le_of_ble_eq_true rfl)
