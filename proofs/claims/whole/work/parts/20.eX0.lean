/-! the instructions as equations: PuncturesAreViews$Crew -/
-- 0: PuncturesAreViews$Crew.<init>()V loops at [14]
def q0 : MI := (yX0_init, cX0_init, 2, none, 0, 0)
theorem mq0 : mtab[0]? = some q0 := rfl
theorem h0_0 : mfetch q0.2.1 0 = some (.aload_n 0) := by decide +kernel
theorem h0_1 : mfetch q0.2.1 1 = some (.invokespecial 3) := by decide +kernel
theorem h0_4 : mfetch q0.2.1 4 = some (.aload_n 0) := by decide +kernel
theorem h0_5 : mfetch q0.2.1 5 = some (.iconst 5) := by decide +kernel
theorem h0_6 : mfetch q0.2.1 6 = some (.anewarray 9) := by decide +kernel
theorem h0_9 : mfetch q0.2.1 9 = some (.putfield 11) := by decide +kernel
theorem h0_12 : mfetch q0.2.1 12 = some (.iconst 0) := by decide +kernel
theorem h0_13 : mfetch q0.2.1 13 = some (.istore_n 1) := by decide +kernel
theorem h0_14 : mfetch q0.2.1 14 = some (.iload_n 1) := by decide +kernel
theorem h0_15 : mfetch q0.2.1 15 = some (.aload_n 0) := by decide +kernel
theorem h0_16 : mfetch q0.2.1 16 = some (.getfield 11) := by decide +kernel
theorem h0_19 : mfetch q0.2.1 19 = some (.arraylength) := by decide +kernel
theorem h0_20 : mfetch q0.2.1 20 = some (.if_icmp .ge 22) := by decide +kernel
theorem h0_23 : mfetch q0.2.1 23 = some (.aload_n 0) := by decide +kernel
theorem h0_24 : mfetch q0.2.1 24 = some (.getfield 11) := by decide +kernel
theorem h0_27 : mfetch q0.2.1 27 = some (.iload_n 1) := by decide +kernel
theorem h0_28 : mfetch q0.2.1 28 = some (.new 9) := by decide +kernel
theorem h0_31 : mfetch q0.2.1 31 = some (.dup) := by decide +kernel
theorem h0_32 : mfetch q0.2.1 32 = some (.invokespecial 17) := by decide +kernel
theorem h0_35 : mfetch q0.2.1 35 = some (.aastore) := by decide +kernel
theorem h0_36 : mfetch q0.2.1 36 = some (.iinc 1 1) := by decide +kernel
theorem h0_39 : mfetch q0.2.1 39 = some (.goto (-25)) := by decide +kernel
theorem h0_42 : mfetch q0.2.1 42 = some (.return_) := by decide +kernel
theorem E0_0 : (∀ (d : Nat) (l1 : Option Value) (x : Nat) (st : List Value) (h : MH) (P : MP), mFr d 0 0 [some (.ref x), l1] st h P = mFr d 0 1 [some (.ref x), l1] (.ref x :: st) h P) ∧
  (∀ (d : Nat) (loc : List (Option Value)) (a : Nat) (h : MH) (P : MP), mFr d 0 1 loc [.ref a] h P = if a < 900 then mFr d 0 4 loc ([]) h P else False) ∧
  (∀ (d : Nat) (l1 : Option Value) (x : Nat) (st : List Value) (h : MH) (P : MP), mFr d 0 4 [some (.ref x), l1] st h P = mFr d 0 5 [some (.ref x), l1] (.ref x :: st) h P) ∧
  (∀ (d : Nat) (loc : List (Option Value)) (st : List Value) (h : MH) (P : MP), mFr d 0 5 loc st h P = mFr d 0 6 loc (.int 5 :: st) h P) ∧
  (∀ (d : Nat) (loc : List (Option Value)) (a : Nat) (x : Nat) (st : List Value) (h : MH) (P : MP), mFr d 0 9 loc (.ref x :: .ref a :: st) h P = pput h a 0 0 (.ref x) (fun h' => mFr d 0 12 loc (st) h' P)) ∧
  (∀ (d : Nat) (loc : List (Option Value)) (st : List Value) (h : MH) (P : MP), mFr d 0 12 loc st h P = mFr d 0 13 loc (.int 0 :: st) h P) ∧
  (∀ (d : Nat) (l0 : Option Value) (l1 : Option Value) (x : Int32) (st : List Value) (h : MH) (P : MP), mnl l0 = true → mFr d 0 13 [l0, l1] (.int x :: st) h P = mFr d 0 14 [l0, some (.int x)] (st) h P) := ⟨fun _ _ _ _ _ _ => (mFr_S mq0 h0_0).trans rfl,
  fun _ _ _ _ _ => F_obj mq0 h0_1 (rfl : _ = some (3, 7, 0, 0)) (Nat.zero_le _),
  fun _ _ _ _ _ _ => (mFr_S mq0 h0_4).trans rfl,
  fun _ _ _ _ _ => (mFr_S mq0 h0_5).trans rfl,
  fun _ _ _ _ _ _ _ => F_put mq0 h0_9 (Or.inl ⟨(rfl : _ = some (11, 0, 0, 0)), Or.inr ⟨by decide, rfl⟩⟩),
  fun _ _ _ _ _ => (mFr_S mq0 h0_12).trans rfl,
  fun _ _ _ _ _ _ _ hm => (mFr_S mq0 h0_13).trans (by simp only [mgo.eq_1, mstep, mi1, ml1, mast, mst, mst2, mprev, List.length_cons, List.length_nil, List.getElem?_cons_succ, List.getElem?_cons_zero, hm]; rfl)⟩
theorem E0_14 : (∀ (d : Nat) (l0 : Option Value) (x : Int32) (st : List Value) (h : MH) (P : MP), mFr d 0 14 [l0, some (.int x)] st h P = mFr d 0 15 [l0, some (.int x)] (.int x :: st) h P) ∧
  (∀ (d : Nat) (l1 : Option Value) (x : Nat) (st : List Value) (h : MH) (P : MP), mFr d 0 15 [some (.ref x), l1] st h P = mFr d 0 16 [some (.ref x), l1] (.ref x :: st) h P) ∧
  (∀ (d : Nat) (loc : List (Option Value)) (a : Nat) (st : List Value) (h : MH) (P : MP), mFr d 0 16 loc (.ref a :: st) h P = pget h a 0 0 (fun v => mFr d 0 19 loc (v :: st) h P)) ∧
  (∀ (d : Nat) (loc : List (Option Value)) (a : Nat) (st : List Value) (h : MH) (P : MP), mFr d 0 19 loc (.ref a :: st) h P = palen h a (fun n => mFr d 0 20 loc (.int (Int32.ofNat n) :: st) h P)) ∧
  (∀ (d : Nat) (loc : List (Option Value)) (x y : Int32) (st : List Value) (h : MH) (P : MP), mFr d 0 20 loc (.int y :: .int x :: st) h P = if x < y then mFr d 0 23 loc (st) h P else mFr d 0 42 loc (st) h P) := ⟨fun _ _ _ _ _ _ => (mFr_S mq0 h0_14).trans rfl,
  fun _ _ _ _ _ _ => (mFr_S mq0 h0_15).trans rfl,
  fun _ _ _ _ _ _ => F_get mq0 h0_16 (Or.inl (rfl : _ = some (11, 0, 0, 0))),
  fun _ _ _ _ _ _ => F_alen mq0 h0_19,
  fun _ _ _ _ _ _ _ => (F_icmp 42 mq0 h0_20 (by decide)).trans mif_ge⟩
theorem E0_23 : (∀ (d : Nat) (l1 : Option Value) (x : Nat) (st : List Value) (h : MH) (P : MP), mFr d 0 23 [some (.ref x), l1] st h P = mFr d 0 24 [some (.ref x), l1] (.ref x :: st) h P) ∧
  (∀ (d : Nat) (loc : List (Option Value)) (a : Nat) (st : List Value) (h : MH) (P : MP), mFr d 0 24 loc (.ref a :: st) h P = pget h a 0 0 (fun v => mFr d 0 27 loc (v :: st) h P)) ∧
  (∀ (d : Nat) (l0 : Option Value) (x : Int32) (st : List Value) (h : MH) (P : MP), mFr d 0 27 [l0, some (.int x)] st h P = mFr d 0 28 [l0, some (.int x)] (.int x :: st) h P) ∧
  (∀ (d : Nat) (loc : List (Option Value)) (x : Nat) (st : List Value) (h : MH) (P : MP), mFr d 0 31 loc (.ref x :: st) h P = mFr d 0 32 loc (.ref x :: .ref x :: st) h P) ∧
  (∀ (d : Nat) (loc : List (Option Value)) (b : Nat) (s0 : Nat) (s1 : Int32) (s2 : Nat) (h : MH) (P : MP), mFr d 0 32 loc (.ref b :: [.ref s0, .int s1, .ref s2]) h P = if mrcv h b 1 = true then mRun d 7 [.ref b] h (fun v h' => mFr d 0 35 loc (v.toList ++ [.ref s0, .int s1, .ref s2]) h' P) else False) ∧
  (∀ (d : Nat) (l0 : Option Value) (x : Int32) (st : List Value) (h : MH) (P : MP), mnl l0 = true → mFr d 0 36 [l0, some (.int x)] st h P = mFr d 0 39 [l0, some (.int (x + 1))] (st) h P) ∧
  (∀ (d : Nat) (loc : List (Option Value)) (st : List Value) (h : MH) (P : MP), mFr d 0 39 loc st h P = mFr d 0 14 loc (st) h P) := ⟨fun _ _ _ _ _ _ => (mFr_S mq0 h0_23).trans rfl,
  fun _ _ _ _ _ _ => F_get mq0 h0_24 (Or.inl (rfl : _ = some (11, 0, 0, 0))),
  fun _ _ _ _ _ _ => (mFr_S mq0 h0_27).trans rfl,
  fun _ _ _ _ _ _ => (mFr_S mq0 h0_31).trans rfl,
  fun _ _ b s0 s1 s2 _ _ => F_callV (as := []) (rest := [.ref s0, .int s1, .ref s2]) mq0 (Or.inr h0_32) (rfl : _ = some (17, 6, 7, 5)) (Or.inr ⟨h0_32, by decide⟩) (by rfl) (by rfl) (by rfl) (Nat.le_of_ble_eq_true rfl),
  fun _ _ _ _ _ _ hm => (mFr_S mq0 h0_36).trans (by simp only [mgo.eq_1, mstep, mld, mst, mprev, List.length_cons, List.length_nil, List.getElem?_cons_succ, List.getElem?_cons_zero, hm]; rfl),
  fun _ _ _ _ _ => F_goto 14 mq0 h0_39 (by decide)⟩
theorem E0_42 : (∀ (d : Nat) (loc : List (Option Value)) (h : MH) (P : MP), mFr d 0 42 loc [] h P = P none h) := fun _ _ _ _ => (mFr_S mq0 h0_42).trans rfl
theorem B0 : ∀ (d : Nat) (b : Nat) (h : MH) (P : MP), mRun (d + 1) 0 [.ref b] h P = mFr d 0 0 [some (.ref b), none] [] h P := fun _ _ _ _ => mRun_S mq0 (Nat.le_of_ble_eq_true rfl)
-- 1: PuncturesAreViews$Crew.seat(I)LPuncturesAreViews$Rider;
def q1 : MI := (yX0_seat, cX0_seat, 2, (some (.object "PuncturesAreViews$Rider")), 0, 1)
theorem mq1 : mtab[1]? = some q1 := rfl
theorem h1_0 : mfetch q1.2.1 0 = some (.iload_n 1) := by decide +kernel
theorem h1_1 : mfetch q1.2.1 1 = some (.ifCond .lt 29) := by decide +kernel
theorem h1_4 : mfetch q1.2.1 4 = some (.iload_n 1) := by decide +kernel
theorem h1_5 : mfetch q1.2.1 5 = some (.aload_n 0) := by decide +kernel
theorem h1_6 : mfetch q1.2.1 6 = some (.getfield 18) := by decide +kernel
theorem h1_9 : mfetch q1.2.1 9 = some (.if_icmp .ge 21) := by decide +kernel
theorem h1_12 : mfetch q1.2.1 12 = some (.iload_n 1) := by decide +kernel
theorem h1_13 : mfetch q1.2.1 13 = some (.aload_n 0) := by decide +kernel
theorem h1_14 : mfetch q1.2.1 14 = some (.getfield 11) := by decide +kernel
theorem h1_17 : mfetch q1.2.1 17 = some (.arraylength) := by decide +kernel
theorem h1_18 : mfetch q1.2.1 18 = some (.if_icmp .ge 12) := by decide +kernel
theorem h1_21 : mfetch q1.2.1 21 = some (.aload_n 0) := by decide +kernel
theorem h1_22 : mfetch q1.2.1 22 = some (.getfield 11) := by decide +kernel
theorem h1_25 : mfetch q1.2.1 25 = some (.iload_n 1) := by decide +kernel
theorem h1_26 : mfetch q1.2.1 26 = some (.aaload) := by decide +kernel
theorem h1_27 : mfetch q1.2.1 27 = some (.goto 4) := by decide +kernel
theorem h1_30 : mfetch q1.2.1 30 = some (.aconst_null) := by decide +kernel
theorem h1_31 : mfetch q1.2.1 31 = some (.areturn) := by decide +kernel
theorem E1_0 : (∀ (d : Nat) (l0 : Option Value) (x : Int32) (st : List Value) (h : MH) (P : MP), mFr d 1 0 [l0, some (.int x)] st h P = mFr d 1 1 [l0, some (.int x)] (.int x :: st) h P) ∧
  (∀ (d : Nat) (loc : List (Option Value)) (x : Int32) (st : List Value) (h : MH) (P : MP), mFr d 1 1 loc (.int x :: st) h P = if x < 0 then mFr d 1 30 loc (st) h P else mFr d 1 4 loc (st) h P) := ⟨fun _ _ _ _ _ _ => (mFr_S mq1 h1_0).trans rfl,
  fun _ _ _ _ _ _ => (F_ifz 30 mq1 h1_1 (by decide)).trans mif_lt⟩
theorem E1_4 : (∀ (d : Nat) (l0 : Option Value) (x : Int32) (st : List Value) (h : MH) (P : MP), mFr d 1 4 [l0, some (.int x)] st h P = mFr d 1 5 [l0, some (.int x)] (.int x :: st) h P) ∧
  (∀ (d : Nat) (l1 : Option Value) (x : Nat) (st : List Value) (h : MH) (P : MP), mFr d 1 5 [some (.ref x), l1] st h P = mFr d 1 6 [some (.ref x), l1] (.ref x :: st) h P) ∧
  (∀ (d : Nat) (loc : List (Option Value)) (a : Nat) (st : List Value) (h : MH) (P : MP), mFr d 1 6 loc (.ref a :: st) h P = pget h a 0 1 (fun v => mFr d 1 9 loc (v :: st) h P)) ∧
  (∀ (d : Nat) (loc : List (Option Value)) (x y : Int32) (st : List Value) (h : MH) (P : MP), mFr d 1 9 loc (.int y :: .int x :: st) h P = if x < y then mFr d 1 12 loc (st) h P else mFr d 1 30 loc (st) h P) := ⟨fun _ _ _ _ _ _ => (mFr_S mq1 h1_4).trans rfl,
  fun _ _ _ _ _ _ => (mFr_S mq1 h1_5).trans rfl,
  fun _ _ _ _ _ _ => F_get mq1 h1_6 (Or.inl (rfl : _ = some (18, 0, 0, 1))),
  fun _ _ _ _ _ _ _ => (F_icmp 30 mq1 h1_9 (by decide)).trans mif_ge⟩
theorem E1_12 : (∀ (d : Nat) (l0 : Option Value) (x : Int32) (st : List Value) (h : MH) (P : MP), mFr d 1 12 [l0, some (.int x)] st h P = mFr d 1 13 [l0, some (.int x)] (.int x :: st) h P) ∧
  (∀ (d : Nat) (l1 : Option Value) (x : Nat) (st : List Value) (h : MH) (P : MP), mFr d 1 13 [some (.ref x), l1] st h P = mFr d 1 14 [some (.ref x), l1] (.ref x :: st) h P) ∧
  (∀ (d : Nat) (loc : List (Option Value)) (a : Nat) (st : List Value) (h : MH) (P : MP), mFr d 1 14 loc (.ref a :: st) h P = pget h a 0 0 (fun v => mFr d 1 17 loc (v :: st) h P)) ∧
  (∀ (d : Nat) (loc : List (Option Value)) (a : Nat) (st : List Value) (h : MH) (P : MP), mFr d 1 17 loc (.ref a :: st) h P = palen h a (fun n => mFr d 1 18 loc (.int (Int32.ofNat n) :: st) h P)) ∧
  (∀ (d : Nat) (loc : List (Option Value)) (x y : Int32) (st : List Value) (h : MH) (P : MP), mFr d 1 18 loc (.int y :: .int x :: st) h P = if x < y then mFr d 1 21 loc (st) h P else mFr d 1 30 loc (st) h P) := ⟨fun _ _ _ _ _ _ => (mFr_S mq1 h1_12).trans rfl,
  fun _ _ _ _ _ _ => (mFr_S mq1 h1_13).trans rfl,
  fun _ _ _ _ _ _ => F_get mq1 h1_14 (Or.inl (rfl : _ = some (11, 0, 0, 0))),
  fun _ _ _ _ _ _ => F_alen mq1 h1_17,
  fun _ _ _ _ _ _ _ => (F_icmp 30 mq1 h1_18 (by decide)).trans mif_ge⟩
theorem E1_21 : (∀ (d : Nat) (l1 : Option Value) (x : Nat) (st : List Value) (h : MH) (P : MP), mFr d 1 21 [some (.ref x), l1] st h P = mFr d 1 22 [some (.ref x), l1] (.ref x :: st) h P) ∧
  (∀ (d : Nat) (loc : List (Option Value)) (a : Nat) (st : List Value) (h : MH) (P : MP), mFr d 1 22 loc (.ref a :: st) h P = pget h a 0 0 (fun v => mFr d 1 25 loc (v :: st) h P)) ∧
  (∀ (d : Nat) (l0 : Option Value) (x : Int32) (st : List Value) (h : MH) (P : MP), mFr d 1 25 [l0, some (.int x)] st h P = mFr d 1 26 [l0, some (.int x)] (.int x :: st) h P) ∧
  (∀ (d : Nat) (loc : List (Option Value)) (a : Nat) (i : Int32) (st : List Value) (h : MH) (P : MP), mFr d 1 26 loc (.int i :: .ref a :: st) h P = paal h a i (fun v => mFr d 1 27 loc (v :: st) h P)) ∧
  (∀ (d : Nat) (loc : List (Option Value)) (st : List Value) (h : MH) (P : MP), mFr d 1 27 loc st h P = mFr d 1 31 loc (st) h P) := ⟨fun _ _ _ _ _ _ => (mFr_S mq1 h1_21).trans rfl,
  fun _ _ _ _ _ _ => F_get mq1 h1_22 (Or.inl (rfl : _ = some (11, 0, 0, 0))),
  fun _ _ _ _ _ _ => (mFr_S mq1 h1_25).trans rfl,
  fun _ _ _ _ _ _ _ => F_aald mq1 h1_26,
  fun _ _ _ _ _ => F_goto 31 mq1 h1_27 (by decide)⟩
theorem E1_30 : (∀ (d : Nat) (loc : List (Option Value)) (st : List Value) (h : MH) (P : MP), mFr d 1 30 loc st h P = mFr d 1 31 loc (.null :: st) h P) := fun _ _ _ _ _ => (mFr_S mq1 h1_30).trans rfl
theorem E1_31 : (∀ (d : Nat) (loc : List (Option Value)) (x : Nat) (h : MH) (P : MP), mFr d 1 31 loc [.ref x] h P = P (some (.ref x)) h) ∧
  (∀ (d : Nat) (loc : List (Option Value)) (h : MH) (P : MP), mFr d 1 31 loc [.null] h P = P (some .null) h) := ⟨fun _ _ _ _ _ => (mFr_S mq1 h1_31).trans rfl,
  fun _ _ _ _ => (mFr_S mq1 h1_31).trans rfl⟩
theorem B1 : ∀ (d : Nat) (b : Nat) (a0 : Int32) (h : MH) (P : MP), mRun (d + 1) 1 [.ref b, .int a0] h P = mFr d 1 0 [some (.ref b), some (.int a0)] [] h P := fun _ _ _ _ _ => mRun_S mq1 (Nat.le_of_ble_eq_true rfl)
-- 2: PuncturesAreViews$Crew.newcomers(III)I
def q2 : MI := (yX0_admit, cX0_admit, 4, (some .int), 0, 3)
theorem mq2 : mtab[2]? = some q2 := rfl
theorem h2_0 : mfetch q2.2.1 0 = some (.aload_n 0) := by decide +kernel
theorem h2_1 : mfetch q2.2.1 1 = some (.getfield 18) := by decide +kernel
theorem h2_4 : mfetch q2.2.1 4 = some (.aload_n 0) := by decide +kernel
theorem h2_5 : mfetch q2.2.1 5 = some (.getfield 11) := by decide +kernel
theorem h2_8 : mfetch q2.2.1 8 = some (.arraylength) := by decide +kernel
theorem h2_9 : mfetch q2.2.1 9 = some (.if_icmp .lt 6) := by decide +kernel
theorem h2_12 : mfetch q2.2.1 12 = some (.bipush (-4)) := by decide +kernel
theorem h2_14 : mfetch q2.2.1 14 = some (.ireturn) := by decide +kernel
theorem h2_15 : mfetch q2.2.1 15 = some (.aload_n 0) := by decide +kernel
theorem h2_16 : mfetch q2.2.1 16 = some (.getfield 11) := by decide +kernel
theorem h2_19 : mfetch q2.2.1 19 = some (.aload_n 0) := by decide +kernel
theorem h2_20 : mfetch q2.2.1 20 = some (.getfield 18) := by decide +kernel
theorem h2_23 : mfetch q2.2.1 23 = some (.aaload) := by decide +kernel
theorem h2_24 : mfetch q2.2.1 24 = some (.iload_n 1) := by decide +kernel
theorem h2_25 : mfetch q2.2.1 25 = some (.iload_n 2) := by decide +kernel
theorem h2_26 : mfetch q2.2.1 26 = some (.iload_n 3) := by decide +kernel
theorem h2_27 : mfetch q2.2.1 27 = some (.invokevirtual 22) := by decide +kernel
theorem h2_30 : mfetch q2.2.1 30 = some (.aload_n 0) := by decide +kernel
theorem h2_31 : mfetch q2.2.1 31 = some (.dup) := by decide +kernel
theorem h2_32 : mfetch q2.2.1 32 = some (.getfield 18) := by decide +kernel
theorem h2_35 : mfetch q2.2.1 35 = some (.iconst 1) := by decide +kernel
theorem h2_36 : mfetch q2.2.1 36 = some (.iadd) := by decide +kernel
theorem h2_37 : mfetch q2.2.1 37 = some (.putfield 18) := by decide +kernel
theorem h2_40 : mfetch q2.2.1 40 = some (.aload_n 0) := by decide +kernel
theorem h2_41 : mfetch q2.2.1 41 = some (.getfield 18) := by decide +kernel
theorem h2_44 : mfetch q2.2.1 44 = some (.iconst 1) := by decide +kernel
theorem h2_45 : mfetch q2.2.1 45 = some (.isub) := by decide +kernel
theorem h2_46 : mfetch q2.2.1 46 = some (.ireturn) := by decide +kernel
theorem E2_0 : (∀ (d : Nat) (l1 : Option Value) (l2 : Option Value) (l3 : Option Value) (x : Nat) (st : List Value) (h : MH) (P : MP), mFr d 2 0 [some (.ref x), l1, l2, l3] st h P = mFr d 2 1 [some (.ref x), l1, l2, l3] (.ref x :: st) h P) ∧
  (∀ (d : Nat) (loc : List (Option Value)) (a : Nat) (st : List Value) (h : MH) (P : MP), mFr d 2 1 loc (.ref a :: st) h P = pget h a 0 1 (fun v => mFr d 2 4 loc (v :: st) h P)) ∧
  (∀ (d : Nat) (l1 : Option Value) (l2 : Option Value) (l3 : Option Value) (x : Nat) (st : List Value) (h : MH) (P : MP), mFr d 2 4 [some (.ref x), l1, l2, l3] st h P = mFr d 2 5 [some (.ref x), l1, l2, l3] (.ref x :: st) h P) ∧
  (∀ (d : Nat) (loc : List (Option Value)) (a : Nat) (st : List Value) (h : MH) (P : MP), mFr d 2 5 loc (.ref a :: st) h P = pget h a 0 0 (fun v => mFr d 2 8 loc (v :: st) h P)) ∧
  (∀ (d : Nat) (loc : List (Option Value)) (a : Nat) (st : List Value) (h : MH) (P : MP), mFr d 2 8 loc (.ref a :: st) h P = palen h a (fun n => mFr d 2 9 loc (.int (Int32.ofNat n) :: st) h P)) ∧
  (∀ (d : Nat) (loc : List (Option Value)) (x y : Int32) (st : List Value) (h : MH) (P : MP), mFr d 2 9 loc (.int y :: .int x :: st) h P = if x < y then mFr d 2 15 loc (st) h P else mFr d 2 12 loc (st) h P) := ⟨fun _ _ _ _ _ _ _ _ => (mFr_S mq2 h2_0).trans rfl,
  fun _ _ _ _ _ _ => F_get mq2 h2_1 (Or.inl (rfl : _ = some (18, 0, 0, 1))),
  fun _ _ _ _ _ _ _ _ => (mFr_S mq2 h2_4).trans rfl,
  fun _ _ _ _ _ _ => F_get mq2 h2_5 (Or.inl (rfl : _ = some (11, 0, 0, 0))),
  fun _ _ _ _ _ _ => F_alen mq2 h2_8,
  fun _ _ _ _ _ _ _ => (F_icmp 15 mq2 h2_9 (by decide)).trans mif_lt⟩
theorem E2_12 : (∀ (d : Nat) (loc : List (Option Value)) (st : List Value) (h : MH) (P : MP), mFr d 2 12 loc st h P = mFr d 2 14 loc (.int (-4) :: st) h P) ∧
  (∀ (d : Nat) (loc : List (Option Value)) (x : Int32) (h : MH) (P : MP), mFr d 2 14 loc [.int x] h P = P (some (.int x)) h) := ⟨fun _ _ _ _ _ => (mFr_S mq2 h2_12).trans rfl,
  fun _ _ _ _ _ => F_ret mq2 h2_14 rfl rfl⟩
theorem E2_15 : (∀ (d : Nat) (l1 : Option Value) (l2 : Option Value) (l3 : Option Value) (x : Nat) (st : List Value) (h : MH) (P : MP), mFr d 2 15 [some (.ref x), l1, l2, l3] st h P = mFr d 2 16 [some (.ref x), l1, l2, l3] (.ref x :: st) h P) ∧
  (∀ (d : Nat) (loc : List (Option Value)) (a : Nat) (st : List Value) (h : MH) (P : MP), mFr d 2 16 loc (.ref a :: st) h P = pget h a 0 0 (fun v => mFr d 2 19 loc (v :: st) h P)) ∧
  (∀ (d : Nat) (l1 : Option Value) (l2 : Option Value) (l3 : Option Value) (x : Nat) (st : List Value) (h : MH) (P : MP), mFr d 2 19 [some (.ref x), l1, l2, l3] st h P = mFr d 2 20 [some (.ref x), l1, l2, l3] (.ref x :: st) h P) ∧
  (∀ (d : Nat) (loc : List (Option Value)) (a : Nat) (st : List Value) (h : MH) (P : MP), mFr d 2 20 loc (.ref a :: st) h P = pget h a 0 1 (fun v => mFr d 2 23 loc (v :: st) h P)) ∧
  (∀ (d : Nat) (loc : List (Option Value)) (a : Nat) (i : Int32) (st : List Value) (h : MH) (P : MP), mFr d 2 23 loc (.int i :: .ref a :: st) h P = paal h a i (fun v => mFr d 2 24 loc (v :: st) h P)) ∧
  (∀ (d : Nat) (l0 : Option Value) (l2 : Option Value) (l3 : Option Value) (x : Int32) (st : List Value) (h : MH) (P : MP), mFr d 2 24 [l0, some (.int x), l2, l3] st h P = mFr d 2 25 [l0, some (.int x), l2, l3] (.int x :: st) h P) ∧
  (∀ (d : Nat) (l0 : Option Value) (l1 : Option Value) (l3 : Option Value) (x : Int32) (st : List Value) (h : MH) (P : MP), mFr d 2 25 [l0, l1, some (.int x), l3] st h P = mFr d 2 26 [l0, l1, some (.int x), l3] (.int x :: st) h P) ∧
  (∀ (d : Nat) (l0 : Option Value) (l1 : Option Value) (l2 : Option Value) (x : Int32) (st : List Value) (h : MH) (P : MP), mFr d 2 26 [l0, l1, l2, some (.int x)] st h P = mFr d 2 27 [l0, l1, l2, some (.int x)] (.int x :: st) h P) ∧
  (∀ (d : Nat) (loc : List (Option Value)) (b : Nat) (a0 : Int32) (a1 : Int32) (a2 : Int32) (h : MH) (P : MP), mFr d 2 27 loc ((.int a2) :: (.int a1) :: (.int a0) :: .ref b :: []) h P = if mrcv h b 1 = true then mRun d 8 [.ref b, .int a0, .int a1, .int a2] h (fun v h' => mFr d 2 30 loc (v.toList ++ []) h' P) else False) ∧
  (∀ (d : Nat) (l1 : Option Value) (l2 : Option Value) (l3 : Option Value) (x : Nat) (st : List Value) (h : MH) (P : MP), mFr d 2 30 [some (.ref x), l1, l2, l3] st h P = mFr d 2 31 [some (.ref x), l1, l2, l3] (.ref x :: st) h P) ∧
  (∀ (d : Nat) (loc : List (Option Value)) (x : Nat) (st : List Value) (h : MH) (P : MP), mFr d 2 31 loc (.ref x :: st) h P = mFr d 2 32 loc (.ref x :: .ref x :: st) h P) ∧
  (∀ (d : Nat) (loc : List (Option Value)) (a : Nat) (st : List Value) (h : MH) (P : MP), mFr d 2 32 loc (.ref a :: st) h P = pget h a 0 1 (fun v => mFr d 2 35 loc (v :: st) h P)) ∧
  (∀ (d : Nat) (loc : List (Option Value)) (st : List Value) (h : MH) (P : MP), mFr d 2 35 loc st h P = mFr d 2 36 loc (.int 1 :: st) h P) ∧
  (∀ (d : Nat) (loc : List (Option Value)) (x y : Int32) (st : List Value) (h : MH) (P : MP), mFr d 2 36 loc (.int y :: .int x :: st) h P = mFr d 2 37 loc (.int (x + y) :: st) h P) ∧
  (∀ (d : Nat) (loc : List (Option Value)) (a : Nat) (x : Int32) (st : List Value) (h : MH) (P : MP), mFr d 2 37 loc (.int x :: .ref a :: st) h P = pput h a 0 1 (.int x) (fun h' => mFr d 2 40 loc (st) h' P)) ∧
  (∀ (d : Nat) (l1 : Option Value) (l2 : Option Value) (l3 : Option Value) (x : Nat) (st : List Value) (h : MH) (P : MP), mFr d 2 40 [some (.ref x), l1, l2, l3] st h P = mFr d 2 41 [some (.ref x), l1, l2, l3] (.ref x :: st) h P) ∧
  (∀ (d : Nat) (loc : List (Option Value)) (a : Nat) (st : List Value) (h : MH) (P : MP), mFr d 2 41 loc (.ref a :: st) h P = pget h a 0 1 (fun v => mFr d 2 44 loc (v :: st) h P)) ∧
  (∀ (d : Nat) (loc : List (Option Value)) (st : List Value) (h : MH) (P : MP), mFr d 2 44 loc st h P = mFr d 2 45 loc (.int 1 :: st) h P) ∧
  (∀ (d : Nat) (loc : List (Option Value)) (x y : Int32) (st : List Value) (h : MH) (P : MP), mFr d 2 45 loc (.int y :: .int x :: st) h P = mFr d 2 46 loc (.int (x - y) :: st) h P) ∧
  (∀ (d : Nat) (loc : List (Option Value)) (x : Int32) (h : MH) (P : MP), mFr d 2 46 loc [.int x] h P = P (some (.int x)) h) := ⟨fun _ _ _ _ _ _ _ _ => (mFr_S mq2 h2_15).trans rfl,
  fun _ _ _ _ _ _ => F_get mq2 h2_16 (Or.inl (rfl : _ = some (11, 0, 0, 0))),
  fun _ _ _ _ _ _ _ _ => (mFr_S mq2 h2_19).trans rfl,
  fun _ _ _ _ _ _ => F_get mq2 h2_20 (Or.inl (rfl : _ = some (18, 0, 0, 1))),
  fun _ _ _ _ _ _ _ => F_aald mq2 h2_23,
  fun _ _ _ _ _ _ _ _ => (mFr_S mq2 h2_24).trans rfl,
  fun _ _ _ _ _ _ _ _ => (mFr_S mq2 h2_25).trans rfl,
  fun _ _ _ _ _ _ _ _ => (mFr_S mq2 h2_26).trans rfl,
  fun _ _ b a0 a1 a2 _ _ => F_callV (as := [.int a0, .int a1, .int a2]) (rest := []) mq2 (Or.inl h2_27) (rfl : _ = some (22, 6, 8, 1)) (Or.inl ⟨h2_27, by decide⟩) (by rfl) (by rfl) (by rfl) (Nat.le_of_ble_eq_true rfl),
  fun _ _ _ _ _ _ _ _ => (mFr_S mq2 h2_30).trans rfl,
  fun _ _ _ _ _ _ => (mFr_S mq2 h2_31).trans rfl,
  fun _ _ _ _ _ _ => F_get mq2 h2_32 (Or.inl (rfl : _ = some (18, 0, 0, 1))),
  fun _ _ _ _ _ => (mFr_S mq2 h2_35).trans rfl,
  fun _ _ _ _ _ _ _ => (mFr_S mq2 h2_36).trans rfl,
  fun _ _ _ _ _ _ _ => F_put mq2 h2_37 (Or.inl ⟨(rfl : _ = some (18, 0, 0, 1)), Or.inl rfl⟩),
  fun _ _ _ _ _ _ _ _ => (mFr_S mq2 h2_40).trans rfl,
  fun _ _ _ _ _ _ => F_get mq2 h2_41 (Or.inl (rfl : _ = some (18, 0, 0, 1))),
  fun _ _ _ _ _ => (mFr_S mq2 h2_44).trans rfl,
  fun _ _ _ _ _ _ _ => (mFr_S mq2 h2_45).trans rfl,
  fun _ _ _ _ _ => F_ret mq2 h2_46 rfl rfl⟩
theorem B2 : ∀ (d : Nat) (b : Nat) (a0 : Int32) (a1 : Int32) (a2 : Int32) (h : MH) (P : MP), mRun (d + 1) 2 [.ref b, .int a0, .int a1, .int a2] h P = mFr d 2 0 [some (.ref b), some (.int a0), some (.int a1), some (.int a2)] [] h P := fun _ _ _ _ _ _ _ => mRun_S mq2 (Nat.le_of_ble_eq_true rfl)
-- 3: PuncturesAreViews$Crew.become(LPuncturesAreViews$Crew;)V loops at [2]
def q3 : MI := (yX0_become, cX0_become, 3, none, 0, 1)
theorem mq3 : mtab[3]? = some q3 := rfl
theorem h3_0 : mfetch q3.2.1 0 = some (.iconst 0) := by decide +kernel
theorem h3_1 : mfetch q3.2.1 1 = some (.istore_n 2) := by decide +kernel
theorem h3_2 : mfetch q3.2.1 2 = some (.iload_n 2) := by decide +kernel
theorem h3_3 : mfetch q3.2.1 3 = some (.aload_n 0) := by decide +kernel
theorem h3_4 : mfetch q3.2.1 4 = some (.getfield 11) := by decide +kernel
theorem h3_7 : mfetch q3.2.1 7 = some (.arraylength) := by decide +kernel
theorem h3_8 : mfetch q3.2.1 8 = some (.if_icmp .ge 24) := by decide +kernel
theorem h3_11 : mfetch q3.2.1 11 = some (.aload_n 0) := by decide +kernel
theorem h3_12 : mfetch q3.2.1 12 = some (.getfield 11) := by decide +kernel
theorem h3_15 : mfetch q3.2.1 15 = some (.iload_n 2) := by decide +kernel
theorem h3_16 : mfetch q3.2.1 16 = some (.aaload) := by decide +kernel
theorem h3_17 : mfetch q3.2.1 17 = some (.aload_n 1) := by decide +kernel
theorem h3_18 : mfetch q3.2.1 18 = some (.getfield 11) := by decide +kernel
theorem h3_21 : mfetch q3.2.1 21 = some (.iload_n 2) := by decide +kernel
theorem h3_22 : mfetch q3.2.1 22 = some (.aaload) := by decide +kernel
theorem h3_23 : mfetch q3.2.1 23 = some (.invokevirtual 26) := by decide +kernel
theorem h3_26 : mfetch q3.2.1 26 = some (.iinc 2 1) := by decide +kernel
theorem h3_29 : mfetch q3.2.1 29 = some (.goto (-27)) := by decide +kernel
theorem h3_32 : mfetch q3.2.1 32 = some (.aload_n 0) := by decide +kernel
theorem h3_33 : mfetch q3.2.1 33 = some (.aload_n 1) := by decide +kernel
theorem h3_34 : mfetch q3.2.1 34 = some (.getfield 18) := by decide +kernel
theorem h3_37 : mfetch q3.2.1 37 = some (.putfield 18) := by decide +kernel
theorem h3_40 : mfetch q3.2.1 40 = some (.return_) := by decide +kernel
theorem E3_0 : (∀ (d : Nat) (loc : List (Option Value)) (st : List Value) (h : MH) (P : MP), mFr d 3 0 loc st h P = mFr d 3 1 loc (.int 0 :: st) h P) ∧
  (∀ (d : Nat) (l0 : Option Value) (l1 : Option Value) (l2 : Option Value) (x : Int32) (st : List Value) (h : MH) (P : MP), mnl l1 = true → mFr d 3 1 [l0, l1, l2] (.int x :: st) h P = mFr d 3 2 [l0, l1, some (.int x)] (st) h P) := ⟨fun _ _ _ _ _ => (mFr_S mq3 h3_0).trans rfl,
  fun _ _ _ _ _ _ _ _ hm => (mFr_S mq3 h3_1).trans (by simp only [mgo.eq_1, mstep, mi1, ml1, mast, mst, mst2, mprev, List.length_cons, List.length_nil, List.getElem?_cons_succ, List.getElem?_cons_zero, hm]; rfl)⟩
theorem E3_2 : (∀ (d : Nat) (l0 : Option Value) (l1 : Option Value) (x : Int32) (st : List Value) (h : MH) (P : MP), mFr d 3 2 [l0, l1, some (.int x)] st h P = mFr d 3 3 [l0, l1, some (.int x)] (.int x :: st) h P) ∧
  (∀ (d : Nat) (l1 : Option Value) (l2 : Option Value) (x : Nat) (st : List Value) (h : MH) (P : MP), mFr d 3 3 [some (.ref x), l1, l2] st h P = mFr d 3 4 [some (.ref x), l1, l2] (.ref x :: st) h P) ∧
  (∀ (d : Nat) (loc : List (Option Value)) (a : Nat) (st : List Value) (h : MH) (P : MP), mFr d 3 4 loc (.ref a :: st) h P = pget h a 0 0 (fun v => mFr d 3 7 loc (v :: st) h P)) ∧
  (∀ (d : Nat) (loc : List (Option Value)) (a : Nat) (st : List Value) (h : MH) (P : MP), mFr d 3 7 loc (.ref a :: st) h P = palen h a (fun n => mFr d 3 8 loc (.int (Int32.ofNat n) :: st) h P)) ∧
  (∀ (d : Nat) (loc : List (Option Value)) (x y : Int32) (st : List Value) (h : MH) (P : MP), mFr d 3 8 loc (.int y :: .int x :: st) h P = if x < y then mFr d 3 11 loc (st) h P else mFr d 3 32 loc (st) h P) := ⟨fun _ _ _ _ _ _ _ => (mFr_S mq3 h3_2).trans rfl,
  fun _ _ _ _ _ _ _ => (mFr_S mq3 h3_3).trans rfl,
  fun _ _ _ _ _ _ => F_get mq3 h3_4 (Or.inl (rfl : _ = some (11, 0, 0, 0))),
  fun _ _ _ _ _ _ => F_alen mq3 h3_7,
  fun _ _ _ _ _ _ _ => (F_icmp 32 mq3 h3_8 (by decide)).trans mif_ge⟩
theorem E3_11 : (∀ (d : Nat) (l1 : Option Value) (l2 : Option Value) (x : Nat) (st : List Value) (h : MH) (P : MP), mFr d 3 11 [some (.ref x), l1, l2] st h P = mFr d 3 12 [some (.ref x), l1, l2] (.ref x :: st) h P) ∧
  (∀ (d : Nat) (loc : List (Option Value)) (a : Nat) (st : List Value) (h : MH) (P : MP), mFr d 3 12 loc (.ref a :: st) h P = pget h a 0 0 (fun v => mFr d 3 15 loc (v :: st) h P)) ∧
  (∀ (d : Nat) (l0 : Option Value) (l1 : Option Value) (x : Int32) (st : List Value) (h : MH) (P : MP), mFr d 3 15 [l0, l1, some (.int x)] st h P = mFr d 3 16 [l0, l1, some (.int x)] (.int x :: st) h P) ∧
  (∀ (d : Nat) (loc : List (Option Value)) (a : Nat) (i : Int32) (st : List Value) (h : MH) (P : MP), mFr d 3 16 loc (.int i :: .ref a :: st) h P = paal h a i (fun v => mFr d 3 17 loc (v :: st) h P)) ∧
  (∀ (d : Nat) (l0 : Option Value) (l2 : Option Value) (x : Nat) (st : List Value) (h : MH) (P : MP), mFr d 3 17 [l0, some (.ref x), l2] st h P = mFr d 3 18 [l0, some (.ref x), l2] (.ref x :: st) h P) ∧
  (∀ (d : Nat) (l0 : Option Value) (l2 : Option Value) (st : List Value) (h : MH) (P : MP), mFr d 3 17 [l0, some .null, l2] st h P = mFr d 3 18 [l0, some .null, l2] (.null :: st) h P) ∧
  (∀ (d : Nat) (loc : List (Option Value)) (a : Nat) (st : List Value) (h : MH) (P : MP), mFr d 3 18 loc (.ref a :: st) h P = pget h a 0 0 (fun v => mFr d 3 21 loc (v :: st) h P)) ∧
  (∀ (d : Nat) (l0 : Option Value) (l1 : Option Value) (x : Int32) (st : List Value) (h : MH) (P : MP), mFr d 3 21 [l0, l1, some (.int x)] st h P = mFr d 3 22 [l0, l1, some (.int x)] (.int x :: st) h P) ∧
  (∀ (d : Nat) (loc : List (Option Value)) (a : Nat) (i : Int32) (st : List Value) (h : MH) (P : MP), mFr d 3 22 loc (.int i :: .ref a :: st) h P = paal h a i (fun v => mFr d 3 23 loc (v :: st) h P)) ∧
  (∀ (d : Nat) (loc : List (Option Value)) (b : Nat) (a0 : Nat) (h : MH) (P : MP), mFr d 3 23 loc ((.ref a0) :: .ref b :: []) h P = if mrcv h b 1 = true then mRun d 9 [.ref b, .ref a0] h (fun v h' => mFr d 3 26 loc (v.toList ++ []) h' P) else False) ∧
  (∀ (d : Nat) (l0 : Option Value) (l1 : Option Value) (x : Int32) (st : List Value) (h : MH) (P : MP), mnl l1 = true → mFr d 3 26 [l0, l1, some (.int x)] st h P = mFr d 3 29 [l0, l1, some (.int (x + 1))] (st) h P) ∧
  (∀ (d : Nat) (loc : List (Option Value)) (st : List Value) (h : MH) (P : MP), mFr d 3 29 loc st h P = mFr d 3 2 loc (st) h P) := ⟨fun _ _ _ _ _ _ _ => (mFr_S mq3 h3_11).trans rfl,
  fun _ _ _ _ _ _ => F_get mq3 h3_12 (Or.inl (rfl : _ = some (11, 0, 0, 0))),
  fun _ _ _ _ _ _ _ => (mFr_S mq3 h3_15).trans rfl,
  fun _ _ _ _ _ _ _ => F_aald mq3 h3_16,
  fun _ _ _ _ _ _ _ => (mFr_S mq3 h3_17).trans rfl,
  fun _ _ _ _ _ _ => (mFr_S mq3 h3_17).trans rfl,
  fun _ _ _ _ _ _ => F_get mq3 h3_18 (Or.inl (rfl : _ = some (11, 0, 0, 0))),
  fun _ _ _ _ _ _ _ => (mFr_S mq3 h3_21).trans rfl,
  fun _ _ _ _ _ _ _ => F_aald mq3 h3_22,
  fun _ _ b a0 _ _ => F_callV (as := [.ref a0]) (rest := []) mq3 (Or.inl h3_23) (rfl : _ = some (26, 6, 9, 1)) (Or.inl ⟨h3_23, by decide⟩) (by rfl) (by rfl) (by rfl) (Nat.le_of_ble_eq_true rfl),
  fun _ _ _ _ _ _ _ hm => (mFr_S mq3 h3_26).trans (by simp only [mgo.eq_1, mstep, mld, mst, mprev, List.length_cons, List.length_nil, List.getElem?_cons_succ, List.getElem?_cons_zero, hm]; rfl),
  fun _ _ _ _ _ => F_goto 2 mq3 h3_29 (by decide)⟩
theorem E3_32 : (∀ (d : Nat) (l1 : Option Value) (l2 : Option Value) (x : Nat) (st : List Value) (h : MH) (P : MP), mFr d 3 32 [some (.ref x), l1, l2] st h P = mFr d 3 33 [some (.ref x), l1, l2] (.ref x :: st) h P) ∧
  (∀ (d : Nat) (l0 : Option Value) (l2 : Option Value) (x : Nat) (st : List Value) (h : MH) (P : MP), mFr d 3 33 [l0, some (.ref x), l2] st h P = mFr d 3 34 [l0, some (.ref x), l2] (.ref x :: st) h P) ∧
  (∀ (d : Nat) (l0 : Option Value) (l2 : Option Value) (st : List Value) (h : MH) (P : MP), mFr d 3 33 [l0, some .null, l2] st h P = mFr d 3 34 [l0, some .null, l2] (.null :: st) h P) ∧
  (∀ (d : Nat) (loc : List (Option Value)) (a : Nat) (st : List Value) (h : MH) (P : MP), mFr d 3 34 loc (.ref a :: st) h P = pget h a 0 1 (fun v => mFr d 3 37 loc (v :: st) h P)) ∧
  (∀ (d : Nat) (loc : List (Option Value)) (a : Nat) (x : Int32) (st : List Value) (h : MH) (P : MP), mFr d 3 37 loc (.int x :: .ref a :: st) h P = pput h a 0 1 (.int x) (fun h' => mFr d 3 40 loc (st) h' P)) ∧
  (∀ (d : Nat) (loc : List (Option Value)) (h : MH) (P : MP), mFr d 3 40 loc [] h P = P none h) := ⟨fun _ _ _ _ _ _ _ => (mFr_S mq3 h3_32).trans rfl,
  fun _ _ _ _ _ _ _ => (mFr_S mq3 h3_33).trans rfl,
  fun _ _ _ _ _ _ => (mFr_S mq3 h3_33).trans rfl,
  fun _ _ _ _ _ _ => F_get mq3 h3_34 (Or.inl (rfl : _ = some (18, 0, 0, 1))),
  fun _ _ _ _ _ _ _ => F_put mq3 h3_37 (Or.inl ⟨(rfl : _ = some (18, 0, 0, 1)), Or.inl rfl⟩),
  fun _ _ _ _ => (mFr_S mq3 h3_40).trans rfl⟩
theorem B3 : ∀ (d : Nat) (b : Nat) (a0 : Nat) (h : MH) (P : MP), mRun (d + 1) 3 [.ref b, .ref a0] h P = mFr d 3 0 [some (.ref b), some (.ref a0), none] [] h P := fun _ _ _ _ _ => mRun_S mq3 (Nat.le_of_ble_eq_true rfl)
-- 4: PuncturesAreViews$Crew.rideAll(ILPuncturesAreViews$Road;)V loops at [2, 22]
def q4 : MI := (yX0_rideAll, cX0_rideAll, 5, none, 0, 2)
theorem mq4 : mtab[4]? = some q4 := rfl
theorem h4_0 : mfetch q4.2.1 0 = some (.iconst 0) := by decide +kernel
theorem h4_1 : mfetch q4.2.1 1 = some (.istore_n 3) := by decide +kernel
theorem h4_2 : mfetch q4.2.1 2 = some (.iload_n 3) := by decide +kernel
theorem h4_3 : mfetch q4.2.1 3 = some (.aload_n 0) := by decide +kernel
theorem h4_4 : mfetch q4.2.1 4 = some (.getfield 18) := by decide +kernel
theorem h4_7 : mfetch q4.2.1 7 = some (.if_icmp .ge 44) := by decide +kernel
theorem h4_10 : mfetch q4.2.1 10 = some (.iload_n 3) := by decide +kernel
theorem h4_11 : mfetch q4.2.1 11 = some (.aload_n 0) := by decide +kernel
theorem h4_12 : mfetch q4.2.1 12 = some (.getfield 11) := by decide +kernel
theorem h4_15 : mfetch q4.2.1 15 = some (.arraylength) := by decide +kernel
theorem h4_16 : mfetch q4.2.1 16 = some (.if_icmp .ge 35) := by decide +kernel
theorem h4_19 : mfetch q4.2.1 19 = some (.iconst 0) := by decide +kernel
theorem h4_20 : mfetch q4.2.1 20 = some (.istore 4) := by decide +kernel
theorem h4_22 : mfetch q4.2.1 22 = some (.iload 4) := by decide +kernel
theorem h4_24 : mfetch q4.2.1 24 = some (.iload_n 1) := by decide +kernel
theorem h4_25 : mfetch q4.2.1 25 = some (.if_icmp .ge 20) := by decide +kernel
theorem h4_28 : mfetch q4.2.1 28 = some (.aload_n 0) := by decide +kernel
theorem h4_29 : mfetch q4.2.1 29 = some (.getfield 11) := by decide +kernel
theorem h4_32 : mfetch q4.2.1 32 = some (.iload_n 3) := by decide +kernel
theorem h4_33 : mfetch q4.2.1 33 = some (.aaload) := by decide +kernel
theorem h4_34 : mfetch q4.2.1 34 = some (.aload_n 2) := by decide +kernel
theorem h4_35 : mfetch q4.2.1 35 = some (.invokevirtual 30) := by decide +kernel
theorem h4_38 : mfetch q4.2.1 38 = some (.pop) := by decide +kernel
theorem h4_39 : mfetch q4.2.1 39 = some (.iinc 4 1) := by decide +kernel
theorem h4_42 : mfetch q4.2.1 42 = some (.goto (-20)) := by decide +kernel
theorem h4_45 : mfetch q4.2.1 45 = some (.iinc 3 1) := by decide +kernel
theorem h4_48 : mfetch q4.2.1 48 = some (.goto (-46)) := by decide +kernel
theorem h4_51 : mfetch q4.2.1 51 = some (.return_) := by decide +kernel
theorem E4_0 : (∀ (d : Nat) (loc : List (Option Value)) (st : List Value) (h : MH) (P : MP), mFr d 4 0 loc st h P = mFr d 4 1 loc (.int 0 :: st) h P) ∧
  (∀ (d : Nat) (l0 : Option Value) (l1 : Option Value) (l2 : Option Value) (l3 : Option Value) (l4 : Option Value) (x : Int32) (st : List Value) (h : MH) (P : MP), mnl l2 = true → mFr d 4 1 [l0, l1, l2, l3, l4] (.int x :: st) h P = mFr d 4 2 [l0, l1, l2, some (.int x), l4] (st) h P) := ⟨fun _ _ _ _ _ => (mFr_S mq4 h4_0).trans rfl,
  fun _ _ _ _ _ _ _ _ _ _ hm => (mFr_S mq4 h4_1).trans (by simp only [mgo.eq_1, mstep, mi1, ml1, mast, mst, mst2, mprev, List.length_cons, List.length_nil, List.getElem?_cons_succ, List.getElem?_cons_zero, hm]; rfl)⟩
theorem E4_2 : (∀ (d : Nat) (l0 : Option Value) (l1 : Option Value) (l2 : Option Value) (l4 : Option Value) (x : Int32) (st : List Value) (h : MH) (P : MP), mFr d 4 2 [l0, l1, l2, some (.int x), l4] st h P = mFr d 4 3 [l0, l1, l2, some (.int x), l4] (.int x :: st) h P) ∧
  (∀ (d : Nat) (l1 : Option Value) (l2 : Option Value) (l3 : Option Value) (l4 : Option Value) (x : Nat) (st : List Value) (h : MH) (P : MP), mFr d 4 3 [some (.ref x), l1, l2, l3, l4] st h P = mFr d 4 4 [some (.ref x), l1, l2, l3, l4] (.ref x :: st) h P) ∧
  (∀ (d : Nat) (loc : List (Option Value)) (a : Nat) (st : List Value) (h : MH) (P : MP), mFr d 4 4 loc (.ref a :: st) h P = pget h a 0 1 (fun v => mFr d 4 7 loc (v :: st) h P)) ∧
  (∀ (d : Nat) (loc : List (Option Value)) (x y : Int32) (st : List Value) (h : MH) (P : MP), mFr d 4 7 loc (.int y :: .int x :: st) h P = if x < y then mFr d 4 10 loc (st) h P else mFr d 4 51 loc (st) h P) := ⟨fun _ _ _ _ _ _ _ _ _ => (mFr_S mq4 h4_2).trans rfl,
  fun _ _ _ _ _ _ _ _ _ => (mFr_S mq4 h4_3).trans rfl,
  fun _ _ _ _ _ _ => F_get mq4 h4_4 (Or.inl (rfl : _ = some (18, 0, 0, 1))),
  fun _ _ _ _ _ _ _ => (F_icmp 51 mq4 h4_7 (by decide)).trans mif_ge⟩
theorem E4_10 : (∀ (d : Nat) (l0 : Option Value) (l1 : Option Value) (l2 : Option Value) (l4 : Option Value) (x : Int32) (st : List Value) (h : MH) (P : MP), mFr d 4 10 [l0, l1, l2, some (.int x), l4] st h P = mFr d 4 11 [l0, l1, l2, some (.int x), l4] (.int x :: st) h P) ∧
  (∀ (d : Nat) (l1 : Option Value) (l2 : Option Value) (l3 : Option Value) (l4 : Option Value) (x : Nat) (st : List Value) (h : MH) (P : MP), mFr d 4 11 [some (.ref x), l1, l2, l3, l4] st h P = mFr d 4 12 [some (.ref x), l1, l2, l3, l4] (.ref x :: st) h P) ∧
  (∀ (d : Nat) (loc : List (Option Value)) (a : Nat) (st : List Value) (h : MH) (P : MP), mFr d 4 12 loc (.ref a :: st) h P = pget h a 0 0 (fun v => mFr d 4 15 loc (v :: st) h P)) ∧
  (∀ (d : Nat) (loc : List (Option Value)) (a : Nat) (st : List Value) (h : MH) (P : MP), mFr d 4 15 loc (.ref a :: st) h P = palen h a (fun n => mFr d 4 16 loc (.int (Int32.ofNat n) :: st) h P)) ∧
  (∀ (d : Nat) (loc : List (Option Value)) (x y : Int32) (st : List Value) (h : MH) (P : MP), mFr d 4 16 loc (.int y :: .int x :: st) h P = if x < y then mFr d 4 19 loc (st) h P else mFr d 4 51 loc (st) h P) := ⟨fun _ _ _ _ _ _ _ _ _ => (mFr_S mq4 h4_10).trans rfl,
  fun _ _ _ _ _ _ _ _ _ => (mFr_S mq4 h4_11).trans rfl,
  fun _ _ _ _ _ _ => F_get mq4 h4_12 (Or.inl (rfl : _ = some (11, 0, 0, 0))),
  fun _ _ _ _ _ _ => F_alen mq4 h4_15,
  fun _ _ _ _ _ _ _ => (F_icmp 51 mq4 h4_16 (by decide)).trans mif_ge⟩
theorem E4_19 : (∀ (d : Nat) (loc : List (Option Value)) (st : List Value) (h : MH) (P : MP), mFr d 4 19 loc st h P = mFr d 4 20 loc (.int 0 :: st) h P) ∧
  (∀ (d : Nat) (l0 : Option Value) (l1 : Option Value) (l2 : Option Value) (l3 : Option Value) (l4 : Option Value) (x : Int32) (st : List Value) (h : MH) (P : MP), mnl l3 = true → mFr d 4 20 [l0, l1, l2, l3, l4] (.int x :: st) h P = mFr d 4 22 [l0, l1, l2, l3, some (.int x)] (st) h P) := ⟨fun _ _ _ _ _ => (mFr_S mq4 h4_19).trans rfl,
  fun _ _ _ _ _ _ _ _ _ _ hm => (mFr_S mq4 h4_20).trans (by simp only [mgo.eq_1, mstep, mi1, ml1, mast, mst, mst2, mprev, List.length_cons, List.length_nil, List.getElem?_cons_succ, List.getElem?_cons_zero, hm]; rfl)⟩
theorem E4_22 : (∀ (d : Nat) (l0 : Option Value) (l1 : Option Value) (l2 : Option Value) (l3 : Option Value) (x : Int32) (st : List Value) (h : MH) (P : MP), mFr d 4 22 [l0, l1, l2, l3, some (.int x)] st h P = mFr d 4 24 [l0, l1, l2, l3, some (.int x)] (.int x :: st) h P) ∧
  (∀ (d : Nat) (l0 : Option Value) (l2 : Option Value) (l3 : Option Value) (l4 : Option Value) (x : Int32) (st : List Value) (h : MH) (P : MP), mFr d 4 24 [l0, some (.int x), l2, l3, l4] st h P = mFr d 4 25 [l0, some (.int x), l2, l3, l4] (.int x :: st) h P) ∧
  (∀ (d : Nat) (loc : List (Option Value)) (x y : Int32) (st : List Value) (h : MH) (P : MP), mFr d 4 25 loc (.int y :: .int x :: st) h P = if x < y then mFr d 4 28 loc (st) h P else mFr d 4 45 loc (st) h P) := ⟨fun _ _ _ _ _ _ _ _ _ => (mFr_S mq4 h4_22).trans rfl,
  fun _ _ _ _ _ _ _ _ _ => (mFr_S mq4 h4_24).trans rfl,
  fun _ _ _ _ _ _ _ => (F_icmp 45 mq4 h4_25 (by decide)).trans mif_ge⟩
theorem E4_28 : (∀ (d : Nat) (l1 : Option Value) (l2 : Option Value) (l3 : Option Value) (l4 : Option Value) (x : Nat) (st : List Value) (h : MH) (P : MP), mFr d 4 28 [some (.ref x), l1, l2, l3, l4] st h P = mFr d 4 29 [some (.ref x), l1, l2, l3, l4] (.ref x :: st) h P) ∧
  (∀ (d : Nat) (loc : List (Option Value)) (a : Nat) (st : List Value) (h : MH) (P : MP), mFr d 4 29 loc (.ref a :: st) h P = pget h a 0 0 (fun v => mFr d 4 32 loc (v :: st) h P)) ∧
  (∀ (d : Nat) (l0 : Option Value) (l1 : Option Value) (l2 : Option Value) (l4 : Option Value) (x : Int32) (st : List Value) (h : MH) (P : MP), mFr d 4 32 [l0, l1, l2, some (.int x), l4] st h P = mFr d 4 33 [l0, l1, l2, some (.int x), l4] (.int x :: st) h P) ∧
  (∀ (d : Nat) (loc : List (Option Value)) (a : Nat) (i : Int32) (st : List Value) (h : MH) (P : MP), mFr d 4 33 loc (.int i :: .ref a :: st) h P = paal h a i (fun v => mFr d 4 34 loc (v :: st) h P)) ∧
  (∀ (d : Nat) (l0 : Option Value) (l1 : Option Value) (l3 : Option Value) (l4 : Option Value) (x : Nat) (st : List Value) (h : MH) (P : MP), mFr d 4 34 [l0, l1, some (.ref x), l3, l4] st h P = mFr d 4 35 [l0, l1, some (.ref x), l3, l4] (.ref x :: st) h P) ∧
  (∀ (d : Nat) (l0 : Option Value) (l1 : Option Value) (l3 : Option Value) (l4 : Option Value) (st : List Value) (h : MH) (P : MP), mFr d 4 34 [l0, l1, some .null, l3, l4] st h P = mFr d 4 35 [l0, l1, some .null, l3, l4] (.null :: st) h P) ∧
  (∀ (d : Nat) (loc : List (Option Value)) (b : Nat) (a0 : Nat) (h : MH) (P : MP), mFr d 4 35 loc ((.ref a0) :: .ref b :: []) h P = if mrcv h b 1 = true then mRun d 11 [.ref b, .ref a0] h (fun v h' => mFr d 4 38 loc (v.toList ++ []) h' P) else False) ∧
  (∀ (d : Nat) (loc : List (Option Value)) (x : Int32) (st : List Value) (h : MH) (P : MP), mFr d 4 38 loc (.int x :: st) h P = mFr d 4 39 loc (st) h P) ∧
  (∀ (d : Nat) (l0 : Option Value) (l1 : Option Value) (l2 : Option Value) (l3 : Option Value) (x : Int32) (st : List Value) (h : MH) (P : MP), mnl l3 = true → mFr d 4 39 [l0, l1, l2, l3, some (.int x)] st h P = mFr d 4 42 [l0, l1, l2, l3, some (.int (x + 1))] (st) h P) ∧
  (∀ (d : Nat) (loc : List (Option Value)) (st : List Value) (h : MH) (P : MP), mFr d 4 42 loc st h P = mFr d 4 22 loc (st) h P) := ⟨fun _ _ _ _ _ _ _ _ _ => (mFr_S mq4 h4_28).trans rfl,
  fun _ _ _ _ _ _ => F_get mq4 h4_29 (Or.inl (rfl : _ = some (11, 0, 0, 0))),
  fun _ _ _ _ _ _ _ _ _ => (mFr_S mq4 h4_32).trans rfl,
  fun _ _ _ _ _ _ _ => F_aald mq4 h4_33,
  fun _ _ _ _ _ _ _ _ _ => (mFr_S mq4 h4_34).trans rfl,
  fun _ _ _ _ _ _ _ _ => (mFr_S mq4 h4_34).trans rfl,
  fun _ _ b a0 _ _ => F_callV (as := [.ref a0]) (rest := []) mq4 (Or.inl h4_35) (rfl : _ = some (30, 6, 11, 1)) (Or.inl ⟨h4_35, by decide⟩) (by rfl) (by rfl) (by rfl) (Nat.le_of_ble_eq_true rfl),
  fun _ _ _ _ _ _ => (mFr_S mq4 h4_38).trans rfl,
  fun _ _ _ _ _ _ _ _ _ hm => (mFr_S mq4 h4_39).trans (by simp only [mgo.eq_1, mstep, mld, mst, mprev, List.length_cons, List.length_nil, List.getElem?_cons_succ, List.getElem?_cons_zero, hm]; rfl),
  fun _ _ _ _ _ => F_goto 22 mq4 h4_42 (by decide)⟩
theorem E4_45 : (∀ (d : Nat) (l0 : Option Value) (l1 : Option Value) (l2 : Option Value) (l4 : Option Value) (x : Int32) (st : List Value) (h : MH) (P : MP), mnl l2 = true → mFr d 4 45 [l0, l1, l2, some (.int x), l4] st h P = mFr d 4 48 [l0, l1, l2, some (.int (x + 1)), l4] (st) h P) ∧
  (∀ (d : Nat) (loc : List (Option Value)) (st : List Value) (h : MH) (P : MP), mFr d 4 48 loc st h P = mFr d 4 2 loc (st) h P) := ⟨fun _ _ _ _ _ _ _ _ _ hm => (mFr_S mq4 h4_45).trans (by simp only [mgo.eq_1, mstep, mld, mst, mprev, List.length_cons, List.length_nil, List.getElem?_cons_succ, List.getElem?_cons_zero, hm]; rfl),
  fun _ _ _ _ _ => F_goto 2 mq4 h4_48 (by decide)⟩
theorem E4_51 : (∀ (d : Nat) (loc : List (Option Value)) (h : MH) (P : MP), mFr d 4 51 loc [] h P = P none h) := fun _ _ _ _ => (mFr_S mq4 h4_51).trans rfl
theorem B4 : ∀ (d : Nat) (b : Nat) (a0 : Int32) (a1 : Nat) (h : MH) (P : MP), mRun (d + 1) 4 [.ref b, .int a0, .ref a1] h P = mFr d 4 0 [some (.ref b), some (.int a0), some (.ref a1), none, none] [] h P := fun _ _ _ _ _ _ => mRun_S mq4 (Nat.le_of_ble_eq_true rfl)
-- 5: PuncturesAreViews$Crew.homes()I loops at [4]
def q5 : MI := (yX0_homes, cX0_homes, 3, (some .int), 0, 0)
theorem mq5 : mtab[5]? = some q5 := rfl
theorem h5_0 : mfetch q5.2.1 0 = some (.iconst 0) := by decide +kernel
theorem h5_1 : mfetch q5.2.1 1 = some (.istore_n 1) := by decide +kernel
theorem h5_2 : mfetch q5.2.1 2 = some (.iconst 0) := by decide +kernel
theorem h5_3 : mfetch q5.2.1 3 = some (.istore_n 2) := by decide +kernel
theorem h5_4 : mfetch q5.2.1 4 = some (.iload_n 2) := by decide +kernel
theorem h5_5 : mfetch q5.2.1 5 = some (.aload_n 0) := by decide +kernel
theorem h5_6 : mfetch q5.2.1 6 = some (.getfield 18) := by decide +kernel
theorem h5_9 : mfetch q5.2.1 9 = some (.if_icmp .ge 33) := by decide +kernel
theorem h5_12 : mfetch q5.2.1 12 = some (.iload_n 2) := by decide +kernel
theorem h5_13 : mfetch q5.2.1 13 = some (.aload_n 0) := by decide +kernel
theorem h5_14 : mfetch q5.2.1 14 = some (.getfield 11) := by decide +kernel
theorem h5_17 : mfetch q5.2.1 17 = some (.arraylength) := by decide +kernel
theorem h5_18 : mfetch q5.2.1 18 = some (.if_icmp .ge 24) := by decide +kernel
theorem h5_21 : mfetch q5.2.1 21 = some (.aload_n 0) := by decide +kernel
theorem h5_22 : mfetch q5.2.1 22 = some (.getfield 11) := by decide +kernel
theorem h5_25 : mfetch q5.2.1 25 = some (.iload_n 2) := by decide +kernel
theorem h5_26 : mfetch q5.2.1 26 = some (.aaload) := by decide +kernel
theorem h5_27 : mfetch q5.2.1 27 = some (.invokevirtual 34) := by decide +kernel
theorem h5_30 : mfetch q5.2.1 30 = some (.ifCond .eq 6) := by decide +kernel
theorem h5_33 : mfetch q5.2.1 33 = some (.iinc 1 1) := by decide +kernel
theorem h5_36 : mfetch q5.2.1 36 = some (.iinc 2 1) := by decide +kernel
theorem h5_39 : mfetch q5.2.1 39 = some (.goto (-35)) := by decide +kernel
theorem h5_42 : mfetch q5.2.1 42 = some (.iload_n 1) := by decide +kernel
theorem h5_43 : mfetch q5.2.1 43 = some (.ireturn) := by decide +kernel
theorem E5_0 : (∀ (d : Nat) (loc : List (Option Value)) (st : List Value) (h : MH) (P : MP), mFr d 5 0 loc st h P = mFr d 5 1 loc (.int 0 :: st) h P) ∧
  (∀ (d : Nat) (l0 : Option Value) (l1 : Option Value) (l2 : Option Value) (x : Int32) (st : List Value) (h : MH) (P : MP), mnl l0 = true → mFr d 5 1 [l0, l1, l2] (.int x :: st) h P = mFr d 5 2 [l0, some (.int x), l2] (st) h P) ∧
  (∀ (d : Nat) (loc : List (Option Value)) (st : List Value) (h : MH) (P : MP), mFr d 5 2 loc st h P = mFr d 5 3 loc (.int 0 :: st) h P) ∧
  (∀ (d : Nat) (l0 : Option Value) (l1 : Option Value) (l2 : Option Value) (x : Int32) (st : List Value) (h : MH) (P : MP), mnl l1 = true → mFr d 5 3 [l0, l1, l2] (.int x :: st) h P = mFr d 5 4 [l0, l1, some (.int x)] (st) h P) := ⟨fun _ _ _ _ _ => (mFr_S mq5 h5_0).trans rfl,
  fun _ _ _ _ _ _ _ _ hm => (mFr_S mq5 h5_1).trans (by simp only [mgo.eq_1, mstep, mi1, ml1, mast, mst, mst2, mprev, List.length_cons, List.length_nil, List.getElem?_cons_succ, List.getElem?_cons_zero, hm]; rfl),
  fun _ _ _ _ _ => (mFr_S mq5 h5_2).trans rfl,
  fun _ _ _ _ _ _ _ _ hm => (mFr_S mq5 h5_3).trans (by simp only [mgo.eq_1, mstep, mi1, ml1, mast, mst, mst2, mprev, List.length_cons, List.length_nil, List.getElem?_cons_succ, List.getElem?_cons_zero, hm]; rfl)⟩
theorem E5_4 : (∀ (d : Nat) (l0 : Option Value) (l1 : Option Value) (x : Int32) (st : List Value) (h : MH) (P : MP), mFr d 5 4 [l0, l1, some (.int x)] st h P = mFr d 5 5 [l0, l1, some (.int x)] (.int x :: st) h P) ∧
  (∀ (d : Nat) (l1 : Option Value) (l2 : Option Value) (x : Nat) (st : List Value) (h : MH) (P : MP), mFr d 5 5 [some (.ref x), l1, l2] st h P = mFr d 5 6 [some (.ref x), l1, l2] (.ref x :: st) h P) ∧
  (∀ (d : Nat) (loc : List (Option Value)) (a : Nat) (st : List Value) (h : MH) (P : MP), mFr d 5 6 loc (.ref a :: st) h P = pget h a 0 1 (fun v => mFr d 5 9 loc (v :: st) h P)) ∧
  (∀ (d : Nat) (loc : List (Option Value)) (x y : Int32) (st : List Value) (h : MH) (P : MP), mFr d 5 9 loc (.int y :: .int x :: st) h P = if x < y then mFr d 5 12 loc (st) h P else mFr d 5 42 loc (st) h P) := ⟨fun _ _ _ _ _ _ _ => (mFr_S mq5 h5_4).trans rfl,
  fun _ _ _ _ _ _ _ => (mFr_S mq5 h5_5).trans rfl,
  fun _ _ _ _ _ _ => F_get mq5 h5_6 (Or.inl (rfl : _ = some (18, 0, 0, 1))),
  fun _ _ _ _ _ _ _ => (F_icmp 42 mq5 h5_9 (by decide)).trans mif_ge⟩
theorem E5_12 : (∀ (d : Nat) (l0 : Option Value) (l1 : Option Value) (x : Int32) (st : List Value) (h : MH) (P : MP), mFr d 5 12 [l0, l1, some (.int x)] st h P = mFr d 5 13 [l0, l1, some (.int x)] (.int x :: st) h P) ∧
  (∀ (d : Nat) (l1 : Option Value) (l2 : Option Value) (x : Nat) (st : List Value) (h : MH) (P : MP), mFr d 5 13 [some (.ref x), l1, l2] st h P = mFr d 5 14 [some (.ref x), l1, l2] (.ref x :: st) h P) ∧
  (∀ (d : Nat) (loc : List (Option Value)) (a : Nat) (st : List Value) (h : MH) (P : MP), mFr d 5 14 loc (.ref a :: st) h P = pget h a 0 0 (fun v => mFr d 5 17 loc (v :: st) h P)) ∧
  (∀ (d : Nat) (loc : List (Option Value)) (a : Nat) (st : List Value) (h : MH) (P : MP), mFr d 5 17 loc (.ref a :: st) h P = palen h a (fun n => mFr d 5 18 loc (.int (Int32.ofNat n) :: st) h P)) ∧
  (∀ (d : Nat) (loc : List (Option Value)) (x y : Int32) (st : List Value) (h : MH) (P : MP), mFr d 5 18 loc (.int y :: .int x :: st) h P = if x < y then mFr d 5 21 loc (st) h P else mFr d 5 42 loc (st) h P) := ⟨fun _ _ _ _ _ _ _ => (mFr_S mq5 h5_12).trans rfl,
  fun _ _ _ _ _ _ _ => (mFr_S mq5 h5_13).trans rfl,
  fun _ _ _ _ _ _ => F_get mq5 h5_14 (Or.inl (rfl : _ = some (11, 0, 0, 0))),
  fun _ _ _ _ _ _ => F_alen mq5 h5_17,
  fun _ _ _ _ _ _ _ => (F_icmp 42 mq5 h5_18 (by decide)).trans mif_ge⟩
theorem E5_21 : (∀ (d : Nat) (l1 : Option Value) (l2 : Option Value) (x : Nat) (st : List Value) (h : MH) (P : MP), mFr d 5 21 [some (.ref x), l1, l2] st h P = mFr d 5 22 [some (.ref x), l1, l2] (.ref x :: st) h P) ∧
  (∀ (d : Nat) (loc : List (Option Value)) (a : Nat) (st : List Value) (h : MH) (P : MP), mFr d 5 22 loc (.ref a :: st) h P = pget h a 0 0 (fun v => mFr d 5 25 loc (v :: st) h P)) ∧
  (∀ (d : Nat) (l0 : Option Value) (l1 : Option Value) (x : Int32) (st : List Value) (h : MH) (P : MP), mFr d 5 25 [l0, l1, some (.int x)] st h P = mFr d 5 26 [l0, l1, some (.int x)] (.int x :: st) h P) ∧
  (∀ (d : Nat) (loc : List (Option Value)) (a : Nat) (i : Int32) (st : List Value) (h : MH) (P : MP), mFr d 5 26 loc (.int i :: .ref a :: st) h P = paal h a i (fun v => mFr d 5 27 loc (v :: st) h P)) ∧
  (∀ (d : Nat) (loc : List (Option Value)) (b : Nat) (h : MH) (P : MP), mFr d 5 27 loc (.ref b :: []) h P = if mrcv h b 1 = true then mRun d 10 [.ref b] h (fun v h' => mFr d 5 30 loc (v.toList ++ []) h' P) else False) ∧
  (∀ (d : Nat) (loc : List (Option Value)) (x : Int32) (st : List Value) (h : MH) (P : MP), mFr d 5 30 loc (.int x :: st) h P = if x = 0 then mFr d 5 36 loc (st) h P else mFr d 5 33 loc (st) h P) := ⟨fun _ _ _ _ _ _ _ => (mFr_S mq5 h5_21).trans rfl,
  fun _ _ _ _ _ _ => F_get mq5 h5_22 (Or.inl (rfl : _ = some (11, 0, 0, 0))),
  fun _ _ _ _ _ _ _ => (mFr_S mq5 h5_25).trans rfl,
  fun _ _ _ _ _ _ _ => F_aald mq5 h5_26,
  fun _ _ b _ _ => F_callV (as := []) (rest := []) mq5 (Or.inl h5_27) (rfl : _ = some (34, 6, 10, 1)) (Or.inl ⟨h5_27, by decide⟩) (by rfl) (by rfl) (by rfl) (Nat.le_of_ble_eq_true rfl),
  fun _ _ _ _ _ _ => (F_ifz 36 mq5 h5_30 (by decide)).trans mif_eq⟩
theorem E5_33 : (∀ (d : Nat) (l0 : Option Value) (l2 : Option Value) (x : Int32) (st : List Value) (h : MH) (P : MP), mnl l0 = true → mFr d 5 33 [l0, some (.int x), l2] st h P = mFr d 5 36 [l0, some (.int (x + 1)), l2] (st) h P) := fun _ _ _ _ _ _ _ hm => (mFr_S mq5 h5_33).trans (by simp only [mgo.eq_1, mstep, mld, mst, mprev, List.length_cons, List.length_nil, List.getElem?_cons_succ, List.getElem?_cons_zero, hm]; rfl)
theorem E5_36 : (∀ (d : Nat) (l0 : Option Value) (l1 : Option Value) (x : Int32) (st : List Value) (h : MH) (P : MP), mnl l1 = true → mFr d 5 36 [l0, l1, some (.int x)] st h P = mFr d 5 39 [l0, l1, some (.int (x + 1))] (st) h P) ∧
  (∀ (d : Nat) (loc : List (Option Value)) (st : List Value) (h : MH) (P : MP), mFr d 5 39 loc st h P = mFr d 5 4 loc (st) h P) := ⟨fun _ _ _ _ _ _ _ hm => (mFr_S mq5 h5_36).trans (by simp only [mgo.eq_1, mstep, mld, mst, mprev, List.length_cons, List.length_nil, List.getElem?_cons_succ, List.getElem?_cons_zero, hm]; rfl),
  fun _ _ _ _ _ => F_goto 4 mq5 h5_39 (by decide)⟩
theorem E5_42 : (∀ (d : Nat) (l0 : Option Value) (l2 : Option Value) (x : Int32) (st : List Value) (h : MH) (P : MP), mFr d 5 42 [l0, some (.int x), l2] st h P = mFr d 5 43 [l0, some (.int x), l2] (.int x :: st) h P) ∧
  (∀ (d : Nat) (loc : List (Option Value)) (x : Int32) (h : MH) (P : MP), mFr d 5 43 loc [.int x] h P = P (some (.int x)) h) := ⟨fun _ _ _ _ _ _ _ => (mFr_S mq5 h5_42).trans rfl,
  fun _ _ _ _ _ => F_ret mq5 h5_43 rfl rfl⟩
theorem B5 : ∀ (d : Nat) (b : Nat) (h : MH) (P : MP), mRun (d + 1) 5 [.ref b] h P = mFr d 5 0 [some (.ref b), none, none] [] h P := fun _ _ _ _ => mRun_S mq5 (Nat.le_of_ble_eq_true rfl)
-- 6: PuncturesAreViews$Crew.patches()I loops at [4]
def q6 : MI := (yX0_patches, cX0_patches, 3, (some .int), 0, 0)
theorem mq6 : mtab[6]? = some q6 := rfl
theorem h6_0 : mfetch q6.2.1 0 = some (.iconst 0) := by decide +kernel
theorem h6_1 : mfetch q6.2.1 1 = some (.istore_n 1) := by decide +kernel
theorem h6_2 : mfetch q6.2.1 2 = some (.iconst 0) := by decide +kernel
theorem h6_3 : mfetch q6.2.1 3 = some (.istore_n 2) := by decide +kernel
theorem h6_4 : mfetch q6.2.1 4 = some (.iload_n 2) := by decide +kernel
theorem h6_5 : mfetch q6.2.1 5 = some (.aload_n 0) := by decide +kernel
theorem h6_6 : mfetch q6.2.1 6 = some (.getfield 18) := by decide +kernel
theorem h6_9 : mfetch q6.2.1 9 = some (.if_icmp .ge 30) := by decide +kernel
theorem h6_12 : mfetch q6.2.1 12 = some (.iload_n 2) := by decide +kernel
theorem h6_13 : mfetch q6.2.1 13 = some (.aload_n 0) := by decide +kernel
theorem h6_14 : mfetch q6.2.1 14 = some (.getfield 11) := by decide +kernel
theorem h6_17 : mfetch q6.2.1 17 = some (.arraylength) := by decide +kernel
theorem h6_18 : mfetch q6.2.1 18 = some (.if_icmp .ge 21) := by decide +kernel
theorem h6_21 : mfetch q6.2.1 21 = some (.iload_n 1) := by decide +kernel
theorem h6_22 : mfetch q6.2.1 22 = some (.aload_n 0) := by decide +kernel
theorem h6_23 : mfetch q6.2.1 23 = some (.getfield 11) := by decide +kernel
theorem h6_26 : mfetch q6.2.1 26 = some (.iload_n 2) := by decide +kernel
theorem h6_27 : mfetch q6.2.1 27 = some (.aaload) := by decide +kernel
theorem h6_28 : mfetch q6.2.1 28 = some (.getfield 38) := by decide +kernel
theorem h6_31 : mfetch q6.2.1 31 = some (.iadd) := by decide +kernel
theorem h6_32 : mfetch q6.2.1 32 = some (.istore_n 1) := by decide +kernel
theorem h6_33 : mfetch q6.2.1 33 = some (.iinc 2 1) := by decide +kernel
theorem h6_36 : mfetch q6.2.1 36 = some (.goto (-32)) := by decide +kernel
theorem h6_39 : mfetch q6.2.1 39 = some (.iload_n 1) := by decide +kernel
theorem h6_40 : mfetch q6.2.1 40 = some (.ireturn) := by decide +kernel
theorem E6_0 : (∀ (d : Nat) (loc : List (Option Value)) (st : List Value) (h : MH) (P : MP), mFr d 6 0 loc st h P = mFr d 6 1 loc (.int 0 :: st) h P) ∧
  (∀ (d : Nat) (l0 : Option Value) (l1 : Option Value) (l2 : Option Value) (x : Int32) (st : List Value) (h : MH) (P : MP), mnl l0 = true → mFr d 6 1 [l0, l1, l2] (.int x :: st) h P = mFr d 6 2 [l0, some (.int x), l2] (st) h P) ∧
  (∀ (d : Nat) (loc : List (Option Value)) (st : List Value) (h : MH) (P : MP), mFr d 6 2 loc st h P = mFr d 6 3 loc (.int 0 :: st) h P) ∧
  (∀ (d : Nat) (l0 : Option Value) (l1 : Option Value) (l2 : Option Value) (x : Int32) (st : List Value) (h : MH) (P : MP), mnl l1 = true → mFr d 6 3 [l0, l1, l2] (.int x :: st) h P = mFr d 6 4 [l0, l1, some (.int x)] (st) h P) := ⟨fun _ _ _ _ _ => (mFr_S mq6 h6_0).trans rfl,
  fun _ _ _ _ _ _ _ _ hm => (mFr_S mq6 h6_1).trans (by simp only [mgo.eq_1, mstep, mi1, ml1, mast, mst, mst2, mprev, List.length_cons, List.length_nil, List.getElem?_cons_succ, List.getElem?_cons_zero, hm]; rfl),
  fun _ _ _ _ _ => (mFr_S mq6 h6_2).trans rfl,
  fun _ _ _ _ _ _ _ _ hm => (mFr_S mq6 h6_3).trans (by simp only [mgo.eq_1, mstep, mi1, ml1, mast, mst, mst2, mprev, List.length_cons, List.length_nil, List.getElem?_cons_succ, List.getElem?_cons_zero, hm]; rfl)⟩
theorem E6_4 : (∀ (d : Nat) (l0 : Option Value) (l1 : Option Value) (x : Int32) (st : List Value) (h : MH) (P : MP), mFr d 6 4 [l0, l1, some (.int x)] st h P = mFr d 6 5 [l0, l1, some (.int x)] (.int x :: st) h P) ∧
  (∀ (d : Nat) (l1 : Option Value) (l2 : Option Value) (x : Nat) (st : List Value) (h : MH) (P : MP), mFr d 6 5 [some (.ref x), l1, l2] st h P = mFr d 6 6 [some (.ref x), l1, l2] (.ref x :: st) h P) ∧
  (∀ (d : Nat) (loc : List (Option Value)) (a : Nat) (st : List Value) (h : MH) (P : MP), mFr d 6 6 loc (.ref a :: st) h P = pget h a 0 1 (fun v => mFr d 6 9 loc (v :: st) h P)) ∧
  (∀ (d : Nat) (loc : List (Option Value)) (x y : Int32) (st : List Value) (h : MH) (P : MP), mFr d 6 9 loc (.int y :: .int x :: st) h P = if x < y then mFr d 6 12 loc (st) h P else mFr d 6 39 loc (st) h P) := ⟨fun _ _ _ _ _ _ _ => (mFr_S mq6 h6_4).trans rfl,
  fun _ _ _ _ _ _ _ => (mFr_S mq6 h6_5).trans rfl,
  fun _ _ _ _ _ _ => F_get mq6 h6_6 (Or.inl (rfl : _ = some (18, 0, 0, 1))),
  fun _ _ _ _ _ _ _ => (F_icmp 39 mq6 h6_9 (by decide)).trans mif_ge⟩
theorem E6_12 : (∀ (d : Nat) (l0 : Option Value) (l1 : Option Value) (x : Int32) (st : List Value) (h : MH) (P : MP), mFr d 6 12 [l0, l1, some (.int x)] st h P = mFr d 6 13 [l0, l1, some (.int x)] (.int x :: st) h P) ∧
  (∀ (d : Nat) (l1 : Option Value) (l2 : Option Value) (x : Nat) (st : List Value) (h : MH) (P : MP), mFr d 6 13 [some (.ref x), l1, l2] st h P = mFr d 6 14 [some (.ref x), l1, l2] (.ref x :: st) h P) ∧
  (∀ (d : Nat) (loc : List (Option Value)) (a : Nat) (st : List Value) (h : MH) (P : MP), mFr d 6 14 loc (.ref a :: st) h P = pget h a 0 0 (fun v => mFr d 6 17 loc (v :: st) h P)) ∧
  (∀ (d : Nat) (loc : List (Option Value)) (a : Nat) (st : List Value) (h : MH) (P : MP), mFr d 6 17 loc (.ref a :: st) h P = palen h a (fun n => mFr d 6 18 loc (.int (Int32.ofNat n) :: st) h P)) ∧
  (∀ (d : Nat) (loc : List (Option Value)) (x y : Int32) (st : List Value) (h : MH) (P : MP), mFr d 6 18 loc (.int y :: .int x :: st) h P = if x < y then mFr d 6 21 loc (st) h P else mFr d 6 39 loc (st) h P) := ⟨fun _ _ _ _ _ _ _ => (mFr_S mq6 h6_12).trans rfl,
  fun _ _ _ _ _ _ _ => (mFr_S mq6 h6_13).trans rfl,
  fun _ _ _ _ _ _ => F_get mq6 h6_14 (Or.inl (rfl : _ = some (11, 0, 0, 0))),
  fun _ _ _ _ _ _ => F_alen mq6 h6_17,
  fun _ _ _ _ _ _ _ => (F_icmp 39 mq6 h6_18 (by decide)).trans mif_ge⟩
theorem E6_21 : (∀ (d : Nat) (l0 : Option Value) (l2 : Option Value) (x : Int32) (st : List Value) (h : MH) (P : MP), mFr d 6 21 [l0, some (.int x), l2] st h P = mFr d 6 22 [l0, some (.int x), l2] (.int x :: st) h P) ∧
  (∀ (d : Nat) (l1 : Option Value) (l2 : Option Value) (x : Nat) (st : List Value) (h : MH) (P : MP), mFr d 6 22 [some (.ref x), l1, l2] st h P = mFr d 6 23 [some (.ref x), l1, l2] (.ref x :: st) h P) ∧
  (∀ (d : Nat) (loc : List (Option Value)) (a : Nat) (st : List Value) (h : MH) (P : MP), mFr d 6 23 loc (.ref a :: st) h P = pget h a 0 0 (fun v => mFr d 6 26 loc (v :: st) h P)) ∧
  (∀ (d : Nat) (l0 : Option Value) (l1 : Option Value) (x : Int32) (st : List Value) (h : MH) (P : MP), mFr d 6 26 [l0, l1, some (.int x)] st h P = mFr d 6 27 [l0, l1, some (.int x)] (.int x :: st) h P) ∧
  (∀ (d : Nat) (loc : List (Option Value)) (a : Nat) (i : Int32) (st : List Value) (h : MH) (P : MP), mFr d 6 27 loc (.int i :: .ref a :: st) h P = paal h a i (fun v => mFr d 6 28 loc (v :: st) h P)) ∧
  (∀ (d : Nat) (loc : List (Option Value)) (a : Nat) (st : List Value) (h : MH) (P : MP), mFr d 6 28 loc (.ref a :: st) h P = pget h a 1 2 (fun v => mFr d 6 31 loc (v :: st) h P)) ∧
  (∀ (d : Nat) (loc : List (Option Value)) (x y : Int32) (st : List Value) (h : MH) (P : MP), mFr d 6 31 loc (.int y :: .int x :: st) h P = mFr d 6 32 loc (.int (x + y) :: st) h P) ∧
  (∀ (d : Nat) (l0 : Option Value) (l1 : Option Value) (l2 : Option Value) (x : Int32) (st : List Value) (h : MH) (P : MP), mnl l0 = true → mFr d 6 32 [l0, l1, l2] (.int x :: st) h P = mFr d 6 33 [l0, some (.int x), l2] (st) h P) ∧
  (∀ (d : Nat) (l0 : Option Value) (l1 : Option Value) (x : Int32) (st : List Value) (h : MH) (P : MP), mnl l1 = true → mFr d 6 33 [l0, l1, some (.int x)] st h P = mFr d 6 36 [l0, l1, some (.int (x + 1))] (st) h P) ∧
  (∀ (d : Nat) (loc : List (Option Value)) (st : List Value) (h : MH) (P : MP), mFr d 6 36 loc st h P = mFr d 6 4 loc (st) h P) := ⟨fun _ _ _ _ _ _ _ => (mFr_S mq6 h6_21).trans rfl,
  fun _ _ _ _ _ _ _ => (mFr_S mq6 h6_22).trans rfl,
  fun _ _ _ _ _ _ => F_get mq6 h6_23 (Or.inl (rfl : _ = some (11, 0, 0, 0))),
  fun _ _ _ _ _ _ _ => (mFr_S mq6 h6_26).trans rfl,
  fun _ _ _ _ _ _ _ => F_aald mq6 h6_27,
  fun _ _ _ _ _ _ => F_get mq6 h6_28 (Or.inr (rfl : _ = some (38, 1, 1, 2))),
  fun _ _ _ _ _ _ _ => (mFr_S mq6 h6_31).trans rfl,
  fun _ _ _ _ _ _ _ _ hm => (mFr_S mq6 h6_32).trans (by simp only [mgo.eq_1, mstep, mi1, ml1, mast, mst, mst2, mprev, List.length_cons, List.length_nil, List.getElem?_cons_succ, List.getElem?_cons_zero, hm]; rfl),
  fun _ _ _ _ _ _ _ hm => (mFr_S mq6 h6_33).trans (by simp only [mgo.eq_1, mstep, mld, mst, mprev, List.length_cons, List.length_nil, List.getElem?_cons_succ, List.getElem?_cons_zero, hm]; rfl),
  fun _ _ _ _ _ => F_goto 4 mq6 h6_36 (by decide)⟩
theorem E6_39 : (∀ (d : Nat) (l0 : Option Value) (l2 : Option Value) (x : Int32) (st : List Value) (h : MH) (P : MP), mFr d 6 39 [l0, some (.int x), l2] st h P = mFr d 6 40 [l0, some (.int x), l2] (.int x :: st) h P) ∧
  (∀ (d : Nat) (loc : List (Option Value)) (x : Int32) (h : MH) (P : MP), mFr d 6 40 loc [.int x] h P = P (some (.int x)) h) := ⟨fun _ _ _ _ _ _ _ => (mFr_S mq6 h6_39).trans rfl,
  fun _ _ _ _ _ => F_ret mq6 h6_40 rfl rfl⟩
theorem B6 : ∀ (d : Nat) (b : Nat) (h : MH) (P : MP), mRun (d + 1) 6 [.ref b] h P = mFr d 6 0 [some (.ref b), none, none] [] h P := fun _ _ _ _ => mRun_S mq6 (Nat.le_of_ble_eq_true rfl)
