/-! the instructions as equations: PuncturesAreViews$Sheet -/
-- 21: PuncturesAreViews$Sheet.<init>()V
def q21 : MI := (yX3_init, cX3_init, 1, none, 3, 0)
theorem mq21 : mtab[21]? = some q21 := rfl
theorem h21_0 : mfetch q21.2.1 0 = some (.aload_n 0) := by decide +kernel
theorem h21_1 : mfetch q21.2.1 1 = some (.invokespecial 3) := by decide +kernel
theorem h21_4 : mfetch q21.2.1 4 = some (.aload_n 0) := by decide +kernel
theorem h21_5 : mfetch q21.2.1 5 = some (.bipush 40) := by decide +kernel
theorem h21_7 : mfetch q21.2.1 7 = some (.newarray .int) := by decide +kernel
theorem h21_9 : mfetch q21.2.1 9 = some (.putfield 9) := by decide +kernel
theorem h21_12 : mfetch q21.2.1 12 = some (.aload_n 0) := by decide +kernel
theorem h21_13 : mfetch q21.2.1 13 = some (.iconst (-1)) := by decide +kernel
theorem h21_14 : mfetch q21.2.1 14 = some (.putfield 15) := by decide +kernel
theorem h21_17 : mfetch q21.2.1 17 = some (.return_) := by decide +kernel
theorem E21_0 : (∀ (d : Nat) (x : Nat) (st : List Value) (h : MH) (P : MP), mFr d 21 0 [some (.ref x)] st h P = mFr d 21 1 [some (.ref x)] (.ref x :: st) h P) ∧
  (∀ (d : Nat) (loc : List (Option Value)) (a : Nat) (h : MH) (P : MP), mFr d 21 1 loc [.ref a] h P = if a < 900 then mFr d 21 4 loc ([]) h P else False) ∧
  (∀ (d : Nat) (x : Nat) (st : List Value) (h : MH) (P : MP), mFr d 21 4 [some (.ref x)] st h P = mFr d 21 5 [some (.ref x)] (.ref x :: st) h P) ∧
  (∀ (d : Nat) (loc : List (Option Value)) (st : List Value) (h : MH) (P : MP), mFr d 21 5 loc st h P = mFr d 21 7 loc (.int 40 :: st) h P) ∧
  (∀ (d : Nat) (loc : List (Option Value)) (a : Nat) (x : Nat) (st : List Value) (h : MH) (P : MP), mFr d 21 9 loc (.ref x :: .ref a :: st) h P = pput h a 3 0 (.ref x) (fun h' => mFr d 21 12 loc (st) h' P)) ∧
  (∀ (d : Nat) (x : Nat) (st : List Value) (h : MH) (P : MP), mFr d 21 12 [some (.ref x)] st h P = mFr d 21 13 [some (.ref x)] (.ref x :: st) h P) ∧
  (∀ (d : Nat) (loc : List (Option Value)) (st : List Value) (h : MH) (P : MP), mFr d 21 13 loc st h P = mFr d 21 14 loc (.int (-1) :: st) h P) ∧
  (∀ (d : Nat) (loc : List (Option Value)) (a : Nat) (x : Int32) (st : List Value) (h : MH) (P : MP), mFr d 21 14 loc (.int x :: .ref a :: st) h P = pput h a 3 1 (.int x) (fun h' => mFr d 21 17 loc (st) h' P)) ∧
  (∀ (d : Nat) (loc : List (Option Value)) (h : MH) (P : MP), mFr d 21 17 loc [] h P = P none h) := ⟨fun _ _ _ _ _ => (mFr_S mq21 h21_0).trans rfl,
  fun _ _ _ _ _ => F_obj mq21 h21_1 (rfl : _ = some (3, 7, 0, 0)) (Nat.zero_le _),
  fun _ _ _ _ _ => (mFr_S mq21 h21_4).trans rfl,
  fun _ _ _ _ _ => (mFr_S mq21 h21_5).trans rfl,
  fun _ _ _ _ _ _ _ => F_put mq21 h21_9 (Or.inl ⟨(rfl : _ = some (9, 0, 3, 0)), Or.inr ⟨by decide, rfl⟩⟩),
  fun _ _ _ _ _ => (mFr_S mq21 h21_12).trans rfl,
  fun _ _ _ _ _ => (mFr_S mq21 h21_13).trans rfl,
  fun _ _ _ _ _ _ _ => F_put mq21 h21_14 (Or.inl ⟨(rfl : _ = some (15, 0, 3, 1)), Or.inl rfl⟩),
  fun _ _ _ _ => (mFr_S mq21 h21_17).trans rfl⟩
theorem B21 : ∀ (d : Nat) (b : Nat) (h : MH) (P : MP), mRun (d + 1) 21 [.ref b] h P = mFr d 21 0 [some (.ref b)] [] h P := fun _ _ _ _ => mRun_S mq21 (Nat.le_of_ble_eq_true rfl)
-- 22: PuncturesAreViews$Sheet.become(II)V loops at [12]
def q22 : MI := (yX3_become, cX3_become, 4, none, 3, 2)
theorem mq22 : mtab[22]? = some q22 := rfl
theorem h22_0 : mfetch q22.2.1 0 = some (.aload_n 0) := by decide +kernel
theorem h22_1 : mfetch q22.2.1 1 = some (.iload_n 1) := by decide +kernel
theorem h22_2 : mfetch q22.2.1 2 = some (.putfield 15) := by decide +kernel
theorem h22_5 : mfetch q22.2.1 5 = some (.aload_n 0) := by decide +kernel
theorem h22_6 : mfetch q22.2.1 6 = some (.iload_n 2) := by decide +kernel
theorem h22_7 : mfetch q22.2.1 7 = some (.putfield 19) := by decide +kernel
theorem h22_10 : mfetch q22.2.1 10 = some (.iconst 0) := by decide +kernel
theorem h22_11 : mfetch q22.2.1 11 = some (.istore_n 3) := by decide +kernel
theorem h22_12 : mfetch q22.2.1 12 = some (.iload_n 3) := by decide +kernel
theorem h22_13 : mfetch q22.2.1 13 = some (.aload_n 0) := by decide +kernel
theorem h22_14 : mfetch q22.2.1 14 = some (.getfield 9) := by decide +kernel
theorem h22_17 : mfetch q22.2.1 17 = some (.arraylength) := by decide +kernel
theorem h22_18 : mfetch q22.2.1 18 = some (.if_icmp .ge 16) := by decide +kernel
theorem h22_21 : mfetch q22.2.1 21 = some (.aload_n 0) := by decide +kernel
theorem h22_22 : mfetch q22.2.1 22 = some (.getfield 9) := by decide +kernel
theorem h22_25 : mfetch q22.2.1 25 = some (.iload_n 3) := by decide +kernel
theorem h22_26 : mfetch q22.2.1 26 = some (.iconst 0) := by decide +kernel
theorem h22_27 : mfetch q22.2.1 27 = some (.iastore) := by decide +kernel
theorem h22_28 : mfetch q22.2.1 28 = some (.iinc 3 1) := by decide +kernel
theorem h22_31 : mfetch q22.2.1 31 = some (.goto (-19)) := by decide +kernel
theorem h22_34 : mfetch q22.2.1 34 = some (.return_) := by decide +kernel
theorem E22_0 : (∀ (d : Nat) (l1 : Option Value) (l2 : Option Value) (l3 : Option Value) (x : Nat) (st : List Value) (h : MH) (P : MP), mFr d 22 0 [some (.ref x), l1, l2, l3] st h P = mFr d 22 1 [some (.ref x), l1, l2, l3] (.ref x :: st) h P) ∧
  (∀ (d : Nat) (l0 : Option Value) (l2 : Option Value) (l3 : Option Value) (x : Int32) (st : List Value) (h : MH) (P : MP), mFr d 22 1 [l0, some (.int x), l2, l3] st h P = mFr d 22 2 [l0, some (.int x), l2, l3] (.int x :: st) h P) ∧
  (∀ (d : Nat) (loc : List (Option Value)) (a : Nat) (x : Int32) (st : List Value) (h : MH) (P : MP), mFr d 22 2 loc (.int x :: .ref a :: st) h P = pput h a 3 1 (.int x) (fun h' => mFr d 22 5 loc (st) h' P)) ∧
  (∀ (d : Nat) (l1 : Option Value) (l2 : Option Value) (l3 : Option Value) (x : Nat) (st : List Value) (h : MH) (P : MP), mFr d 22 5 [some (.ref x), l1, l2, l3] st h P = mFr d 22 6 [some (.ref x), l1, l2, l3] (.ref x :: st) h P) ∧
  (∀ (d : Nat) (l0 : Option Value) (l1 : Option Value) (l3 : Option Value) (x : Int32) (st : List Value) (h : MH) (P : MP), mFr d 22 6 [l0, l1, some (.int x), l3] st h P = mFr d 22 7 [l0, l1, some (.int x), l3] (.int x :: st) h P) ∧
  (∀ (d : Nat) (loc : List (Option Value)) (a : Nat) (x : Int32) (st : List Value) (h : MH) (P : MP), mFr d 22 7 loc (.int x :: .ref a :: st) h P = pput h a 3 2 (.int x) (fun h' => mFr d 22 10 loc (st) h' P)) ∧
  (∀ (d : Nat) (loc : List (Option Value)) (st : List Value) (h : MH) (P : MP), mFr d 22 10 loc st h P = mFr d 22 11 loc (.int 0 :: st) h P) ∧
  (∀ (d : Nat) (l0 : Option Value) (l1 : Option Value) (l2 : Option Value) (l3 : Option Value) (x : Int32) (st : List Value) (h : MH) (P : MP), mnl l2 = true → mFr d 22 11 [l0, l1, l2, l3] (.int x :: st) h P = mFr d 22 12 [l0, l1, l2, some (.int x)] (st) h P) := ⟨fun _ _ _ _ _ _ _ _ => (mFr_S mq22 h22_0).trans rfl,
  fun _ _ _ _ _ _ _ _ => (mFr_S mq22 h22_1).trans rfl,
  fun _ _ _ _ _ _ _ => F_put mq22 h22_2 (Or.inl ⟨(rfl : _ = some (15, 0, 3, 1)), Or.inl rfl⟩),
  fun _ _ _ _ _ _ _ _ => (mFr_S mq22 h22_5).trans rfl,
  fun _ _ _ _ _ _ _ _ => (mFr_S mq22 h22_6).trans rfl,
  fun _ _ _ _ _ _ _ => F_put mq22 h22_7 (Or.inl ⟨(rfl : _ = some (19, 0, 3, 2)), Or.inl rfl⟩),
  fun _ _ _ _ _ => (mFr_S mq22 h22_10).trans rfl,
  fun _ _ _ _ _ _ _ _ _ hm => (mFr_S mq22 h22_11).trans (by simp only [mgo.eq_1, mstep, mi1, ml1, mast, mst, mst2, mprev, List.length_cons, List.length_nil, List.getElem?_cons_succ, List.getElem?_cons_zero, hm]; rfl)⟩
theorem E22_12 : (∀ (d : Nat) (l0 : Option Value) (l1 : Option Value) (l2 : Option Value) (x : Int32) (st : List Value) (h : MH) (P : MP), mFr d 22 12 [l0, l1, l2, some (.int x)] st h P = mFr d 22 13 [l0, l1, l2, some (.int x)] (.int x :: st) h P) ∧
  (∀ (d : Nat) (l1 : Option Value) (l2 : Option Value) (l3 : Option Value) (x : Nat) (st : List Value) (h : MH) (P : MP), mFr d 22 13 [some (.ref x), l1, l2, l3] st h P = mFr d 22 14 [some (.ref x), l1, l2, l3] (.ref x :: st) h P) ∧
  (∀ (d : Nat) (loc : List (Option Value)) (a : Nat) (st : List Value) (h : MH) (P : MP), mFr d 22 14 loc (.ref a :: st) h P = pget h a 3 0 (fun v => mFr d 22 17 loc (v :: st) h P)) ∧
  (∀ (d : Nat) (loc : List (Option Value)) (a : Nat) (st : List Value) (h : MH) (P : MP), mFr d 22 17 loc (.ref a :: st) h P = palen h a (fun n => mFr d 22 18 loc (.int (Int32.ofNat n) :: st) h P)) ∧
  (∀ (d : Nat) (loc : List (Option Value)) (x y : Int32) (st : List Value) (h : MH) (P : MP), mFr d 22 18 loc (.int y :: .int x :: st) h P = if x < y then mFr d 22 21 loc (st) h P else mFr d 22 34 loc (st) h P) := ⟨fun _ _ _ _ _ _ _ _ => (mFr_S mq22 h22_12).trans rfl,
  fun _ _ _ _ _ _ _ _ => (mFr_S mq22 h22_13).trans rfl,
  fun _ _ _ _ _ _ => F_get mq22 h22_14 (Or.inl (rfl : _ = some (9, 0, 3, 0))),
  fun _ _ _ _ _ _ => F_alen mq22 h22_17,
  fun _ _ _ _ _ _ _ => (F_icmp 34 mq22 h22_18 (by decide)).trans mif_ge⟩
theorem E22_21 : (∀ (d : Nat) (l1 : Option Value) (l2 : Option Value) (l3 : Option Value) (x : Nat) (st : List Value) (h : MH) (P : MP), mFr d 22 21 [some (.ref x), l1, l2, l3] st h P = mFr d 22 22 [some (.ref x), l1, l2, l3] (.ref x :: st) h P) ∧
  (∀ (d : Nat) (loc : List (Option Value)) (a : Nat) (st : List Value) (h : MH) (P : MP), mFr d 22 22 loc (.ref a :: st) h P = pget h a 3 0 (fun v => mFr d 22 25 loc (v :: st) h P)) ∧
  (∀ (d : Nat) (l0 : Option Value) (l1 : Option Value) (l2 : Option Value) (x : Int32) (st : List Value) (h : MH) (P : MP), mFr d 22 25 [l0, l1, l2, some (.int x)] st h P = mFr d 22 26 [l0, l1, l2, some (.int x)] (.int x :: st) h P) ∧
  (∀ (d : Nat) (loc : List (Option Value)) (st : List Value) (h : MH) (P : MP), mFr d 22 26 loc st h P = mFr d 22 27 loc (.int 0 :: st) h P) ∧
  (∀ (d : Nat) (loc : List (Option Value)) (a : Nat) (i x : Int32) (st : List Value) (h : MH) (P : MP), mFr d 22 27 loc (.int x :: .int i :: .ref a :: st) h P = pias h a i x (fun h' => mFr d 22 28 loc (st) h' P)) ∧
  (∀ (d : Nat) (l0 : Option Value) (l1 : Option Value) (l2 : Option Value) (x : Int32) (st : List Value) (h : MH) (P : MP), mnl l2 = true → mFr d 22 28 [l0, l1, l2, some (.int x)] st h P = mFr d 22 31 [l0, l1, l2, some (.int (x + 1))] (st) h P) ∧
  (∀ (d : Nat) (loc : List (Option Value)) (st : List Value) (h : MH) (P : MP), mFr d 22 31 loc st h P = mFr d 22 12 loc (st) h P) := ⟨fun _ _ _ _ _ _ _ _ => (mFr_S mq22 h22_21).trans rfl,
  fun _ _ _ _ _ _ => F_get mq22 h22_22 (Or.inl (rfl : _ = some (9, 0, 3, 0))),
  fun _ _ _ _ _ _ _ _ => (mFr_S mq22 h22_25).trans rfl,
  fun _ _ _ _ _ => (mFr_S mq22 h22_26).trans rfl,
  fun _ _ _ _ _ _ _ _ => F_iast mq22 h22_27,
  fun _ _ _ _ _ _ _ _ hm => (mFr_S mq22 h22_28).trans (by simp only [mgo.eq_1, mstep, mld, mst, mprev, List.length_cons, List.length_nil, List.getElem?_cons_succ, List.getElem?_cons_zero, hm]; rfl),
  fun _ _ _ _ _ => F_goto 12 mq22 h22_31 (by decide)⟩
theorem E22_34 : (∀ (d : Nat) (loc : List (Option Value)) (h : MH) (P : MP), mFr d 22 34 loc [] h P = P none h) := fun _ _ _ _ => (mFr_S mq22 h22_34).trans rfl
theorem B22 : ∀ (d : Nat) (b : Nat) (a0 : Int32) (a1 : Int32) (h : MH) (P : MP), mRun (d + 1) 22 [.ref b, .int a0, .int a1] h P = mFr d 22 0 [some (.ref b), some (.int a0), some (.int a1), none] [] h P := fun _ _ _ _ _ _ => mRun_S mq22 (Nat.le_of_ble_eq_true rfl)
-- 23: PuncturesAreViews$Sheet.has(II)Z
def q23 : MI := (yX3_has, cX3_has, 3, (some .boolean), 3, 2)
theorem mq23 : mtab[23]? = some q23 := rfl
theorem h23_0 : mfetch q23.2.1 0 = some (.iload_n 1) := by decide +kernel
theorem h23_1 : mfetch q23.2.1 1 = some (.ifCond .lt 29) := by decide +kernel
theorem h23_4 : mfetch q23.2.1 4 = some (.iload_n 2) := by decide +kernel
theorem h23_5 : mfetch q23.2.1 5 = some (.ifCond .lt 25) := by decide +kernel
theorem h23_8 : mfetch q23.2.1 8 = some (.iload_n 2) := by decide +kernel
theorem h23_9 : mfetch q23.2.1 9 = some (.aload_n 0) := by decide +kernel
theorem h23_10 : mfetch q23.2.1 10 = some (.getfield 19) := by decide +kernel
theorem h23_13 : mfetch q23.2.1 13 = some (.if_icmp .gt 17) := by decide +kernel
theorem h23_16 : mfetch q23.2.1 16 = some (.iload_n 1) := by decide +kernel
theorem h23_17 : mfetch q23.2.1 17 = some (.aload_n 0) := by decide +kernel
theorem h23_18 : mfetch q23.2.1 18 = some (.getfield 19) := by decide +kernel
theorem h23_21 : mfetch q23.2.1 21 = some (.iload_n 2) := by decide +kernel
theorem h23_22 : mfetch q23.2.1 22 = some (.isub) := by decide +kernel
theorem h23_23 : mfetch q23.2.1 23 = some (.if_icmp .gt 7) := by decide +kernel
theorem h23_26 : mfetch q23.2.1 26 = some (.iconst 1) := by decide +kernel
theorem h23_27 : mfetch q23.2.1 27 = some (.goto 4) := by decide +kernel
theorem h23_30 : mfetch q23.2.1 30 = some (.iconst 0) := by decide +kernel
theorem h23_31 : mfetch q23.2.1 31 = some (.ireturn) := by decide +kernel
theorem E23_0 : (∀ (d : Nat) (l0 : Option Value) (l2 : Option Value) (x : Int32) (st : List Value) (h : MH) (P : MP), mFr d 23 0 [l0, some (.int x), l2] st h P = mFr d 23 1 [l0, some (.int x), l2] (.int x :: st) h P) ∧
  (∀ (d : Nat) (loc : List (Option Value)) (x : Int32) (st : List Value) (h : MH) (P : MP), mFr d 23 1 loc (.int x :: st) h P = if x < 0 then mFr d 23 30 loc (st) h P else mFr d 23 4 loc (st) h P) := ⟨fun _ _ _ _ _ _ _ => (mFr_S mq23 h23_0).trans rfl,
  fun _ _ _ _ _ _ => (F_ifz 30 mq23 h23_1 (by decide)).trans mif_lt⟩
theorem E23_4 : (∀ (d : Nat) (l0 : Option Value) (l1 : Option Value) (x : Int32) (st : List Value) (h : MH) (P : MP), mFr d 23 4 [l0, l1, some (.int x)] st h P = mFr d 23 5 [l0, l1, some (.int x)] (.int x :: st) h P) ∧
  (∀ (d : Nat) (loc : List (Option Value)) (x : Int32) (st : List Value) (h : MH) (P : MP), mFr d 23 5 loc (.int x :: st) h P = if x < 0 then mFr d 23 30 loc (st) h P else mFr d 23 8 loc (st) h P) := ⟨fun _ _ _ _ _ _ _ => (mFr_S mq23 h23_4).trans rfl,
  fun _ _ _ _ _ _ => (F_ifz 30 mq23 h23_5 (by decide)).trans mif_lt⟩
theorem E23_8 : (∀ (d : Nat) (l0 : Option Value) (l1 : Option Value) (x : Int32) (st : List Value) (h : MH) (P : MP), mFr d 23 8 [l0, l1, some (.int x)] st h P = mFr d 23 9 [l0, l1, some (.int x)] (.int x :: st) h P) ∧
  (∀ (d : Nat) (l1 : Option Value) (l2 : Option Value) (x : Nat) (st : List Value) (h : MH) (P : MP), mFr d 23 9 [some (.ref x), l1, l2] st h P = mFr d 23 10 [some (.ref x), l1, l2] (.ref x :: st) h P) ∧
  (∀ (d : Nat) (loc : List (Option Value)) (a : Nat) (st : List Value) (h : MH) (P : MP), mFr d 23 10 loc (.ref a :: st) h P = pget h a 3 2 (fun v => mFr d 23 13 loc (v :: st) h P)) ∧
  (∀ (d : Nat) (loc : List (Option Value)) (x y : Int32) (st : List Value) (h : MH) (P : MP), mFr d 23 13 loc (.int y :: .int x :: st) h P = if y < x then mFr d 23 30 loc (st) h P else mFr d 23 16 loc (st) h P) := ⟨fun _ _ _ _ _ _ _ => (mFr_S mq23 h23_8).trans rfl,
  fun _ _ _ _ _ _ _ => (mFr_S mq23 h23_9).trans rfl,
  fun _ _ _ _ _ _ => F_get mq23 h23_10 (Or.inl (rfl : _ = some (19, 0, 3, 2))),
  fun _ _ _ _ _ _ _ => (F_icmp 30 mq23 h23_13 (by decide)).trans mif_gt⟩
theorem E23_16 : (∀ (d : Nat) (l0 : Option Value) (l2 : Option Value) (x : Int32) (st : List Value) (h : MH) (P : MP), mFr d 23 16 [l0, some (.int x), l2] st h P = mFr d 23 17 [l0, some (.int x), l2] (.int x :: st) h P) ∧
  (∀ (d : Nat) (l1 : Option Value) (l2 : Option Value) (x : Nat) (st : List Value) (h : MH) (P : MP), mFr d 23 17 [some (.ref x), l1, l2] st h P = mFr d 23 18 [some (.ref x), l1, l2] (.ref x :: st) h P) ∧
  (∀ (d : Nat) (loc : List (Option Value)) (a : Nat) (st : List Value) (h : MH) (P : MP), mFr d 23 18 loc (.ref a :: st) h P = pget h a 3 2 (fun v => mFr d 23 21 loc (v :: st) h P)) ∧
  (∀ (d : Nat) (l0 : Option Value) (l1 : Option Value) (x : Int32) (st : List Value) (h : MH) (P : MP), mFr d 23 21 [l0, l1, some (.int x)] st h P = mFr d 23 22 [l0, l1, some (.int x)] (.int x :: st) h P) ∧
  (∀ (d : Nat) (loc : List (Option Value)) (x y : Int32) (st : List Value) (h : MH) (P : MP), mFr d 23 22 loc (.int y :: .int x :: st) h P = mFr d 23 23 loc (.int (x - y) :: st) h P) ∧
  (∀ (d : Nat) (loc : List (Option Value)) (x y : Int32) (st : List Value) (h : MH) (P : MP), mFr d 23 23 loc (.int y :: .int x :: st) h P = if y < x then mFr d 23 30 loc (st) h P else mFr d 23 26 loc (st) h P) := ⟨fun _ _ _ _ _ _ _ => (mFr_S mq23 h23_16).trans rfl,
  fun _ _ _ _ _ _ _ => (mFr_S mq23 h23_17).trans rfl,
  fun _ _ _ _ _ _ => F_get mq23 h23_18 (Or.inl (rfl : _ = some (19, 0, 3, 2))),
  fun _ _ _ _ _ _ _ => (mFr_S mq23 h23_21).trans rfl,
  fun _ _ _ _ _ _ _ => (mFr_S mq23 h23_22).trans rfl,
  fun _ _ _ _ _ _ _ => (F_icmp 30 mq23 h23_23 (by decide)).trans mif_gt⟩
theorem E23_26 : (∀ (d : Nat) (loc : List (Option Value)) (st : List Value) (h : MH) (P : MP), mFr d 23 26 loc st h P = mFr d 23 27 loc (.int 1 :: st) h P) ∧
  (∀ (d : Nat) (loc : List (Option Value)) (st : List Value) (h : MH) (P : MP), mFr d 23 27 loc st h P = mFr d 23 31 loc (st) h P) := ⟨fun _ _ _ _ _ => (mFr_S mq23 h23_26).trans rfl,
  fun _ _ _ _ _ => F_goto 31 mq23 h23_27 (by decide)⟩
theorem E23_30 : (∀ (d : Nat) (loc : List (Option Value)) (st : List Value) (h : MH) (P : MP), mFr d 23 30 loc st h P = mFr d 23 31 loc (.int 0 :: st) h P) := fun _ _ _ _ _ => (mFr_S mq23 h23_30).trans rfl
theorem E23_31 : (∀ (d : Nat) (loc : List (Option Value)) (h : MH) (P : MP), mFr d 23 31 loc [.int 0] h P = P (some (.int 0)) h) ∧
  (∀ (d : Nat) (loc : List (Option Value)) (h : MH) (P : MP), mFr d 23 31 loc [.int 1] h P = P (some (.int 1)) h) ∧
  (∀ (d : Nat) (loc : List (Option Value)) (c : Prop) [Decidable c] (h : MH) (P : MP), mFr d 23 31 loc [.int (if c then 1 else 0)] h P = P (some (.int (if c then 1 else 0))) h) := ⟨fun _ _ _ _ => F_ret mq23 h23_31 rfl (by decide),
  fun _ _ _ _ => F_ret mq23 h23_31 rfl (by decide),
  fun _ _ _ _ _ _ => F_ret mq23 h23_31 rfl (by split <;> decide)⟩
theorem B23 : ∀ (d : Nat) (b : Nat) (a0 : Int32) (a1 : Int32) (h : MH) (P : MP), mRun (d + 1) 23 [.ref b, .int a0, .int a1] h P = mFr d 23 0 [some (.ref b), some (.int a0), some (.int a1)] [] h P := fun _ _ _ _ _ _ => mRun_S mq23 (Nat.le_of_ble_eq_true rfl)
-- 24: PuncturesAreViews$Sheet.item(I)I
def q24 : MI := (yX3_item, cX3_item, 2, (some .int), 3, 1)
theorem mq24 : mtab[24]? = some q24 := rfl
theorem h24_0 : mfetch q24.2.1 0 = some (.iload_n 1) := by decide +kernel
theorem h24_1 : mfetch q24.2.1 1 = some (.ifCond .lt 21) := by decide +kernel
theorem h24_4 : mfetch q24.2.1 4 = some (.iload_n 1) := by decide +kernel
theorem h24_5 : mfetch q24.2.1 5 = some (.aload_n 0) := by decide +kernel
theorem h24_6 : mfetch q24.2.1 6 = some (.getfield 9) := by decide +kernel
theorem h24_9 : mfetch q24.2.1 9 = some (.arraylength) := by decide +kernel
theorem h24_10 : mfetch q24.2.1 10 = some (.if_icmp .ge 12) := by decide +kernel
theorem h24_13 : mfetch q24.2.1 13 = some (.aload_n 0) := by decide +kernel
theorem h24_14 : mfetch q24.2.1 14 = some (.getfield 9) := by decide +kernel
theorem h24_17 : mfetch q24.2.1 17 = some (.iload_n 1) := by decide +kernel
theorem h24_18 : mfetch q24.2.1 18 = some (.iaload) := by decide +kernel
theorem h24_19 : mfetch q24.2.1 19 = some (.goto 4) := by decide +kernel
theorem h24_22 : mfetch q24.2.1 22 = some (.iconst 0) := by decide +kernel
theorem h24_23 : mfetch q24.2.1 23 = some (.ireturn) := by decide +kernel
theorem E24_0 : (∀ (d : Nat) (l0 : Option Value) (x : Int32) (st : List Value) (h : MH) (P : MP), mFr d 24 0 [l0, some (.int x)] st h P = mFr d 24 1 [l0, some (.int x)] (.int x :: st) h P) ∧
  (∀ (d : Nat) (loc : List (Option Value)) (x : Int32) (st : List Value) (h : MH) (P : MP), mFr d 24 1 loc (.int x :: st) h P = if x < 0 then mFr d 24 22 loc (st) h P else mFr d 24 4 loc (st) h P) := ⟨fun _ _ _ _ _ _ => (mFr_S mq24 h24_0).trans rfl,
  fun _ _ _ _ _ _ => (F_ifz 22 mq24 h24_1 (by decide)).trans mif_lt⟩
theorem E24_4 : (∀ (d : Nat) (l0 : Option Value) (x : Int32) (st : List Value) (h : MH) (P : MP), mFr d 24 4 [l0, some (.int x)] st h P = mFr d 24 5 [l0, some (.int x)] (.int x :: st) h P) ∧
  (∀ (d : Nat) (l1 : Option Value) (x : Nat) (st : List Value) (h : MH) (P : MP), mFr d 24 5 [some (.ref x), l1] st h P = mFr d 24 6 [some (.ref x), l1] (.ref x :: st) h P) ∧
  (∀ (d : Nat) (loc : List (Option Value)) (a : Nat) (st : List Value) (h : MH) (P : MP), mFr d 24 6 loc (.ref a :: st) h P = pget h a 3 0 (fun v => mFr d 24 9 loc (v :: st) h P)) ∧
  (∀ (d : Nat) (loc : List (Option Value)) (a : Nat) (st : List Value) (h : MH) (P : MP), mFr d 24 9 loc (.ref a :: st) h P = palen h a (fun n => mFr d 24 10 loc (.int (Int32.ofNat n) :: st) h P)) ∧
  (∀ (d : Nat) (loc : List (Option Value)) (x y : Int32) (st : List Value) (h : MH) (P : MP), mFr d 24 10 loc (.int y :: .int x :: st) h P = if x < y then mFr d 24 13 loc (st) h P else mFr d 24 22 loc (st) h P) := ⟨fun _ _ _ _ _ _ => (mFr_S mq24 h24_4).trans rfl,
  fun _ _ _ _ _ _ => (mFr_S mq24 h24_5).trans rfl,
  fun _ _ _ _ _ _ => F_get mq24 h24_6 (Or.inl (rfl : _ = some (9, 0, 3, 0))),
  fun _ _ _ _ _ _ => F_alen mq24 h24_9,
  fun _ _ _ _ _ _ _ => (F_icmp 22 mq24 h24_10 (by decide)).trans mif_ge⟩
theorem E24_13 : (∀ (d : Nat) (l1 : Option Value) (x : Nat) (st : List Value) (h : MH) (P : MP), mFr d 24 13 [some (.ref x), l1] st h P = mFr d 24 14 [some (.ref x), l1] (.ref x :: st) h P) ∧
  (∀ (d : Nat) (loc : List (Option Value)) (a : Nat) (st : List Value) (h : MH) (P : MP), mFr d 24 14 loc (.ref a :: st) h P = pget h a 3 0 (fun v => mFr d 24 17 loc (v :: st) h P)) ∧
  (∀ (d : Nat) (l0 : Option Value) (x : Int32) (st : List Value) (h : MH) (P : MP), mFr d 24 17 [l0, some (.int x)] st h P = mFr d 24 18 [l0, some (.int x)] (.int x :: st) h P) ∧
  (∀ (d : Nat) (loc : List (Option Value)) (a : Nat) (i : Int32) (st : List Value) (h : MH) (P : MP), mFr d 24 18 loc (.int i :: .ref a :: st) h P = pial h a i (fun x => mFr d 24 19 loc (.int x :: st) h P)) ∧
  (∀ (d : Nat) (loc : List (Option Value)) (st : List Value) (h : MH) (P : MP), mFr d 24 19 loc st h P = mFr d 24 23 loc (st) h P) := ⟨fun _ _ _ _ _ _ => (mFr_S mq24 h24_13).trans rfl,
  fun _ _ _ _ _ _ => F_get mq24 h24_14 (Or.inl (rfl : _ = some (9, 0, 3, 0))),
  fun _ _ _ _ _ _ => (mFr_S mq24 h24_17).trans rfl,
  fun _ _ _ _ _ _ _ => F_iald mq24 h24_18,
  fun _ _ _ _ _ => F_goto 23 mq24 h24_19 (by decide)⟩
theorem E24_22 : (∀ (d : Nat) (loc : List (Option Value)) (st : List Value) (h : MH) (P : MP), mFr d 24 22 loc st h P = mFr d 24 23 loc (.int 0 :: st) h P) := fun _ _ _ _ _ => (mFr_S mq24 h24_22).trans rfl
theorem E24_23 : (∀ (d : Nat) (loc : List (Option Value)) (x : Int32) (h : MH) (P : MP), mFr d 24 23 loc [.int x] h P = P (some (.int x)) h) := fun _ _ _ _ _ => F_ret mq24 h24_23 rfl rfl
theorem B24 : ∀ (d : Nat) (b : Nat) (a0 : Int32) (h : MH) (P : MP), mRun (d + 1) 24 [.ref b, .int a0] h P = mFr d 24 0 [some (.ref b), some (.int a0)] [] h P := fun _ _ _ _ _ => mRun_S mq24 (Nat.le_of_ble_eq_true rfl)
-- 25: PuncturesAreViews$Sheet.put(II)V
def q25 : MI := (yX3_put, cX3_put, 3, none, 3, 2)
theorem mq25 : mtab[25]? = some q25 := rfl
theorem h25_0 : mfetch q25.2.1 0 = some (.iload_n 1) := by decide +kernel
theorem h25_1 : mfetch q25.2.1 1 = some (.ifCond .lt 44) := by decide +kernel
theorem h25_4 : mfetch q25.2.1 4 = some (.iload_n 1) := by decide +kernel
theorem h25_5 : mfetch q25.2.1 5 = some (.aload_n 0) := by decide +kernel
theorem h25_6 : mfetch q25.2.1 6 = some (.getfield 9) := by decide +kernel
theorem h25_9 : mfetch q25.2.1 9 = some (.arraylength) := by decide +kernel
theorem h25_10 : mfetch q25.2.1 10 = some (.if_icmp .ge 35) := by decide +kernel
theorem h25_13 : mfetch q25.2.1 13 = some (.aload_n 0) := by decide +kernel
theorem h25_14 : mfetch q25.2.1 14 = some (.getfield 9) := by decide +kernel
theorem h25_17 : mfetch q25.2.1 17 = some (.iload_n 1) := by decide +kernel
theorem h25_18 : mfetch q25.2.1 18 = some (.aload_n 0) := by decide +kernel
theorem h25_19 : mfetch q25.2.1 19 = some (.getfield 15) := by decide +kernel
theorem h25_22 : mfetch q25.2.1 22 = some (.ifCond .ne 8) := by decide +kernel
theorem h25_25 : mfetch q25.2.1 25 = some (.iload_n 2) := by decide +kernel
theorem h25_26 : mfetch q25.2.1 26 = some (.i2b) := by decide +kernel
theorem h25_27 : mfetch q25.2.1 27 = some (.goto 17) := by decide +kernel
theorem h25_30 : mfetch q25.2.1 30 = some (.aload_n 0) := by decide +kernel
theorem h25_31 : mfetch q25.2.1 31 = some (.getfield 15) := by decide +kernel
theorem h25_34 : mfetch q25.2.1 34 = some (.iconst 1) := by decide +kernel
theorem h25_35 : mfetch q25.2.1 35 = some (.if_icmp .ne 8) := by decide +kernel
theorem h25_38 : mfetch q25.2.1 38 = some (.iload_n 2) := by decide +kernel
theorem h25_39 : mfetch q25.2.1 39 = some (.i2s) := by decide +kernel
theorem h25_40 : mfetch q25.2.1 40 = some (.goto 4) := by decide +kernel
theorem h25_43 : mfetch q25.2.1 43 = some (.iload_n 2) := by decide +kernel
theorem h25_44 : mfetch q25.2.1 44 = some (.iastore) := by decide +kernel
theorem h25_45 : mfetch q25.2.1 45 = some (.return_) := by decide +kernel
theorem E25_0 : (∀ (d : Nat) (l0 : Option Value) (l2 : Option Value) (x : Int32) (st : List Value) (h : MH) (P : MP), mFr d 25 0 [l0, some (.int x), l2] st h P = mFr d 25 1 [l0, some (.int x), l2] (.int x :: st) h P) ∧
  (∀ (d : Nat) (loc : List (Option Value)) (x : Int32) (st : List Value) (h : MH) (P : MP), mFr d 25 1 loc (.int x :: st) h P = if x < 0 then mFr d 25 45 loc (st) h P else mFr d 25 4 loc (st) h P) := ⟨fun _ _ _ _ _ _ _ => (mFr_S mq25 h25_0).trans rfl,
  fun _ _ _ _ _ _ => (F_ifz 45 mq25 h25_1 (by decide)).trans mif_lt⟩
theorem E25_4 : (∀ (d : Nat) (l0 : Option Value) (l2 : Option Value) (x : Int32) (st : List Value) (h : MH) (P : MP), mFr d 25 4 [l0, some (.int x), l2] st h P = mFr d 25 5 [l0, some (.int x), l2] (.int x :: st) h P) ∧
  (∀ (d : Nat) (l1 : Option Value) (l2 : Option Value) (x : Nat) (st : List Value) (h : MH) (P : MP), mFr d 25 5 [some (.ref x), l1, l2] st h P = mFr d 25 6 [some (.ref x), l1, l2] (.ref x :: st) h P) ∧
  (∀ (d : Nat) (loc : List (Option Value)) (a : Nat) (st : List Value) (h : MH) (P : MP), mFr d 25 6 loc (.ref a :: st) h P = pget h a 3 0 (fun v => mFr d 25 9 loc (v :: st) h P)) ∧
  (∀ (d : Nat) (loc : List (Option Value)) (a : Nat) (st : List Value) (h : MH) (P : MP), mFr d 25 9 loc (.ref a :: st) h P = palen h a (fun n => mFr d 25 10 loc (.int (Int32.ofNat n) :: st) h P)) ∧
  (∀ (d : Nat) (loc : List (Option Value)) (x y : Int32) (st : List Value) (h : MH) (P : MP), mFr d 25 10 loc (.int y :: .int x :: st) h P = if x < y then mFr d 25 13 loc (st) h P else mFr d 25 45 loc (st) h P) := ⟨fun _ _ _ _ _ _ _ => (mFr_S mq25 h25_4).trans rfl,
  fun _ _ _ _ _ _ _ => (mFr_S mq25 h25_5).trans rfl,
  fun _ _ _ _ _ _ => F_get mq25 h25_6 (Or.inl (rfl : _ = some (9, 0, 3, 0))),
  fun _ _ _ _ _ _ => F_alen mq25 h25_9,
  fun _ _ _ _ _ _ _ => (F_icmp 45 mq25 h25_10 (by decide)).trans mif_ge⟩
theorem E25_13 : (∀ (d : Nat) (l1 : Option Value) (l2 : Option Value) (x : Nat) (st : List Value) (h : MH) (P : MP), mFr d 25 13 [some (.ref x), l1, l2] st h P = mFr d 25 14 [some (.ref x), l1, l2] (.ref x :: st) h P) ∧
  (∀ (d : Nat) (loc : List (Option Value)) (a : Nat) (st : List Value) (h : MH) (P : MP), mFr d 25 14 loc (.ref a :: st) h P = pget h a 3 0 (fun v => mFr d 25 17 loc (v :: st) h P)) ∧
  (∀ (d : Nat) (l0 : Option Value) (l2 : Option Value) (x : Int32) (st : List Value) (h : MH) (P : MP), mFr d 25 17 [l0, some (.int x), l2] st h P = mFr d 25 18 [l0, some (.int x), l2] (.int x :: st) h P) ∧
  (∀ (d : Nat) (l1 : Option Value) (l2 : Option Value) (x : Nat) (st : List Value) (h : MH) (P : MP), mFr d 25 18 [some (.ref x), l1, l2] st h P = mFr d 25 19 [some (.ref x), l1, l2] (.ref x :: st) h P) ∧
  (∀ (d : Nat) (loc : List (Option Value)) (a : Nat) (st : List Value) (h : MH) (P : MP), mFr d 25 19 loc (.ref a :: st) h P = pget h a 3 1 (fun v => mFr d 25 22 loc (v :: st) h P)) ∧
  (∀ (d : Nat) (loc : List (Option Value)) (x : Int32) (st : List Value) (h : MH) (P : MP), mFr d 25 22 loc (.int x :: st) h P = if x = 0 then mFr d 25 25 loc (st) h P else mFr d 25 30 loc (st) h P) := ⟨fun _ _ _ _ _ _ _ => (mFr_S mq25 h25_13).trans rfl,
  fun _ _ _ _ _ _ => F_get mq25 h25_14 (Or.inl (rfl : _ = some (9, 0, 3, 0))),
  fun _ _ _ _ _ _ _ => (mFr_S mq25 h25_17).trans rfl,
  fun _ _ _ _ _ _ _ => (mFr_S mq25 h25_18).trans rfl,
  fun _ _ _ _ _ _ => F_get mq25 h25_19 (Or.inl (rfl : _ = some (15, 0, 3, 1))),
  fun _ _ _ _ _ _ => (F_ifz 30 mq25 h25_22 (by decide)).trans mif_ne⟩
theorem E25_25 : (∀ (d : Nat) (l0 : Option Value) (l1 : Option Value) (x : Int32) (st : List Value) (h : MH) (P : MP), mFr d 25 25 [l0, l1, some (.int x)] st h P = mFr d 25 26 [l0, l1, some (.int x)] (.int x :: st) h P) ∧
  (∀ (d : Nat) (loc : List (Option Value)) (x : Int32) (st : List Value) (h : MH) (P : MP), mFr d 25 26 loc (.int x :: st) h P = mFr d 25 27 loc (.int (x.toInt8.toInt32) :: st) h P) ∧
  (∀ (d : Nat) (loc : List (Option Value)) (st : List Value) (h : MH) (P : MP), mFr d 25 27 loc st h P = mFr d 25 44 loc (st) h P) := ⟨fun _ _ _ _ _ _ _ => (mFr_S mq25 h25_25).trans rfl,
  fun _ _ _ _ _ _ => (mFr_S mq25 h25_26).trans rfl,
  fun _ _ _ _ _ => F_goto 44 mq25 h25_27 (by decide)⟩
theorem E25_30 : (∀ (d : Nat) (l1 : Option Value) (l2 : Option Value) (x : Nat) (st : List Value) (h : MH) (P : MP), mFr d 25 30 [some (.ref x), l1, l2] st h P = mFr d 25 31 [some (.ref x), l1, l2] (.ref x :: st) h P) ∧
  (∀ (d : Nat) (loc : List (Option Value)) (a : Nat) (st : List Value) (h : MH) (P : MP), mFr d 25 31 loc (.ref a :: st) h P = pget h a 3 1 (fun v => mFr d 25 34 loc (v :: st) h P)) ∧
  (∀ (d : Nat) (loc : List (Option Value)) (st : List Value) (h : MH) (P : MP), mFr d 25 34 loc st h P = mFr d 25 35 loc (.int 1 :: st) h P) ∧
  (∀ (d : Nat) (loc : List (Option Value)) (x y : Int32) (st : List Value) (h : MH) (P : MP), mFr d 25 35 loc (.int y :: .int x :: st) h P = if x = y then mFr d 25 38 loc (st) h P else mFr d 25 43 loc (st) h P) := ⟨fun _ _ _ _ _ _ _ => (mFr_S mq25 h25_30).trans rfl,
  fun _ _ _ _ _ _ => F_get mq25 h25_31 (Or.inl (rfl : _ = some (15, 0, 3, 1))),
  fun _ _ _ _ _ => (mFr_S mq25 h25_34).trans rfl,
  fun _ _ _ _ _ _ _ => (F_icmp 43 mq25 h25_35 (by decide)).trans mif_ne⟩
theorem E25_38 : (∀ (d : Nat) (l0 : Option Value) (l1 : Option Value) (x : Int32) (st : List Value) (h : MH) (P : MP), mFr d 25 38 [l0, l1, some (.int x)] st h P = mFr d 25 39 [l0, l1, some (.int x)] (.int x :: st) h P) ∧
  (∀ (d : Nat) (loc : List (Option Value)) (x : Int32) (st : List Value) (h : MH) (P : MP), mFr d 25 39 loc (.int x :: st) h P = mFr d 25 40 loc (.int (x.toInt16.toInt32) :: st) h P) ∧
  (∀ (d : Nat) (loc : List (Option Value)) (st : List Value) (h : MH) (P : MP), mFr d 25 40 loc st h P = mFr d 25 44 loc (st) h P) := ⟨fun _ _ _ _ _ _ _ => (mFr_S mq25 h25_38).trans rfl,
  fun _ _ _ _ _ _ => (mFr_S mq25 h25_39).trans rfl,
  fun _ _ _ _ _ => F_goto 44 mq25 h25_40 (by decide)⟩
theorem E25_43 : (∀ (d : Nat) (l0 : Option Value) (l1 : Option Value) (x : Int32) (st : List Value) (h : MH) (P : MP), mFr d 25 43 [l0, l1, some (.int x)] st h P = mFr d 25 44 [l0, l1, some (.int x)] (.int x :: st) h P) := fun _ _ _ _ _ _ _ => (mFr_S mq25 h25_43).trans rfl
theorem E25_44 : (∀ (d : Nat) (loc : List (Option Value)) (a : Nat) (i x : Int32) (st : List Value) (h : MH) (P : MP), mFr d 25 44 loc (.int x :: .int i :: .ref a :: st) h P = pias h a i x (fun h' => mFr d 25 45 loc (st) h' P)) := fun _ _ _ _ _ _ _ _ => F_iast mq25 h25_44
theorem E25_45 : (∀ (d : Nat) (loc : List (Option Value)) (h : MH) (P : MP), mFr d 25 45 loc [] h P = P none h) := fun _ _ _ _ => (mFr_S mq25 h25_45).trans rfl
theorem B25 : ∀ (d : Nat) (b : Nat) (a0 : Int32) (a1 : Int32) (h : MH) (P : MP), mRun (d + 1) 25 [.ref b, .int a0, .int a1] h P = mFr d 25 0 [some (.ref b), some (.int a0), some (.int a1)] [] h P := fun _ _ _ _ _ _ => mRun_S mq25 (Nat.le_of_ble_eq_true rfl)
