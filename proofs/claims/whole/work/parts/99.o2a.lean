/-! the instructions that run in the constructors, read beforehand (written by gen99o.py) -/
def ft_0 : FTb := [(14, fun loc st h => milo loc 1 15 st h),
  (15, fun loc st h => malo loc 0 16 st h),
  (16, fun loc st h => fGet 0 0 19 loc st h),
  (19, fun loc st h => mr1 st (fun a r => malen h a (fun n => mgo 20 loc (.int (Int32.ofNat n) :: r) h))),
  (20, fun loc st h => mi2 st (fun x y r => fbr (mcond .ge x y) (mgo 42 loc r h) (mgo 23 loc r h))),
  (23, fun loc st h => malo loc 0 24 st h),
  (24, fun loc st h => fGet 0 0 27 loc st h),
  (27, fun loc st h => milo loc 1 28 st h),
  (28, fun loc st h => fNew 1 31 loc st h),
  (31, fun loc st h => mv1 st (fun v r => mgo 32 loc (v :: v :: r) h)),
  (32, fun loc st h => fInV 0 1 7 35 loc st h),
  (35, fun loc st h => fAas 36 loc st h),
  (36, fun loc st h => fInc 1 (Int32.ofInt 1) 39 loc st h),
  (39, fun loc st h => mgo 14 loc st h),
  (0, fun loc st h => malo loc 0 1 st h),
  (1, fun loc st h => fObj 4 loc st h),
  (4, fun loc st h => malo loc 0 5 st h),
  (5, fun loc st h => mgo 6 loc (.int (Int32.ofInt 5) :: st) h),
  (6, fun loc st h => fArR 1 9 loc st h),
  (9, fun loc st h => fPut 0 0 12 loc st h),
  (12, fun loc st h => mgo 13 loc (.int (Int32.ofInt 0) :: st) h),
  (13, fun loc st h => mi1 st (fun x r => mst loc 1 (.int x) (fun l => mgo 14 l r h))),
  (42, fun _ st h => fRet st h)]
theorem ft_0_ok : ∀ e ∈ ft_0, frow q0 e :=
  frow_cons (fr_of h0_14 (fun _ _ _ => rfl)) (
  frow_cons (fr_of h0_15 (fun _ _ _ => rfl)) (
  frow_cons (fr_get h0_16 (Or.inl (rfl : _ = some (11, 0, 0, 0)))) (
  frow_cons (fr_of h0_19 (fun _ _ _ => rfl)) (
  frow_cons (fr_icmp 42 h0_20 (by decide)) (
  frow_cons (fr_of h0_23 (fun _ _ _ => rfl)) (
  frow_cons (fr_get h0_24 (Or.inl (rfl : _ = some (11, 0, 0, 0)))) (
  frow_cons (fr_of h0_27 (fun _ _ _ => rfl)) (
  frow_cons (fr_new h0_28 (rfl : _ = some (9, 4, 1, 0))) (
  frow_cons (fr_of h0_31 (fun _ _ _ => rfl)) (
  frow_cons (fr_inV (idx := 17) h0_32 (rfl : _ = some (17, 6, 7, 5)) (Or.inr ⟨rfl, Or.inr rfl⟩) mq7) (
  frow_cons (fr_aast h0_35) (
  frow_cons (fr_inc h0_36) (
  frow_cons (fr_goto 14 h0_39 (by decide)) (
  frow_cons (fr_of h0_0 (fun _ _ _ => rfl)) (
  frow_cons (fr_obj h0_1 (rfl : _ = some (3, 7, 0, 0))) (
  frow_cons (fr_of h0_4 (fun _ _ _ => rfl)) (
  frow_cons (fr_of h0_5 (fun _ _ _ => rfl)) (
  frow_cons (fr_arR h0_6 (rfl : _ = some (9, 4, 1, 0))) (
  frow_cons (fr_put h0_9 (Or.inl ⟨(rfl : _ = some (11, 0, 0, 0)), Or.inr ⟨by decide, rfl⟩⟩)) (
  frow_cons (fr_of h0_12 (fun _ _ _ => rfl)) (
  frow_cons (fr_of h0_13 (fun _ _ _ => rfl)) (
  frow_cons (fr_ret h0_42 rfl) ( frow_nil)))))))))))))))))))))))
def ft_7 : FTb := [(0, fun loc st h => malo loc 0 1 st h),
  (1, fun loc st h => fObj 4 loc st h),
  (4, fun _ st h => fRet st h)]
theorem ft_7_ok : ∀ e ∈ ft_7, frow q7 e :=
  frow_cons (fr_of h7_0 (fun _ _ _ => rfl)) (
  frow_cons (fr_obj h7_1 (rfl : _ = some (3, 7, 0, 0))) (
  frow_cons (fr_ret h7_4 rfl) ( frow_nil)))
def ft_16 : FTb := [(0, fun loc st h => malo loc 0 1 st h),
  (1, fun loc st h => fObj 4 loc st h),
  (4, fun loc st h => malo loc 0 5 st h),
  (5, fun loc st h => mgo 7 loc (.int ((Int8.ofInt 24).toInt32) :: st) h),
  (7, fun loc st h => fArI 9 loc st h),
  (9, fun loc st h => fPut 2 0 12 loc st h),
  (12, fun loc st h => malo loc 0 13 st h),
  (13, fun loc st h => malo loc 1 14 st h),
  (14, fun loc st h => fPut 2 2 17 loc st h),
  (17, fun _ st h => fRet st h)]
theorem ft_16_ok : ∀ e ∈ ft_16, frow q16 e :=
  frow_cons (fr_of h16_0 (fun _ _ _ => rfl)) (
  frow_cons (fr_obj h16_1 (rfl : _ = some (3, 7, 0, 0))) (
  frow_cons (fr_of h16_4 (fun _ _ _ => rfl)) (
  frow_cons (fr_of h16_5 (fun _ _ _ => rfl)) (
  frow_cons (fr_arI h16_7) (
  frow_cons (fr_put h16_9 (Or.inl ⟨(rfl : _ = some (9, 0, 2, 0)), Or.inr ⟨by decide, rfl⟩⟩)) (
  frow_cons (fr_of h16_12 (fun _ _ _ => rfl)) (
  frow_cons (fr_of h16_13 (fun _ _ _ => rfl)) (
  frow_cons (fr_put h16_14 (Or.inl ⟨(rfl : _ = some (15, 0, 2, 2)), Or.inl rfl⟩)) (
  frow_cons (fr_ret h16_17 rfl) ( frow_nil))))))))))
def ft_21 : FTb := [(0, fun loc st h => malo loc 0 1 st h),
  (1, fun loc st h => fObj 4 loc st h),
  (4, fun loc st h => malo loc 0 5 st h),
  (5, fun loc st h => mgo 7 loc (.int ((Int8.ofInt 40).toInt32) :: st) h),
  (7, fun loc st h => fArI 9 loc st h),
  (9, fun loc st h => fPut 3 0 12 loc st h),
  (12, fun loc st h => malo loc 0 13 st h),
  (13, fun loc st h => mgo 14 loc (.int (Int32.ofInt (-1)) :: st) h),
  (14, fun loc st h => fPut 3 1 17 loc st h),
  (17, fun _ st h => fRet st h)]
theorem ft_21_ok : ∀ e ∈ ft_21, frow q21 e :=
  frow_cons (fr_of h21_0 (fun _ _ _ => rfl)) (
  frow_cons (fr_obj h21_1 (rfl : _ = some (3, 7, 0, 0))) (
  frow_cons (fr_of h21_4 (fun _ _ _ => rfl)) (
  frow_cons (fr_of h21_5 (fun _ _ _ => rfl)) (
  frow_cons (fr_arI h21_7) (
  frow_cons (fr_put h21_9 (Or.inl ⟨(rfl : _ = some (9, 0, 3, 0)), Or.inr ⟨by decide, rfl⟩⟩)) (
  frow_cons (fr_of h21_12 (fun _ _ _ => rfl)) (
  frow_cons (fr_of h21_13 (fun _ _ _ => rfl)) (
  frow_cons (fr_put h21_14 (Or.inl ⟨(rfl : _ = some (15, 0, 3, 1)), Or.inl rfl⟩)) (
  frow_cons (fr_ret h21_17 rfl) ( frow_nil))))))))))
def ft_26 : FTb := [(0, fun loc st h => malo loc 0 1 st h),
  (1, fun loc st h => fObj 4 loc st h),
  (4, fun loc st h => malo loc 0 5 st h),
  (5, fun loc st h => mgo 8 loc (.int ((Int16.ofInt 160).toInt32) :: st) h),
  (8, fun loc st h => fArI 10 loc st h),
  (10, fun loc st h => fPut 4 0 13 loc st h),
  (13, fun _ st h => fRet st h)]
theorem ft_26_ok : ∀ e ∈ ft_26, frow q26 e :=
  frow_cons (fr_of h26_0 (fun _ _ _ => rfl)) (
  frow_cons (fr_obj h26_1 (rfl : _ = some (3, 7, 0, 0))) (
  frow_cons (fr_of h26_4 (fun _ _ _ => rfl)) (
  frow_cons (fr_of h26_5 (fun _ _ _ => rfl)) (
  frow_cons (fr_arI h26_8) (
  frow_cons (fr_put h26_10 (Or.inl ⟨(rfl : _ = some (9, 0, 4, 0)), Or.inr ⟨by decide, rfl⟩⟩)) (
  frow_cons (fr_ret h26_13 rfl) ( frow_nil)))))))
def ft_27 : FTb := [(0, fun loc st h => malo loc 0 1 st h),
  (1, fun loc st h => fGet 4 1 4 loc st h),
  (4, fun loc st h => malo loc 0 5 st h),
  (5, fun loc st h => fGet 4 0 8 loc st h),
  (8, fun loc st h => mr1 st (fun a r => malen h a (fun n => mgo 9 loc (.int (Int32.ofNat n) :: r) h))),
  (9, fun loc st h => mi2 st (fun x y r => fbr (mcond .lt x y) (mgo 14 loc r h) (mgo 12 loc r h))),
  (14, fun loc st h => malo loc 0 15 st h),
  (15, fun loc st h => fGet 4 0 18 loc st h),
  (18, fun loc st h => malo loc 0 19 st h),
  (19, fun loc st h => fGet 4 1 22 loc st h),
  (22, fun loc st h => milo loc 1 23 st h),
  (23, fun loc st h => fIas 24 loc st h),
  (24, fun loc st h => malo loc 0 25 st h),
  (25, fun loc st h => mv1 st (fun v r => mgo 26 loc (v :: v :: r) h)),
  (26, fun loc st h => fGet 4 1 29 loc st h),
  (29, fun loc st h => mgo 30 loc (.int (Int32.ofInt 1) :: st) h),
  (30, fun loc st h => mi2 st (fun x y r => mgo 31 loc (.int (x + y) :: r) h)),
  (31, fun loc st h => fPut 4 1 34 loc st h),
  (34, fun loc st h => mgo 35 loc (.int (Int32.ofInt 1) :: st) h),
  (35, fun _ st h => fIret .boolean st h)]
theorem ft_27_ok : ∀ e ∈ ft_27, frow q27 e :=
  frow_cons (fr_of h27_0 (fun _ _ _ => rfl)) (
  frow_cons (fr_get h27_1 (Or.inl (rfl : _ = some (15, 0, 4, 1)))) (
  frow_cons (fr_of h27_4 (fun _ _ _ => rfl)) (
  frow_cons (fr_get h27_5 (Or.inl (rfl : _ = some (9, 0, 4, 0)))) (
  frow_cons (fr_of h27_8 (fun _ _ _ => rfl)) (
  frow_cons (fr_icmp 14 h27_9 (by decide)) (
  frow_cons (fr_of h27_14 (fun _ _ _ => rfl)) (
  frow_cons (fr_get h27_15 (Or.inl (rfl : _ = some (9, 0, 4, 0)))) (
  frow_cons (fr_of h27_18 (fun _ _ _ => rfl)) (
  frow_cons (fr_get h27_19 (Or.inl (rfl : _ = some (15, 0, 4, 1)))) (
  frow_cons (fr_of h27_22 (fun _ _ _ => rfl)) (
  frow_cons (fr_iast h27_23) (
  frow_cons (fr_of h27_24 (fun _ _ _ => rfl)) (
  frow_cons (fr_of h27_25 (fun _ _ _ => rfl)) (
  frow_cons (fr_get h27_26 (Or.inl (rfl : _ = some (15, 0, 4, 1)))) (
  frow_cons (fr_of h27_29 (fun _ _ _ => rfl)) (
  frow_cons (fr_of h27_30 (fun _ _ _ => rfl)) (
  frow_cons (fr_put h27_31 (Or.inl ⟨(rfl : _ = some (15, 0, 4, 1)), Or.inl rfl⟩)) (
  frow_cons (fr_of h27_34 (fun _ _ _ => rfl)) (
  frow_cons (fr_iret h27_35 rfl) ( frow_nil))))))))))))))))))))
def ft_28 : FTb := [(0, fun loc st h => milo loc 1 1 st h),
  (1, fun loc st h => mi1 st (fun x r => fbr (mcond .lt x 0) (mgo 30 loc r h) (mgo 4 loc r h))),
  (4, fun loc st h => milo loc 1 5 st h),
  (5, fun loc st h => malo loc 0 6 st h),
  (6, fun loc st h => fGet 4 1 9 loc st h),
  (9, fun loc st h => mi2 st (fun x y r => fbr (mcond .ge x y) (mgo 30 loc r h) (mgo 12 loc r h))),
  (12, fun loc st h => milo loc 1 13 st h),
  (13, fun loc st h => malo loc 0 14 st h),
  (14, fun loc st h => fGet 4 0 17 loc st h),
  (17, fun loc st h => mr1 st (fun a r => malen h a (fun n => mgo 18 loc (.int (Int32.ofNat n) :: r) h))),
  (18, fun loc st h => mi2 st (fun x y r => fbr (mcond .ge x y) (mgo 30 loc r h) (mgo 21 loc r h))),
  (21, fun loc st h => malo loc 0 22 st h),
  (22, fun loc st h => fGet 4 0 25 loc st h),
  (25, fun loc st h => milo loc 1 26 st h),
  (26, fun loc st h => fIal 27 loc st h),
  (27, fun loc st h => mgo 31 loc st h),
  (31, fun _ st h => fIret .int st h)]
theorem ft_28_ok : ∀ e ∈ ft_28, frow q28 e :=
  frow_cons (fr_of h28_0 (fun _ _ _ => rfl)) (
  frow_cons (fr_ifc 30 h28_1 (by decide)) (
  frow_cons (fr_of h28_4 (fun _ _ _ => rfl)) (
  frow_cons (fr_of h28_5 (fun _ _ _ => rfl)) (
  frow_cons (fr_get h28_6 (Or.inl (rfl : _ = some (15, 0, 4, 1)))) (
  frow_cons (fr_icmp 30 h28_9 (by decide)) (
  frow_cons (fr_of h28_12 (fun _ _ _ => rfl)) (
  frow_cons (fr_of h28_13 (fun _ _ _ => rfl)) (
  frow_cons (fr_get h28_14 (Or.inl (rfl : _ = some (9, 0, 4, 0)))) (
  frow_cons (fr_of h28_17 (fun _ _ _ => rfl)) (
  frow_cons (fr_icmp 30 h28_18 (by decide)) (
  frow_cons (fr_of h28_21 (fun _ _ _ => rfl)) (
  frow_cons (fr_get h28_22 (Or.inl (rfl : _ = some (9, 0, 4, 0)))) (
  frow_cons (fr_of h28_25 (fun _ _ _ => rfl)) (
  frow_cons (fr_iald h28_26) (
  frow_cons (fr_goto 31 h28_27 (by decide)) (
  frow_cons (fr_iret h28_31 rfl) ( frow_nil)))))))))))))))))
def ft_29 : FTb := [(0, fun loc st h => malo loc 0 1 st h),
  (1, fun loc st h => fObj 4 loc st h),
  (4, fun loc st h => malo loc 0 5 st h),
  (5, fun loc st h => mgo 8 loc (.int ((Int16.ofInt 160).toInt32) :: st) h),
  (8, fun loc st h => fArI 10 loc st h),
  (10, fun loc st h => fPut 5 1 13 loc st h),
  (13, fun loc st h => malo loc 0 14 st h),
  (14, fun loc st h => mgo 17 loc (.int ((Int16.ofInt 160).toInt32) :: st) h),
  (17, fun loc st h => fArI 19 loc st h),
  (19, fun loc st h => fPut 5 2 22 loc st h),
  (22, fun loc st h => malo loc 0 23 st h),
  (23, fun loc st h => mgo 24 loc (.int (Int32.ofInt 3) :: st) h),
  (24, fun loc st h => fArI 26 loc st h),
  (26, fun loc st h => fPut 5 3 29 loc st h),
  (29, fun loc st h => malo loc 0 30 st h),
  (30, fun loc st h => milo loc 1 31 st h),
  (31, fun loc st h => fPut 5 0 34 loc st h),
  (34, fun _ st h => fRet st h)]
theorem ft_29_ok : ∀ e ∈ ft_29, frow q29 e :=
  frow_cons (fr_of h29_0 (fun _ _ _ => rfl)) (
  frow_cons (fr_obj h29_1 (rfl : _ = some (3, 7, 0, 0))) (
  frow_cons (fr_of h29_4 (fun _ _ _ => rfl)) (
  frow_cons (fr_of h29_5 (fun _ _ _ => rfl)) (
  frow_cons (fr_arI h29_8) (
  frow_cons (fr_put h29_10 (Or.inl ⟨(rfl : _ = some (9, 0, 5, 1)), Or.inr ⟨by decide, rfl⟩⟩)) (
  frow_cons (fr_of h29_13 (fun _ _ _ => rfl)) (
  frow_cons (fr_of h29_14 (fun _ _ _ => rfl)) (
  frow_cons (fr_arI h29_17) (
  frow_cons (fr_put h29_19 (Or.inl ⟨(rfl : _ = some (15, 0, 5, 2)), Or.inr ⟨by decide, rfl⟩⟩)) (
  frow_cons (fr_of h29_22 (fun _ _ _ => rfl)) (
  frow_cons (fr_of h29_23 (fun _ _ _ => rfl)) (
  frow_cons (fr_arI h29_24) (
  frow_cons (fr_put h29_26 (Or.inl ⟨(rfl : _ = some (18, 0, 5, 3)), Or.inr ⟨by decide, rfl⟩⟩)) (
  frow_cons (fr_of h29_29 (fun _ _ _ => rfl)) (
  frow_cons (fr_of h29_30 (fun _ _ _ => rfl)) (
  frow_cons (fr_put h29_31 (Or.inl ⟨(rfl : _ = some (21, 0, 5, 0)), Or.inr ⟨by decide, rfl⟩⟩)) (
  frow_cons (fr_ret h29_34 rfl) ( frow_nil))))))))))))))))))
def ft_30 : FTb := [(0, fun loc st h => malo loc 0 1 st h),
  (1, fun loc st h => mgo 2 loc (.int (Int32.ofInt 0) :: st) h),
  (2, fun loc st h => fPut 5 4 5 loc st h),
  (5, fun _ st h => fRet st h)]
theorem ft_30_ok : ∀ e ∈ ft_30, frow q30 e :=
  frow_cons (fr_of h30_0 (fun _ _ _ => rfl)) (
  frow_cons (fr_of h30_1 (fun _ _ _ => rfl)) (
  frow_cons (fr_put h30_2 (Or.inl ⟨(rfl : _ = some (25, 0, 5, 4)), Or.inl rfl⟩)) (
  frow_cons (fr_ret h30_5 rfl) ( frow_nil))))
def ft_31 : FTb := [(0, fun loc st h => malo loc 0 1 st h),
  (1, fun loc st h => fGet 5 4 4 loc st h),
  (4, fun loc st h => malo loc 0 5 st h),
  (5, fun loc st h => fGet 5 1 8 loc st h),
  (8, fun loc st h => mr1 st (fun a r => malen h a (fun n => mgo 9 loc (.int (Int32.ofNat n) :: r) h))),
  (9, fun loc st h => mi2 st (fun x y r => fbr (mcond .ge x y) (mgo 32 loc r h) (mgo 12 loc r h))),
  (12, fun loc st h => malo loc 0 13 st h),
  (13, fun loc st h => fGet 5 1 16 loc st h),
  (16, fun loc st h => malo loc 0 17 st h),
  (17, fun loc st h => fGet 5 4 20 loc st h),
  (20, fun loc st h => milo loc 1 21 st h),
  (21, fun loc st h => fIas 22 loc st h),
  (22, fun loc st h => malo loc 0 23 st h),
  (23, fun loc st h => mv1 st (fun v r => mgo 24 loc (v :: v :: r) h)),
  (24, fun loc st h => fGet 5 4 27 loc st h),
  (27, fun loc st h => mgo 28 loc (.int (Int32.ofInt 1) :: st) h),
  (28, fun loc st h => mi2 st (fun x y r => mgo 29 loc (.int (x + y) :: r) h)),
  (29, fun loc st h => fPut 5 4 32 loc st h),
  (32, fun _ st h => fRet st h)]
theorem ft_31_ok : ∀ e ∈ ft_31, frow q31 e :=
  frow_cons (fr_of h31_0 (fun _ _ _ => rfl)) (
  frow_cons (fr_get h31_1 (Or.inl (rfl : _ = some (25, 0, 5, 4)))) (
  frow_cons (fr_of h31_4 (fun _ _ _ => rfl)) (
  frow_cons (fr_get h31_5 (Or.inl (rfl : _ = some (9, 0, 5, 1)))) (
  frow_cons (fr_of h31_8 (fun _ _ _ => rfl)) (
  frow_cons (fr_icmp 32 h31_9 (by decide)) (
  frow_cons (fr_of h31_12 (fun _ _ _ => rfl)) (
  frow_cons (fr_get h31_13 (Or.inl (rfl : _ = some (9, 0, 5, 1)))) (
  frow_cons (fr_of h31_16 (fun _ _ _ => rfl)) (
  frow_cons (fr_get h31_17 (Or.inl (rfl : _ = some (25, 0, 5, 4)))) (
  frow_cons (fr_of h31_20 (fun _ _ _ => rfl)) (
  frow_cons (fr_iast h31_21) (
  frow_cons (fr_of h31_22 (fun _ _ _ => rfl)) (
  frow_cons (fr_of h31_23 (fun _ _ _ => rfl)) (
  frow_cons (fr_get h31_24 (Or.inl (rfl : _ = some (25, 0, 5, 4)))) (
  frow_cons (fr_of h31_27 (fun _ _ _ => rfl)) (
  frow_cons (fr_of h31_28 (fun _ _ _ => rfl)) (
  frow_cons (fr_put h31_29 (Or.inl ⟨(rfl : _ = some (25, 0, 5, 4)), Or.inl rfl⟩)) (
  frow_cons (fr_ret h31_32 rfl) ( frow_nil)))))))))))))))))))
def ft_32 : FTb := [(0, fun loc st h => milo loc 1 1 st h),
  (1, fun loc st h => mi1 st (fun x r => fbr (mcond .lt x 0) (mgo 23 loc r h) (mgo 4 loc r h))),
  (4, fun loc st h => milo loc 1 5 st h),
  (5, fun loc st h => malo loc 0 6 st h),
  (6, fun loc st h => fGet 5 3 9 loc st h),
  (9, fun loc st h => mr1 st (fun a r => malen h a (fun n => mgo 10 loc (.int (Int32.ofNat n) :: r) h))),
  (10, fun loc st h => mi2 st (fun x y r => fbr (mcond .ge x y) (mgo 23 loc r h) (mgo 13 loc r h))),
  (13, fun loc st h => malo loc 0 14 st h),
  (14, fun loc st h => fGet 5 3 17 loc st h),
  (17, fun loc st h => milo loc 1 18 st h),
  (18, fun loc st h => malo loc 0 19 st h),
  (19, fun loc st h => fGet 5 4 22 loc st h),
  (22, fun loc st h => fIas 23 loc st h),
  (23, fun _ st h => fRet st h)]
theorem ft_32_ok : ∀ e ∈ ft_32, frow q32 e :=
  frow_cons (fr_of h32_0 (fun _ _ _ => rfl)) (
  frow_cons (fr_ifc 23 h32_1 (by decide)) (
  frow_cons (fr_of h32_4 (fun _ _ _ => rfl)) (
  frow_cons (fr_of h32_5 (fun _ _ _ => rfl)) (
  frow_cons (fr_get h32_6 (Or.inl (rfl : _ = some (18, 0, 5, 3)))) (
  frow_cons (fr_of h32_9 (fun _ _ _ => rfl)) (
  frow_cons (fr_icmp 23 h32_10 (by decide)) (
  frow_cons (fr_of h32_13 (fun _ _ _ => rfl)) (
  frow_cons (fr_get h32_14 (Or.inl (rfl : _ = some (18, 0, 5, 3)))) (
  frow_cons (fr_of h32_17 (fun _ _ _ => rfl)) (
  frow_cons (fr_of h32_18 (fun _ _ _ => rfl)) (
  frow_cons (fr_get h32_19 (Or.inl (rfl : _ = some (25, 0, 5, 4)))) (
  frow_cons (fr_iast h32_22) (
  frow_cons (fr_ret h32_23 rfl) ( frow_nil))))))))))))))
def ft_37 : FTb := [(0, fun loc st h => malo loc 0 1 st h),
  (1, fun loc st h => fObj 4 loc st h),
  (4, fun loc st h => malo loc 0 5 st h),
  (5, fun loc st h => fNew 7 8 loc st h),
  (8, fun loc st h => mv1 st (fun v r => mgo 9 loc (v :: v :: r) h)),
  (9, fun loc st h => malo loc 1 10 st h),
  (10, fun loc st h => fInV 1 7 48 13 loc st h),
  (13, fun loc st h => fPut 6 0 16 loc st h),
  (16, fun loc st h => malo loc 0 17 st h),
  (17, fun loc st h => malo loc 2 18 st h),
  (18, fun loc st h => fPut 6 1 21 loc st h),
  (21, fun _ st h => fRet st h)]
theorem ft_37_ok : ∀ e ∈ ft_37, frow q37 e :=
  frow_cons (fr_of h37_0 (fun _ _ _ => rfl)) (
  frow_cons (fr_obj h37_1 (rfl : _ = some (3, 7, 0, 0))) (
  frow_cons (fr_of h37_4 (fun _ _ _ => rfl)) (
  frow_cons (fr_new h37_5 (rfl : _ = some (9, 4, 7, 0))) (
  frow_cons (fr_of h37_8 (fun _ _ _ => rfl)) (
  frow_cons (fr_of h37_9 (fun _ _ _ => rfl)) (
  frow_cons (fr_inV (idx := 11) h37_10 (rfl : _ = some (11, 6, 48, 5)) (Or.inr ⟨rfl, Or.inr rfl⟩) mq48) (
  frow_cons (fr_put h37_13 (Or.inl ⟨(rfl : _ = some (14, 0, 6, 0)), Or.inr ⟨by decide, rfl⟩⟩)) (
  frow_cons (fr_of h37_16 (fun _ _ _ => rfl)) (
  frow_cons (fr_of h37_17 (fun _ _ _ => rfl)) (
  frow_cons (fr_put h37_18 (Or.inl ⟨(rfl : _ = some (20, 0, 6, 1)), Or.inl rfl⟩)) (
  frow_cons (fr_ret h37_21 rfl) ( frow_nil))))))))))))
def ft_38 : FTb := [(48, fun loc st h => milo loc 2 49 st h),
  (49, fun loc st h => mgo 50 loc (.int (Int32.ofInt 3) :: st) h),
  (50, fun loc st h => mi2 st (fun x y r => fbr (mcond .ge x y) (mgo 86 loc r h) (mgo 53 loc r h))),
  (53, fun loc st h => malo loc 0 54 st h),
  (54, fun loc st h => mgo 56 loc (.int ((Int8.ofInt 6).toInt32) :: st) h),
  (56, fun loc st h => milo loc 2 57 st h),
  (57, fun loc st h => mi2 st (fun x y r => mgo 58 loc (.int (x + y) :: r) h)),
  (58, fun loc st h => fInV 1 6 41 61 loc st h),
  (61, fun loc st h => malo loc 0 62 st h),
  (62, fun loc st h => mgo 63 loc (.int (Int32.ofInt 0) :: st) h),
  (63, fun loc st h => fInV 1 6 42 66 loc st h),
  (66, fun loc st h => malo loc 0 67 st h),
  (67, fun loc st h => mgo 69 loc (.int ((Int8.ofInt 14).toInt32) :: st) h),
  (69, fun loc st h => fInV 1 6 41 72 loc st h),
  (72, fun loc st h => malo loc 0 73 st h),
  (73, fun loc st h => fGet 6 1 76 loc st h),
  (76, fun loc st h => milo loc 2 77 st h),
  (77, fun loc st h => fInV 1 5 32 80 loc st h),
  (80, fun loc st h => fInc 2 (Int32.ofInt 1) 83 loc st h),
  (83, fun loc st h => mgo 48 loc st h),
  (0, fun loc st h => malo loc 0 1 st h),
  (1, fun loc st h => fGet 6 0 4 loc st h),
  (4, fun loc st h => fInV 0 7 51 7 loc st h),
  (7, fun loc st h => malo loc 0 8 st h),
  (8, fun loc st h => malo loc 1 9 st h),
  (9, fun loc st h => fPut 6 1 12 loc st h),
  (12, fun loc st h => malo loc 0 13 st h),
  (13, fun loc st h => fGet 6 1 16 loc st h),
  (16, fun loc st h => fInV 0 5 30 19 loc st h),
  (19, fun loc st h => malo loc 0 20 st h),
  (20, fun loc st h => mgo 21 loc (.int (Int32.ofInt 0) :: st) h),
  (21, fun loc st h => fPut 6 2 24 loc st h),
  (24, fun loc st h => malo loc 0 25 st h),
  (25, fun loc st h => malo loc 0 26 st h),
  (26, fun loc st h => fGet 6 0 29 loc st h),
  (29, fun loc st h => mgo 30 loc (.int (Int32.ofInt 0) :: st) h),
  (30, fun loc st h => fInV 1 7 49 33 loc st h),
  (33, fun loc st h => fPut 6 3 36 loc st h),
  (36, fun loc st h => malo loc 0 37 st h),
  (37, fun loc st h => mgo 38 loc (.int (Int32.ofInt 0) :: st) h),
  (38, fun loc st h => fPut 6 4 41 loc st h),
  (41, fun loc st h => malo loc 0 42 st h),
  (42, fun loc st h => mgo 43 loc (.int (Int32.ofInt (-1)) :: st) h),
  (43, fun loc st h => fPut 6 5 46 loc st h),
  (46, fun loc st h => mgo 47 loc (.int (Int32.ofInt 0) :: st) h),
  (47, fun loc st h => mi1 st (fun x r => mst loc 2 (.int x) (fun l => mgo 48 l r h))),
  (86, fun loc st h => malo loc 0 87 st h),
  (87, fun loc st h => mgo 89 loc (.int ((Int8.ofInt 20).toInt32) :: st) h),
  (89, fun loc st h => fInV 1 6 41 92 loc st h),
  (92, fun loc st h => malo loc 0 93 st h),
  (93, fun loc st h => fGet 6 5 96 loc st h),
  (96, fun _ st h => fIret .int st h)]
theorem ft_38_ok : ∀ e ∈ ft_38, frow q38 e :=
  frow_cons (fr_of h38_48 (fun _ _ _ => rfl)) (
  frow_cons (fr_of h38_49 (fun _ _ _ => rfl)) (
  frow_cons (fr_icmp 86 h38_50 (by decide)) (
  frow_cons (fr_of h38_53 (fun _ _ _ => rfl)) (
  frow_cons (fr_of h38_54 (fun _ _ _ => rfl)) (
  frow_cons (fr_of h38_56 (fun _ _ _ => rfl)) (
  frow_cons (fr_of h38_57 (fun _ _ _ => rfl)) (
  frow_cons (fr_inV (idx := 48) h38_58 (rfl : _ = some (48, 6, 41, 0)) (Or.inl ⟨rfl, Or.inl rfl⟩) mq41) (
  frow_cons (fr_of h38_61 (fun _ _ _ => rfl)) (
  frow_cons (fr_of h38_62 (fun _ _ _ => rfl)) (
  frow_cons (fr_inV (idx := 52) h38_63 (rfl : _ = some (52, 6, 42, 0)) (Or.inl ⟨rfl, Or.inl rfl⟩) mq42) (
  frow_cons (fr_of h38_66 (fun _ _ _ => rfl)) (
  frow_cons (fr_of h38_67 (fun _ _ _ => rfl)) (
  frow_cons (fr_inV (idx := 48) h38_69 (rfl : _ = some (48, 6, 41, 0)) (Or.inl ⟨rfl, Or.inl rfl⟩) mq41) (
  frow_cons (fr_of h38_72 (fun _ _ _ => rfl)) (
  frow_cons (fr_get h38_73 (Or.inl (rfl : _ = some (20, 0, 6, 1)))) (
  frow_cons (fr_of h38_76 (fun _ _ _ => rfl)) (
  frow_cons (fr_inV (idx := 55) h38_77 (rfl : _ = some (55, 6, 32, 1)) (Or.inl ⟨rfl, Or.inr rfl⟩) mq32) (
  frow_cons (fr_inc h38_80) (
  frow_cons (fr_goto 48 h38_83 (by decide)) (
  frow_cons (fr_of h38_0 (fun _ _ _ => rfl)) (
  frow_cons (fr_get h38_1 (Or.inl (rfl : _ = some (14, 0, 6, 0)))) (
  frow_cons (fr_inV (idx := 24) h38_4 (rfl : _ = some (24, 6, 51, 1)) (Or.inl ⟨rfl, Or.inr rfl⟩) mq51) (
  frow_cons (fr_of h38_7 (fun _ _ _ => rfl)) (
  frow_cons (fr_of h38_8 (fun _ _ _ => rfl)) (
  frow_cons (fr_put h38_9 (Or.inl ⟨(rfl : _ = some (20, 0, 6, 1)), Or.inl rfl⟩)) (
  frow_cons (fr_of h38_12 (fun _ _ _ => rfl)) (
  frow_cons (fr_get h38_13 (Or.inl (rfl : _ = some (20, 0, 6, 1)))) (
  frow_cons (fr_inV (idx := 27) h38_16 (rfl : _ = some (27, 6, 30, 1)) (Or.inl ⟨rfl, Or.inr rfl⟩) mq30) (
  frow_cons (fr_of h38_19 (fun _ _ _ => rfl)) (
  frow_cons (fr_of h38_20 (fun _ _ _ => rfl)) (
  frow_cons (fr_put h38_21 (Or.inl ⟨(rfl : _ = some (32, 0, 6, 2)), Or.inl rfl⟩)) (
  frow_cons (fr_of h38_24 (fun _ _ _ => rfl)) (
  frow_cons (fr_of h38_25 (fun _ _ _ => rfl)) (
  frow_cons (fr_get h38_26 (Or.inl (rfl : _ = some (14, 0, 6, 0)))) (
  frow_cons (fr_of h38_29 (fun _ _ _ => rfl)) (
  frow_cons (fr_inV (idx := 36) h38_30 (rfl : _ = some (36, 6, 49, 1)) (Or.inl ⟨rfl, Or.inr rfl⟩) mq49) (
  frow_cons (fr_put h38_33 (Or.inl ⟨(rfl : _ = some (40, 0, 6, 3)), Or.inl rfl⟩)) (
  frow_cons (fr_of h38_36 (fun _ _ _ => rfl)) (
  frow_cons (fr_of h38_37 (fun _ _ _ => rfl)) (
  frow_cons (fr_put h38_38 (Or.inl ⟨(rfl : _ = some (42, 0, 6, 4)), Or.inl rfl⟩)) (
  frow_cons (fr_of h38_41 (fun _ _ _ => rfl)) (
  frow_cons (fr_of h38_42 (fun _ _ _ => rfl)) (
  frow_cons (fr_put h38_43 (Or.inl ⟨(rfl : _ = some (45, 0, 6, 5)), Or.inl rfl⟩)) (
  frow_cons (fr_of h38_46 (fun _ _ _ => rfl)) (
  frow_cons (fr_of h38_47 (fun _ _ _ => rfl)) (
  frow_cons (fr_of h38_86 (fun _ _ _ => rfl)) (
  frow_cons (fr_of h38_87 (fun _ _ _ => rfl)) (
  frow_cons (fr_inV (idx := 48) h38_89 (rfl : _ = some (48, 6, 41, 0)) (Or.inl ⟨rfl, Or.inl rfl⟩) mq41) (
  frow_cons (fr_of h38_92 (fun _ _ _ => rfl)) (
  frow_cons (fr_get h38_93 (Or.inl (rfl : _ = some (45, 0, 6, 5)))) (
  frow_cons (fr_iret h38_96 rfl) ( frow_nil))))))))))))))))))))))))))))))))))))))))))))))))))))
def ft_39 : FTb := [(0, fun loc st h => malo loc 0 1 st h),
  (1, fun loc st h => mv1 st (fun v r => mgo 2 loc (v :: v :: r) h)),
  (2, fun loc st h => fGet 6 2 5 loc st h),
  (5, fun loc st h => mgo 6 loc (.int (Int32.ofInt 1) :: st) h),
  (6, fun loc st h => mi2 st (fun x y r => mgo 7 loc (.int (x + y) :: r) h)),
  (7, fun loc st h => fPut 6 2 10 loc st h),
  (10, fun loc st h => malo loc 0 11 st h),
  (11, fun loc st h => malo loc 0 12 st h),
  (12, fun loc st h => fGet 6 0 15 loc st h),
  (15, fun loc st h => malo loc 0 16 st h),
  (16, fun loc st h => fGet 6 2 19 loc st h),
  (19, fun loc st h => fInV 1 7 49 22 loc st h),
  (22, fun loc st h => fPut 6 3 25 loc st h),
  (25, fun _ st h => fRet st h)]
theorem ft_39_ok : ∀ e ∈ ft_39, frow q39 e :=
  frow_cons (fr_of h39_0 (fun _ _ _ => rfl)) (
  frow_cons (fr_of h39_1 (fun _ _ _ => rfl)) (
  frow_cons (fr_get h39_2 (Or.inl (rfl : _ = some (32, 0, 6, 2)))) (
  frow_cons (fr_of h39_5 (fun _ _ _ => rfl)) (
  frow_cons (fr_of h39_6 (fun _ _ _ => rfl)) (
  frow_cons (fr_put h39_7 (Or.inl ⟨(rfl : _ = some (32, 0, 6, 2)), Or.inl rfl⟩)) (
  frow_cons (fr_of h39_10 (fun _ _ _ => rfl)) (
  frow_cons (fr_of h39_11 (fun _ _ _ => rfl)) (
  frow_cons (fr_get h39_12 (Or.inl (rfl : _ = some (14, 0, 6, 0)))) (
  frow_cons (fr_of h39_15 (fun _ _ _ => rfl)) (
  frow_cons (fr_get h39_16 (Or.inl (rfl : _ = some (32, 0, 6, 2)))) (
  frow_cons (fr_inV (idx := 36) h39_19 (rfl : _ = some (36, 6, 49, 1)) (Or.inl ⟨rfl, Or.inr rfl⟩) mq49) (
  frow_cons (fr_put h39_22 (Or.inl ⟨(rfl : _ = some (40, 0, 6, 3)), Or.inl rfl⟩)) (
  frow_cons (fr_ret h39_25 rfl) ( frow_nil))))))))))))))
def ft_41 : FTb := [(0, fun loc st h => malo loc 0 1 st h),
  (1, fun loc st h => fGet 6 3 4 loc st h),
  (4, fun loc st h => milo loc 1 5 st h),
  (5, fun loc st h => mi2 st (fun x y r => fbr (mcond .ne x y) (mgo 15 loc r h) (mgo 8 loc r h))),
  (8, fun loc st h => malo loc 0 9 st h),
  (9, fun loc st h => fInV 0 6 39 12 loc st h),
  (12, fun loc st h => mgo 19 loc st h),
  (19, fun _ st h => fRet st h)]
theorem ft_41_ok : ∀ e ∈ ft_41, frow q41 e :=
  frow_cons (fr_of h41_0 (fun _ _ _ => rfl)) (
  frow_cons (fr_get h41_1 (Or.inl (rfl : _ = some (40, 0, 6, 3)))) (
  frow_cons (fr_of h41_4 (fun _ _ _ => rfl)) (
  frow_cons (fr_icmp 15 h41_5 (by decide)) (
  frow_cons (fr_of h41_8 (fun _ _ _ => rfl)) (
  frow_cons (fr_inV (idx := 61) h41_9 (rfl : _ = some (61, 6, 39, 0)) (Or.inl ⟨rfl, Or.inl rfl⟩) mq39) (
  frow_cons (fr_goto 19 h41_12 (by decide)) (
  frow_cons (fr_ret h41_19 rfl) ( frow_nil))))))))
def ft_42 : FTb := [(7, fun loc st h => milo loc 2 8 st h),
  (8, fun loc st h => mgo 11 loc (.int ((Int16.ofInt 160).toInt32) :: st) h),
  (11, fun loc st h => mi2 st (fun x y r => fbr (mcond .ge x y) (mgo 50 loc r h) (mgo 14 loc r h))),
  (14, fun loc st h => malo loc 0 15 st h),
  (15, fun loc st h => milo loc 1 16 st h),
  (16, fun loc st h => fInV 1 6 43 19 loc st h),
  (19, fun loc st h => mi1 st (fun x r => fbr (mcond .eq x 0) (mgo 50 loc r h) (mgo 22 loc r h))),
  (0, fun loc st h => malo loc 0 1 st h),
  (1, fun loc st h => milo loc 1 2 st h),
  (2, fun loc st h => fInV 1 6 44 5 loc st h),
  (5, fun loc st h => mgo 6 loc (.int (Int32.ofInt 0) :: st) h),
  (6, fun loc st h => mi1 st (fun x r => mst loc 2 (.int x) (fun l => mgo 7 l r h))),
  (50, fun _ st h => fRet st h),
  (22, fun loc st h => malo loc 0 23 st h),
  (23, fun loc st h => fGet 6 3 26 loc st h),
  (26, fun loc st h => mi1 st (fun x r => mst loc 3 (.int x) (fun l => mgo 27 l r h))),
  (27, fun loc st h => malo loc 0 28 st h),
  (28, fun loc st h => fInV 0 6 39 31 loc st h),
  (31, fun loc st h => malo loc 0 32 st h),
  (32, fun loc st h => milo loc 1 33 st h),
  (33, fun loc st h => fInV 1 6 44 36 loc st h),
  (36, fun loc st h => malo loc 0 37 st h),
  (37, fun loc st h => fGet 6 1 40 loc st h),
  (40, fun loc st h => milo loc 3 41 st h),
  (41, fun loc st h => fInV 1 5 31 44 loc st h),
  (44, fun loc st h => fInc 2 (Int32.ofInt 1) 47 loc st h),
  (47, fun loc st h => mgo 7 loc st h)]
theorem ft_42_ok : ∀ e ∈ ft_42, frow q42 e :=
  frow_cons (fr_of h42_7 (fun _ _ _ => rfl)) (
  frow_cons (fr_of h42_8 (fun _ _ _ => rfl)) (
  frow_cons (fr_icmp 50 h42_11 (by decide)) (
  frow_cons (fr_of h42_14 (fun _ _ _ => rfl)) (
  frow_cons (fr_of h42_15 (fun _ _ _ => rfl)) (
  frow_cons (fr_inV (idx := 70) h42_16 (rfl : _ = some (70, 6, 43, 0)) (Or.inl ⟨rfl, Or.inl rfl⟩) mq43) (
  frow_cons (fr_ifc 50 h42_19 (by decide)) (
  frow_cons (fr_of h42_0 (fun _ _ _ => rfl)) (
  frow_cons (fr_of h42_1 (fun _ _ _ => rfl)) (
  frow_cons (fr_inV (idx := 67) h42_2 (rfl : _ = some (67, 6, 44, 0)) (Or.inl ⟨rfl, Or.inl rfl⟩) mq44) (
  frow_cons (fr_of h42_5 (fun _ _ _ => rfl)) (
  frow_cons (fr_of h42_6 (fun _ _ _ => rfl)) (
  frow_cons (fr_ret h42_50 rfl) (
  frow_cons (fr_of h42_22 (fun _ _ _ => rfl)) (
  frow_cons (fr_get h42_23 (Or.inl (rfl : _ = some (40, 0, 6, 3)))) (
  frow_cons (fr_of h42_26 (fun _ _ _ => rfl)) (
  frow_cons (fr_of h42_27 (fun _ _ _ => rfl)) (
  frow_cons (fr_inV (idx := 61) h42_28 (rfl : _ = some (61, 6, 39, 0)) (Or.inl ⟨rfl, Or.inl rfl⟩) mq39) (
  frow_cons (fr_of h42_31 (fun _ _ _ => rfl)) (
  frow_cons (fr_of h42_32 (fun _ _ _ => rfl)) (
  frow_cons (fr_inV (idx := 67) h42_33 (rfl : _ = some (67, 6, 44, 0)) (Or.inl ⟨rfl, Or.inl rfl⟩) mq44) (
  frow_cons (fr_of h42_36 (fun _ _ _ => rfl)) (
  frow_cons (fr_get h42_37 (Or.inl (rfl : _ = some (20, 0, 6, 1)))) (
  frow_cons (fr_of h42_40 (fun _ _ _ => rfl)) (
  frow_cons (fr_inV (idx := 74) h42_41 (rfl : _ = some (74, 6, 31, 1)) (Or.inl ⟨rfl, Or.inr rfl⟩) mq31) (
  frow_cons (fr_inc h42_44) (
  frow_cons (fr_goto 7 h42_47 (by decide)) ( frow_nil)))))))))))))))))))))))))))
def ft_43 : FTb := [(0, fun loc st h => milo loc 1 1 st h),
  (1, fun loc st h => mi1 st (fun x r => fTs x 0 2 #[27, 42, 57] 1 81 (fun t => mgo t loc r h))),
  (82, fun loc st h => malo loc 0 83 st h),
  (83, fun loc st h => fGet 6 3 86 loc st h),
  (86, fun loc st h => mgo 88 loc (.int ((Int8.ofInt 17).toInt32) :: st) h),
  (88, fun loc st h => mi2 st (fun x y r => fbr (mcond .ne x y) (mgo 95 loc r h) (mgo 91 loc r h))),
  (96, fun _ st h => fIret .boolean st h),
  (95, fun loc st h => mgo 96 loc (.int (Int32.ofInt 0) :: st) h),
  (58, fun loc st h => malo loc 0 59 st h),
  (59, fun loc st h => fGet 6 3 62 loc st h),
  (62, fun loc st h => mgo 64 loc (.int ((Int8.ofInt 15).toInt32) :: st) h),
  (64, fun loc st h => mi2 st (fun x y r => fbr (mcond .eq x y) (mgo 76 loc r h) (mgo 67 loc r h))),
  (67, fun loc st h => malo loc 0 68 st h),
  (68, fun loc st h => fGet 6 3 71 loc st h),
  (71, fun loc st h => mgo 73 loc (.int ((Int8.ofInt 16).toInt32) :: st) h),
  (73, fun loc st h => mi2 st (fun x y r => fbr (mcond .ne x y) (mgo 80 loc r h) (mgo 76 loc r h))),
  (80, fun loc st h => mgo 81 loc (.int (Int32.ofInt 0) :: st) h),
  (81, fun _ st h => fIret .boolean st h),
  (43, fun loc st h => malo loc 0 44 st h),
  (44, fun loc st h => fGet 6 3 47 loc st h),
  (47, fun loc st h => mgo 49 loc (.int ((Int8.ofInt 10).toInt32) :: st) h),
  (49, fun loc st h => mi2 st (fun x y r => fbr (mcond .ne x y) (mgo 56 loc r h) (mgo 52 loc r h))),
  (56, fun loc st h => mgo 57 loc (.int (Int32.ofInt 0) :: st) h),
  (57, fun _ st h => fIret .boolean st h),
  (28, fun loc st h => malo loc 0 29 st h),
  (29, fun loc st h => fGet 6 3 32 loc st h),
  (32, fun loc st h => mgo 34 loc (.int ((Int8.ofInt 9).toInt32) :: st) h),
  (34, fun loc st h => mi2 st (fun x y r => fbr (mcond .ne x y) (mgo 41 loc r h) (mgo 37 loc r h))),
  (41, fun loc st h => mgo 42 loc (.int (Int32.ofInt 0) :: st) h),
  (42, fun _ st h => fIret .boolean st h),
  (91, fun loc st h => mgo 92 loc (.int (Int32.ofInt 1) :: st) h),
  (92, fun loc st h => mgo 96 loc st h)]
theorem ft_43_ok : ∀ e ∈ ft_43, frow q43 e :=
  frow_cons (fr_of h43_0 (fun _ _ _ => rfl)) (
  frow_cons (fr_ts h43_1) (
  frow_cons (fr_of h43_82 (fun _ _ _ => rfl)) (
  frow_cons (fr_get h43_83 (Or.inl (rfl : _ = some (40, 0, 6, 3)))) (
  frow_cons (fr_of h43_86 (fun _ _ _ => rfl)) (
  frow_cons (fr_icmp 95 h43_88 (by decide)) (
  frow_cons (fr_iret h43_96 rfl) (
  frow_cons (fr_of h43_95 (fun _ _ _ => rfl)) (
  frow_cons (fr_of h43_58 (fun _ _ _ => rfl)) (
  frow_cons (fr_get h43_59 (Or.inl (rfl : _ = some (40, 0, 6, 3)))) (
  frow_cons (fr_of h43_62 (fun _ _ _ => rfl)) (
  frow_cons (fr_icmp 76 h43_64 (by decide)) (
  frow_cons (fr_of h43_67 (fun _ _ _ => rfl)) (
  frow_cons (fr_get h43_68 (Or.inl (rfl : _ = some (40, 0, 6, 3)))) (
  frow_cons (fr_of h43_71 (fun _ _ _ => rfl)) (
  frow_cons (fr_icmp 80 h43_73 (by decide)) (
  frow_cons (fr_of h43_80 (fun _ _ _ => rfl)) (
  frow_cons (fr_iret h43_81 rfl) (
  frow_cons (fr_of h43_43 (fun _ _ _ => rfl)) (
  frow_cons (fr_get h43_44 (Or.inl (rfl : _ = some (40, 0, 6, 3)))) (
  frow_cons (fr_of h43_47 (fun _ _ _ => rfl)) (
  frow_cons (fr_icmp 56 h43_49 (by decide)) (
  frow_cons (fr_of h43_56 (fun _ _ _ => rfl)) (
  frow_cons (fr_iret h43_57 rfl) (
  frow_cons (fr_of h43_28 (fun _ _ _ => rfl)) (
  frow_cons (fr_get h43_29 (Or.inl (rfl : _ = some (40, 0, 6, 3)))) (
  frow_cons (fr_of h43_32 (fun _ _ _ => rfl)) (
  frow_cons (fr_icmp 41 h43_34 (by decide)) (
  frow_cons (fr_of h43_41 (fun _ _ _ => rfl)) (
  frow_cons (fr_iret h43_42 rfl) (
  frow_cons (fr_of h43_91 (fun _ _ _ => rfl)) (
  frow_cons (fr_goto 96 h43_92 (by decide)) ( frow_nil))))))))))))))))))))))))))))))))
