/-! the instructions that run in the constructors, read beforehand (written by gen99o.py) -/
def ft_133 : FTb := [(0, fun loc st h => malo loc 0 1 st h),
  (1, fun loc st h => fGet 9 15 4 loc st h),
  (4, fun loc st h => malo loc 0 5 st h),
  (5, fun loc st h => mv1 st (fun v r => mgo 6 loc (v :: v :: r) h)),
  (6, fun loc st h => fGet 9 16 9 loc st h),
  (9, fun loc st h => mv1 st (fun v r => mv1 r (fun w r => mgo 10 loc (v :: w :: v :: r) h))),
  (10, fun loc st h => mgo 11 loc (.int (Int32.ofInt 1) :: st) h),
  (11, fun loc st h => mi2 st (fun x y r => mgo 12 loc (.int (x + y) :: r) h)),
  (12, fun loc st h => fPut 9 16 15 loc st h),
  (15, fun loc st h => milo loc 1 16 st h),
  (16, fun loc st h => fIas 17 loc st h),
  (17, fun _ st h => fRet st h)]
theorem ft_133_ok : ∀ e ∈ ft_133, frow q133 e :=
  frow_cons (fr_of h133_0 (fun _ _ _ => rfl)) (
  frow_cons (fr_get h133_1 (Or.inl (rfl : _ = some (40, 0, 9, 15)))) (
  frow_cons (fr_of h133_4 (fun _ _ _ => rfl)) (
  frow_cons (fr_of h133_5 (fun _ _ _ => rfl)) (
  frow_cons (fr_get h133_6 (Or.inl (rfl : _ = some (191, 0, 9, 16)))) (
  frow_cons (fr_of h133_9 (fun _ _ _ => rfl)) (
  frow_cons (fr_of h133_10 (fun _ _ _ => rfl)) (
  frow_cons (fr_of h133_11 (fun _ _ _ => rfl)) (
  frow_cons (fr_put h133_12 (Or.inl ⟨(rfl : _ = some (191, 0, 9, 16)), Or.inl rfl⟩)) (
  frow_cons (fr_of h133_15 (fun _ _ _ => rfl)) (
  frow_cons (fr_iast h133_16) (
  frow_cons (fr_ret h133_17 rfl) ( frow_nil))))))))))))
def ft_192 : FTb := [(0, fun loc st h => malo loc 0 1 st h),
  (1, fun loc st h => fGeS 0 4 loc st h),
  (4, fun loc st h => mr1 st (fun a r => malen h a (fun n => mgo 5 loc (.int (Int32.ofNat n) :: r) h))),
  (5, fun loc st h => malo loc 0 6 st h),
  (6, fun loc st h => fInV 0 10 196 9 loc st h),
  (9, fun loc st h => mi2 st (fun x y r => mgo 10 loc (.int (x >>> (y &&& 31)) :: r) h)),
  (10, fun _ st h => fIret .int st h)]
theorem ft_192_ok : ∀ e ∈ ft_192, frow q192 e :=
  frow_cons (fr_of h192_0 (fun _ _ _ => rfl)) (
  frow_cons (fr_geS h192_1 (rfl : _ = some (9, 2, 0, 0))) (
  frow_cons (fr_of h192_4 (fun _ _ _ => rfl)) (
  frow_cons (fr_of h192_5 (fun _ _ _ => rfl)) (
  frow_cons (fr_inV (idx := 335) h192_6 (rfl : _ = some (335, 6, 196, 0)) (Or.inl ⟨rfl, Or.inl rfl⟩) mq196) (
  frow_cons (fr_of h192_9 (fun _ _ _ => rfl)) (
  frow_cons (fr_iret h192_10 rfl) ( frow_nil)))))))
def ft_193 : FTb := [(0, fun loc st h => malo loc 0 1 st h),
  (1, fun loc st h => fInV 0 10 197 4 loc st h),
  (4, fun loc st h => mi1 st (fun x r => fbr (mcond .eq x 0) (mgo 16 loc r h) (mgo 7 loc r h))),
  (7, fun loc st h => malo loc 0 8 st h),
  (8, fun loc st h => fGeS 0 11 loc st h),
  (11, fun loc st h => milo loc 1 12 st h),
  (12, fun loc st _ => fInS 2 199 15 loc st),
  (15, fun _ st h => fIret .char st h)]
theorem ft_193_ok : ∀ e ∈ ft_193, frow q193 e :=
  frow_cons (fr_of h193_0 (fun _ _ _ => rfl)) (
  frow_cons (fr_inV (idx := 492) h193_1 (rfl : _ = some (492, 6, 197, 0)) (Or.inl ⟨rfl, Or.inl rfl⟩) mq197) (
  frow_cons (fr_ifc 16 h193_4 (by decide)) (
  frow_cons (fr_of h193_7 (fun _ _ _ => rfl)) (
  frow_cons (fr_geS h193_8 (rfl : _ = some (9, 2, 0, 0))) (
  frow_cons (fr_of h193_11 (fun _ _ _ => rfl)) (
  frow_cons (fr_inS h193_12 (rfl : _ = some (495, 6, 199, 2)) (Or.inl rfl) mq199) (
  frow_cons (fr_iret h193_15 rfl) ( frow_nil))))))))
def ft_194 : FTb := [(0, fun loc st h => malo loc 0 1 st h),
  (1, fun loc st h => milo loc 1 2 st h),
  (2, fun loc st h => mgo 3 loc (.int (Int32.ofInt 0) :: st) h),
  (3, fun loc st h => fInV 2 10 195 6 loc st h),
  (6, fun _ st h => fIret .int st h)]
theorem ft_194_ok : ∀ e ∈ ft_194, frow q194 e :=
  frow_cons (fr_of h194_0 (fun _ _ _ => rfl)) (
  frow_cons (fr_of h194_1 (fun _ _ _ => rfl)) (
  frow_cons (fr_of h194_2 (fun _ _ _ => rfl)) (
  frow_cons (fr_inV (idx := 633) h194_3 (rfl : _ = some (633, 6, 195, 0)) (Or.inl ⟨rfl, Or.inl rfl⟩) mq195) (
  frow_cons (fr_iret h194_6 rfl) ( frow_nil)))))
def ft_195 : FTb := [(0, fun loc st h => malo loc 0 1 st h),
  (1, fun loc st h => fInV 0 10 197 4 loc st h),
  (4, fun loc st h => mi1 st (fun x r => fbr (mcond .eq x 0) (mgo 23 loc r h) (mgo 7 loc r h))),
  (7, fun loc st h => malo loc 0 8 st h),
  (8, fun loc st h => fGeS 0 11 loc st h),
  (11, fun loc st h => milo loc 1 12 st h),
  (12, fun loc st h => milo loc 2 13 st h),
  (13, fun loc st h => malo loc 0 14 st h),
  (14, fun loc st h => fInV 0 10 192 17 loc st h),
  (17, fun loc st _ => fInS 4 201 20 loc st),
  (20, fun loc st h => mgo 36 loc st h),
  (36, fun _ st h => fIret .int st h)]
theorem ft_195_ok : ∀ e ∈ ft_195, frow q195 e :=
  frow_cons (fr_of h195_0 (fun _ _ _ => rfl)) (
  frow_cons (fr_inV (idx := 492) h195_1 (rfl : _ = some (492, 6, 197, 0)) (Or.inl ⟨rfl, Or.inl rfl⟩) mq197) (
  frow_cons (fr_ifc 23 h195_4 (by decide)) (
  frow_cons (fr_of h195_7 (fun _ _ _ => rfl)) (
  frow_cons (fr_geS h195_8 (rfl : _ = some (9, 2, 0, 0))) (
  frow_cons (fr_of h195_11 (fun _ _ _ => rfl)) (
  frow_cons (fr_of h195_12 (fun _ _ _ => rfl)) (
  frow_cons (fr_of h195_13 (fun _ _ _ => rfl)) (
  frow_cons (fr_inV (idx := 505) h195_14 (rfl : _ = some (505, 6, 192, 0)) (Or.inl ⟨rfl, Or.inl rfl⟩) mq192) (
  frow_cons (fr_inS h195_17 (rfl : _ = some (637, 6, 201, 2)) (Or.inl rfl) mq201) (
  frow_cons (fr_goto 36 h195_20 (by decide)) (
  frow_cons (fr_iret h195_36 rfl) ( frow_nil))))))))))))
def ft_196 : FTb := [(0, fun loc st h => mgo 3 loc (.int 1 :: st) h),
  (3, fun loc st h => mi1 st (fun x r => fbr (mcond .eq x 0) (mgo 13 loc r h) (mgo 6 loc r h))),
  (6, fun loc st h => malo loc 0 7 st h),
  (7, fun loc st h => fGeS 1 10 loc st h),
  (10, fun loc st h => mgo 14 loc st h),
  (14, fun _ st h => fIret .byte st h)]
theorem ft_196_ok : ∀ e ∈ ft_196, frow q196 e :=
  frow_cons (fr_gsC h196_0 (rfl : _ = some (38, 3, 2, 0))) (
  frow_cons (fr_ifc 13 h196_3 (by decide)) (
  frow_cons (fr_of h196_6 (fun _ _ _ => rfl)) (
  frow_cons (fr_geS h196_7 (rfl : _ = some (15, 2, 1, 0))) (
  frow_cons (fr_goto 14 h196_10 (by decide)) (
  frow_cons (fr_iret h196_14 rfl) ( frow_nil))))))
def ft_197 : FTb := [(0, fun loc st h => mgo 3 loc (.int 1 :: st) h),
  (3, fun loc st h => mi1 st (fun x r => fbr (mcond .eq x 0) (mgo 17 loc r h) (mgo 6 loc r h))),
  (6, fun loc st h => malo loc 0 7 st h),
  (7, fun loc st h => fGeS 1 10 loc st h),
  (10, fun loc st h => mi1 st (fun x r => fbr (mcond .ne x 0) (mgo 17 loc r h) (mgo 13 loc r h))),
  (13, fun loc st h => mgo 14 loc (.int (Int32.ofInt 1) :: st) h),
  (14, fun loc st h => mgo 18 loc st h),
  (18, fun _ st h => fIret .boolean st h)]
theorem ft_197_ok : ∀ e ∈ ft_197, frow q197 e :=
  frow_cons (fr_gsC h197_0 (rfl : _ = some (38, 3, 2, 0))) (
  frow_cons (fr_ifc 17 h197_3 (by decide)) (
  frow_cons (fr_of h197_6 (fun _ _ _ => rfl)) (
  frow_cons (fr_geS h197_7 (rfl : _ = some (15, 2, 1, 0))) (
  frow_cons (fr_ifc 17 h197_10 (by decide)) (
  frow_cons (fr_of h197_13 (fun _ _ _ => rfl)) (
  frow_cons (fr_goto 18 h197_14 (by decide)) (
  frow_cons (fr_iret h197_18 rfl) ( frow_nil))))))))
def ft_198 : FTb := [(0, fun loc st h => milo loc 0 1 st h),
  (1, fun loc st h => milo loc 1 2 st h),
  (2, fun loc st h => mgo 5 loc (.ref 1002 :: st) h),
  (5, fun loc st _ => fInS 3 203 8 loc st),
  (8, fun loc st h => mv1 st (fun _ r => mgo 9 loc r h)),
  (9, fun _ st h => fRet st h)]
theorem ft_198_ok : ∀ e ∈ ft_198, frow q198 e :=
  frow_cons (fr_of h198_0 (fun _ _ _ => rfl)) (
  frow_cons (fr_of h198_1 (fun _ _ _ => rfl)) (
  frow_cons (fr_gsF h198_2 (rfl : _ = some (1053, 3, 3, 0))) (
  frow_cons (fr_inS h198_5 (rfl : _ = some (1059, 6, 203, 2)) (Or.inl rfl) mq203) (
  frow_cons (fr_of h198_8 (fun _ _ _ => rfl)) (
  frow_cons (fr_ret h198_9 rfl) ( frow_nil))))))
def ft_199 : FTb := [(0, fun loc st h => milo loc 1 1 st h),
  (1, fun loc st h => malo loc 0 2 st h),
  (2, fun loc st h => mr1 st (fun a r => malen h a (fun n => mgo 3 loc (.int (Int32.ofNat n) :: r) h))),
  (3, fun loc st _ => fInS 2 198 6 loc st),
  (6, fun loc st h => malo loc 0 7 st h),
  (7, fun loc st h => milo loc 1 8 st h),
  (8, fun loc st h => fBal 9 loc st h),
  (9, fun loc st h => mgo 12 loc (.int ((Int16.ofInt 255).toInt32) :: st) h),
  (12, fun loc st h => mi2 st (fun x y r => mgo 13 loc (.int (x &&& y) :: r) h)),
  (13, fun loc st h => mi1 st (fun x r => mgo 14 loc (.int (x.toUInt32 % 65536).toInt32 :: r) h)),
  (14, fun _ st h => fIret .char st h)]
theorem ft_199_ok : ∀ e ∈ ft_199, frow q199 e :=
  frow_cons (fr_of h199_0 (fun _ _ _ => rfl)) (
  frow_cons (fr_of h199_1 (fun _ _ _ => rfl)) (
  frow_cons (fr_of h199_2 (fun _ _ _ => rfl)) (
  frow_cons (fr_inS h199_3 (rfl : _ = some (9, 6, 198, 2)) (Or.inl rfl) mq198) (
  frow_cons (fr_of h199_6 (fun _ _ _ => rfl)) (
  frow_cons (fr_of h199_7 (fun _ _ _ => rfl)) (
  frow_cons (fr_bald h199_8) (
  frow_cons (fr_of h199_9 (fun _ _ _ => rfl)) (
  frow_cons (fr_of h199_12 (fun _ _ _ => rfl)) (
  frow_cons (fr_of h199_13 (fun _ _ _ => rfl)) (
  frow_cons (fr_iret h199_14 rfl) ( frow_nil)))))))))))
def ft_200 : FTb := [(0, fun loc st h => milo loc 0 1 st h),
  (1, fun loc st h => mi1 st (fun x r => fbr (mcond .lt x 0) (mgo 15 loc r h) (mgo 4 loc r h))),
  (4, fun loc st h => milo loc 0 5 st h),
  (5, fun loc st h => mgo 8 loc (.int ((Int16.ofInt 255).toInt32) :: st) h),
  (8, fun loc st h => mi2 st (fun x y r => fbr (mcond .gt x y) (mgo 15 loc r h) (mgo 11 loc r h))),
  (11, fun loc st h => mgo 12 loc (.int (Int32.ofInt 1) :: st) h),
  (12, fun loc st h => mgo 16 loc st h),
  (16, fun _ st h => fIret .boolean st h)]
theorem ft_200_ok : ∀ e ∈ ft_200, frow q200 e :=
  frow_cons (fr_of h200_0 (fun _ _ _ => rfl)) (
  frow_cons (fr_ifc 15 h200_1 (by decide)) (
  frow_cons (fr_of h200_4 (fun _ _ _ => rfl)) (
  frow_cons (fr_of h200_5 (fun _ _ _ => rfl)) (
  frow_cons (fr_icmp 15 h200_8 (by decide)) (
  frow_cons (fr_of h200_11 (fun _ _ _ => rfl)) (
  frow_cons (fr_goto 16 h200_12 (by decide)) (
  frow_cons (fr_iret h200_16 rfl) ( frow_nil))))))))
def ft_201 : FTb := [(0, fun loc st h => milo loc 1 1 st h),
  (1, fun loc st _ => fInS 1 200 4 loc st),
  (4, fun loc st h => mi1 st (fun x r => fbr (mcond .ne x 0) (mgo 9 loc r h) (mgo 7 loc r h))),
  (9, fun loc st h => milo loc 2 10 st h),
  (10, fun loc st h => mgo 11 loc (.int (Int32.ofInt 0) :: st) h),
  (11, fun loc st h => mi2 st (fun x y r => if mcat r ≤ 8 then mgo 14 loc (.int (if x < y then y else x) :: r) h else none)),
  (14, fun loc st h => mi1 st (fun x r => mst loc 2 (.int x) (fun l => mgo 15 l r h))),
  (15, fun loc st h => milo loc 3 16 st h),
  (16, fun loc st h => malo loc 0 17 st h),
  (17, fun loc st h => mr1 st (fun a r => malen h a (fun n => mgo 18 loc (.int (Int32.ofNat n) :: r) h))),
  (18, fun loc st h => mi2 st (fun x y r => if mcat r ≤ 8 then mgo 21 loc (.int (if y < x then y else x) :: r) h else none)),
  (21, fun loc st h => mi1 st (fun x r => mst loc 3 (.int x) (fun l => mgo 22 l r h))),
  (22, fun loc st h => milo loc 2 23 st h),
  (23, fun loc st h => milo loc 3 24 st h),
  (24, fun loc st h => mi2 st (fun x y r => fbr (mcond .lt x y) (mgo 29 loc r h) (mgo 27 loc r h))),
  (29, fun loc st h => malo loc 0 30 st h),
  (30, fun loc st h => milo loc 1 31 st h),
  (31, fun loc st h => milo loc 2 32 st h),
  (32, fun loc st h => milo loc 3 33 st h),
  (33, fun loc st _ => fInS 4 202 36 loc st),
  (36, fun _ st h => fIret .int st h)]
theorem ft_201_ok : ∀ e ∈ ft_201, frow q201 e :=
  frow_cons (fr_of h201_0 (fun _ _ _ => rfl)) (
  frow_cons (fr_inS h201_1 (rfl : _ = some (88, 6, 200, 2)) (Or.inl rfl) mq200) (
  frow_cons (fr_ifc 9 h201_4 (by decide)) (
  frow_cons (fr_of h201_9 (fun _ _ _ => rfl)) (
  frow_cons (fr_of h201_10 (fun _ _ _ => rfl)) (
  frow_cons (fr_max h201_11 (rfl : _ = some (92, 10, 0, 0))) (
  frow_cons (fr_of h201_14 (fun _ _ _ => rfl)) (
  frow_cons (fr_of h201_15 (fun _ _ _ => rfl)) (
  frow_cons (fr_of h201_16 (fun _ _ _ => rfl)) (
  frow_cons (fr_of h201_17 (fun _ _ _ => rfl)) (
  frow_cons (fr_min h201_18 (rfl : _ = some (38, 11, 0, 0))) (
  frow_cons (fr_of h201_21 (fun _ _ _ => rfl)) (
  frow_cons (fr_of h201_22 (fun _ _ _ => rfl)) (
  frow_cons (fr_of h201_23 (fun _ _ _ => rfl)) (
  frow_cons (fr_icmp 29 h201_24 (by decide)) (
  frow_cons (fr_of h201_29 (fun _ _ _ => rfl)) (
  frow_cons (fr_of h201_30 (fun _ _ _ => rfl)) (
  frow_cons (fr_of h201_31 (fun _ _ _ => rfl)) (
  frow_cons (fr_of h201_32 (fun _ _ _ => rfl)) (
  frow_cons (fr_inS h201_33 (rfl : _ = some (95, 6, 202, 2)) (Or.inl rfl) mq202) (
  frow_cons (fr_iret h201_36 rfl) ( frow_nil)))))))))))))))))))))
def ft_202 : FTb := [(7, fun loc st h => milo loc 5 9 st h),
  (9, fun loc st h => milo loc 3 10 st h),
  (10, fun loc st h => mi2 st (fun x y r => fbr (mcond .ge x y) (mgo 31 loc r h) (mgo 13 loc r h))),
  (13, fun loc st h => malo loc 0 14 st h),
  (14, fun loc st h => milo loc 5 16 st h),
  (16, fun loc st h => fBal 17 loc st h),
  (17, fun loc st h => milo loc 4 19 st h),
  (19, fun loc st h => mi2 st (fun x y r => fbr (mcond .ne x y) (mgo 25 loc r h) (mgo 22 loc r h))),
  (25, fun loc st h => fInc 5 (Int32.ofInt 1) 28 loc st h),
  (28, fun loc st h => mgo 7 loc st h),
  (0, fun loc st h => milo loc 1 1 st h),
  (1, fun loc st h => mi1 st (fun x r => mgo 2 loc (.int x.toInt8.toInt32 :: r) h)),
  (2, fun loc st h => mi1 st (fun x r => mst loc 4 (.int x) (fun l => mgo 4 l r h))),
  (4, fun loc st h => milo loc 2 5 st h),
  (5, fun loc st h => mi1 st (fun x r => mst loc 5 (.int x) (fun l => mgo 7 l r h))),
  (22, fun loc st h => milo loc 5 24 st h),
  (24, fun _ st h => fIret .int st h)]
theorem ft_202_ok : ∀ e ∈ ft_202, frow q202 e :=
  frow_cons (fr_of h202_7 (fun _ _ _ => rfl)) (
  frow_cons (fr_of h202_9 (fun _ _ _ => rfl)) (
  frow_cons (fr_icmp 31 h202_10 (by decide)) (
  frow_cons (fr_of h202_13 (fun _ _ _ => rfl)) (
  frow_cons (fr_of h202_14 (fun _ _ _ => rfl)) (
  frow_cons (fr_bald h202_16) (
  frow_cons (fr_of h202_17 (fun _ _ _ => rfl)) (
  frow_cons (fr_icmp 25 h202_19 (by decide)) (
  frow_cons (fr_inc h202_25) (
  frow_cons (fr_goto 7 h202_28 (by decide)) (
  frow_cons (fr_of h202_0 (fun _ _ _ => rfl)) (
  frow_cons (fr_of h202_1 (fun _ _ _ => rfl)) (
  frow_cons (fr_of h202_2 (fun _ _ _ => rfl)) (
  frow_cons (fr_of h202_4 (fun _ _ _ => rfl)) (
  frow_cons (fr_of h202_5 (fun _ _ _ => rfl)) (
  frow_cons (fr_of h202_22 (fun _ _ _ => rfl)) (
  frow_cons (fr_iret h202_24 rfl) ( frow_nil)))))))))))))))))
def ft_203 : FTb := [(0, fun loc st h => milo loc 0 1 st h),
  (1, fun loc st h => mi1 st (fun x r => fbr (mcond .lt x 0) (mgo 9 loc r h) (mgo 4 loc r h))),
  (4, fun loc st h => milo loc 0 5 st h),
  (5, fun loc st h => milo loc 1 6 st h),
  (6, fun loc st h => mi2 st (fun x y r => fbr (mcond .lt x y) (mgo 16 loc r h) (mgo 9 loc r h))),
  (16, fun loc st h => milo loc 0 17 st h),
  (17, fun _ st h => fIret .int st h)]
theorem ft_203_ok : ∀ e ∈ ft_203, frow q203 e :=
  frow_cons (fr_of h203_0 (fun _ _ _ => rfl)) (
  frow_cons (fr_ifc 9 h203_1 (by decide)) (
  frow_cons (fr_of h203_4 (fun _ _ _ => rfl)) (
  frow_cons (fr_of h203_5 (fun _ _ _ => rfl)) (
  frow_cons (fr_icmp 16 h203_6 (by decide)) (
  frow_cons (fr_of h203_16 (fun _ _ _ => rfl)) (
  frow_cons (fr_iret h203_17 rfl) ( frow_nil)))))))
def ftL : List (Nat × Nat × FTb) := [(28, 2, ft_28), (57, 6, ft_57), (199, 2, ft_199), (51, 4, ft_51), (27, 2, ft_27), (197, 1, ft_197), (61, 2, ft_61), (193, 2, ft_193), (203, 3, ft_203), (198, 2, ft_198), (192, 1, ft_192), (196, 1, ft_196), (56, 4, ft_56), (52, 3, ft_52), (55, 3, ft_55), (54, 1, ft_54), (49, 2, ft_49), (113, 2, ft_113), (42, 4, ft_42), (202, 6, ft_202), (0, 2, ft_0), (39, 1, ft_39), (53, 1, ft_53), (43, 2, ft_43), (59, 5, ft_59), (29, 2, ft_29), (38, 3, ft_38), (31, 2, ft_31), (201, 4, ft_201), (44, 2, ft_44), (58, 3, ft_58), (65, 1, ft_65), (133, 2, ft_133), (41, 2, ft_41), (46, 1, ft_46), (195, 3, ft_195), (45, 2, ft_45), (60, 2, ft_60), (32, 2, ft_32), (21, 1, ft_21), (7, 1, ft_7), (200, 1, ft_200), (16, 2, ft_16), (194, 2, ft_194), (48, 2, ft_48), (37, 3, ft_37), (26, 1, ft_26), (30, 1, ft_30)]
theorem ftL_ok : ∀ e ∈ ftL, f2ok e :=
  f2_cons (f2_of mq28 rfl ft_28_ok) (
  f2_cons (f2_of mq57 rfl ft_57_ok) (
  f2_cons (f2_of mq199 rfl ft_199_ok) (
  f2_cons (f2_of mq51 rfl ft_51_ok) (
  f2_cons (f2_of mq27 rfl ft_27_ok) (
  f2_cons (f2_of mq197 rfl ft_197_ok) (
  f2_cons (f2_of mq61 rfl ft_61_ok) (
  f2_cons (f2_of mq193 rfl ft_193_ok) (
  f2_cons (f2_of mq203 rfl ft_203_ok) (
  f2_cons (f2_of mq198 rfl ft_198_ok) (
  f2_cons (f2_of mq192 rfl ft_192_ok) (
  f2_cons (f2_of mq196 rfl ft_196_ok) (
  f2_cons (f2_of mq56 rfl ft_56_ok) (
  f2_cons (f2_of mq52 rfl ft_52_ok) (
  f2_cons (f2_of mq55 rfl ft_55_ok) (
  f2_cons (f2_of mq54 rfl ft_54_ok) (
  f2_cons (f2_of mq49 rfl ft_49_ok) (
  f2_cons (f2_of mq113 rfl ft_113_ok) (
  f2_cons (f2_of mq42 rfl ft_42_ok) (
  f2_cons (f2_of mq202 rfl ft_202_ok) (
  f2_cons (f2_of mq0 rfl ft_0_ok) (
  f2_cons (f2_of mq39 rfl ft_39_ok) (
  f2_cons (f2_of mq53 rfl ft_53_ok) (
  f2_cons (f2_of mq43 rfl ft_43_ok) (
  f2_cons (f2_of mq59 rfl ft_59_ok) (
  f2_cons (f2_of mq29 rfl ft_29_ok) (
  f2_cons (f2_of mq38 rfl ft_38_ok) (
  f2_cons (f2_of mq31 rfl ft_31_ok) (
  f2_cons (f2_of mq201 rfl ft_201_ok) (
  f2_cons (f2_of mq44 rfl ft_44_ok) (
  f2_cons (f2_of mq58 rfl ft_58_ok) (
  f2_cons (f2_of mq65 rfl ft_65_ok) (
  f2_cons (f2_of mq133 rfl ft_133_ok) (
  f2_cons (f2_of mq41 rfl ft_41_ok) (
  f2_cons (f2_of mq46 rfl ft_46_ok) (
  f2_cons (f2_of mq195 rfl ft_195_ok) (
  f2_cons (f2_of mq45 rfl ft_45_ok) (
  f2_cons (f2_of mq60 rfl ft_60_ok) (
  f2_cons (f2_of mq32 rfl ft_32_ok) (
  f2_cons (f2_of mq21 rfl ft_21_ok) (
  f2_cons (f2_of mq7 rfl ft_7_ok) (
  f2_cons (f2_of mq200 rfl ft_200_ok) (
  f2_cons (f2_of mq16 rfl ft_16_ok) (
  f2_cons (f2_of mq194 rfl ft_194_ok) (
  f2_cons (f2_of mq48 rfl ft_48_ok) (
  f2_cons (f2_of mq37 rfl ft_37_ok) (
  f2_cons (f2_of mq26 rfl ft_26_ok) (
  f2_cons (f2_of mq30 rfl ft_30_ok) ( f2_nil))))))))))))))))))))))))))))))))))))))))))))))))
