/-! the instructions that run in the constructors, read beforehand (written by gen99o.py) -/
def ft_44 : FTb := [(0, fun loc st h => milo loc 1 1 st h),
  (1, fun loc st h => mi1 st (fun x r => fTs x 0 2 #[27, 35, 42] 1 50 (fun t => mgo t loc r h))),
  (55, fun _ st h => fRet st h),
  (51, fun loc st h => malo loc 0 52 st h),
  (52, fun loc st h => fInV 0 6 46 55 loc st h),
  (28, fun loc st h => malo loc 0 29 st h),
  (29, fun loc st h => mgo 30 loc (.int (Int32.ofInt 1) :: st) h),
  (30, fun loc st h => fInV 1 6 42 33 loc st h),
  (36, fun loc st h => malo loc 0 37 st h),
  (37, fun loc st h => fInV 0 6 45 40 loc st h),
  (43, fun loc st h => malo loc 0 44 st h),
  (44, fun loc st h => mgo 45 loc (.int (Int32.ofInt 3) :: st) h),
  (45, fun loc st h => fInV 1 6 42 48 loc st h),
  (48, fun loc st h => mgo 55 loc st h),
  (40, fun loc st h => mgo 55 loc st h),
  (33, fun loc st h => mgo 55 loc st h)]
theorem ft_44_ok : ∀ e ∈ ft_44, frow q44 e :=
  frow_cons (fr_of h44_0 (fun _ _ _ => rfl)) (
  frow_cons (fr_ts h44_1) (
  frow_cons (fr_ret h44_55 rfl) (
  frow_cons (fr_of h44_51 (fun _ _ _ => rfl)) (
  frow_cons (fr_inV (idx := 80) h44_52 (rfl : _ = some (80, 6, 46, 0)) (Or.inl ⟨rfl, Or.inl rfl⟩) mq46) (
  frow_cons (fr_of h44_28 (fun _ _ _ => rfl)) (
  frow_cons (fr_of h44_29 (fun _ _ _ => rfl)) (
  frow_cons (fr_inV (idx := 52) h44_30 (rfl : _ = some (52, 6, 42, 0)) (Or.inl ⟨rfl, Or.inl rfl⟩) mq42) (
  frow_cons (fr_of h44_36 (fun _ _ _ => rfl)) (
  frow_cons (fr_inV (idx := 77) h44_37 (rfl : _ = some (77, 6, 45, 0)) (Or.inl ⟨rfl, Or.inl rfl⟩) mq45) (
  frow_cons (fr_of h44_43 (fun _ _ _ => rfl)) (
  frow_cons (fr_of h44_44 (fun _ _ _ => rfl)) (
  frow_cons (fr_inV (idx := 52) h44_45 (rfl : _ = some (52, 6, 42, 0)) (Or.inl ⟨rfl, Or.inl rfl⟩) mq42) (
  frow_cons (fr_goto 55 h44_48 (by decide)) (
  frow_cons (fr_goto 55 h44_40 (by decide)) (
  frow_cons (fr_goto 55 h44_33 (by decide)) ( frow_nil))))))))))))))))
def ft_45 : FTb := [(0, fun loc st h => malo loc 0 1 st h),
  (1, fun loc st h => fGet 6 3 4 loc st h),
  (4, fun loc st h => mgo 6 loc (.int ((Int8.ofInt 11).toInt32) :: st) h),
  (6, fun loc st h => mi2 st (fun x y r => fbr (mcond .ne x y) (mgo 40 loc r h) (mgo 9 loc r h))),
  (40, fun loc st h => malo loc 0 41 st h),
  (41, fun loc st h => mgo 42 loc (.int (Int32.ofInt 2) :: st) h),
  (42, fun loc st h => fInV 1 6 42 45 loc st h),
  (45, fun loc st h => malo loc 0 46 st h),
  (46, fun loc st h => fGet 6 3 49 loc st h),
  (49, fun loc st h => mgo 51 loc (.int ((Int8.ofInt 18).toInt32) :: st) h),
  (51, fun loc st h => mi2 st (fun x y r => fbr (mcond .eq x y) (mgo 63 loc r h) (mgo 54 loc r h))),
  (54, fun loc st h => malo loc 0 55 st h),
  (55, fun loc st h => fGet 6 3 58 loc st h),
  (58, fun loc st h => mgo 60 loc (.int ((Int8.ofInt 19).toInt32) :: st) h),
  (60, fun loc st h => mi2 st (fun x y r => fbr (mcond .ne x y) (mgo 85 loc r h) (mgo 63 loc r h))),
  (85, fun _ st h => fRet st h)]
theorem ft_45_ok : ∀ e ∈ ft_45, frow q45 e :=
  frow_cons (fr_of h45_0 (fun _ _ _ => rfl)) (
  frow_cons (fr_get h45_1 (Or.inl (rfl : _ = some (40, 0, 6, 3)))) (
  frow_cons (fr_of h45_4 (fun _ _ _ => rfl)) (
  frow_cons (fr_icmp 40 h45_6 (by decide)) (
  frow_cons (fr_of h45_40 (fun _ _ _ => rfl)) (
  frow_cons (fr_of h45_41 (fun _ _ _ => rfl)) (
  frow_cons (fr_inV (idx := 52) h45_42 (rfl : _ = some (52, 6, 42, 0)) (Or.inl ⟨rfl, Or.inl rfl⟩) mq42) (
  frow_cons (fr_of h45_45 (fun _ _ _ => rfl)) (
  frow_cons (fr_get h45_46 (Or.inl (rfl : _ = some (40, 0, 6, 3)))) (
  frow_cons (fr_of h45_49 (fun _ _ _ => rfl)) (
  frow_cons (fr_icmp 63 h45_51 (by decide)) (
  frow_cons (fr_of h45_54 (fun _ _ _ => rfl)) (
  frow_cons (fr_get h45_55 (Or.inl (rfl : _ = some (40, 0, 6, 3)))) (
  frow_cons (fr_of h45_58 (fun _ _ _ => rfl)) (
  frow_cons (fr_icmp 85 h45_60 (by decide)) (
  frow_cons (fr_ret h45_85 rfl) ( frow_nil))))))))))))))))
def ft_46 : FTb := [(0, fun loc st h => malo loc 0 1 st h),
  (1, fun loc st h => fGet 6 3 4 loc st h),
  (4, fun loc st h => mgo 6 loc (.int ((Int8.ofInt 100).toInt32) :: st) h),
  (6, fun loc st h => mi2 st (fun x y r => fbr (mcond .ge x y) (mgo 17 loc r h) (mgo 9 loc r h))),
  (17, fun loc st h => malo loc 0 18 st h),
  (18, fun loc st h => fGet 6 1 21 loc st h),
  (21, fun loc st h => malo loc 0 22 st h),
  (22, fun loc st h => fGet 6 3 25 loc st h),
  (25, fun loc st h => fInV 1 5 31 28 loc st h),
  (28, fun loc st h => malo loc 0 29 st h),
  (29, fun loc st h => fInV 0 6 39 32 loc st h),
  (32, fun loc st h => mgo 121 loc st h),
  (121, fun _ st h => fRet st h),
  (9, fun loc st h => malo loc 0 10 st h),
  (10, fun loc st h => fGet 6 3 13 loc st h),
  (13, fun loc st h => mgo 14 loc (.int (Int32.ofInt 5) :: st) h),
  (14, fun loc st h => mi2 st (fun x y r => fbr (mcond .gt x y) (mgo 35 loc r h) (mgo 17 loc r h)))]
theorem ft_46_ok : ∀ e ∈ ft_46, frow q46 e :=
  frow_cons (fr_of h46_0 (fun _ _ _ => rfl)) (
  frow_cons (fr_get h46_1 (Or.inl (rfl : _ = some (40, 0, 6, 3)))) (
  frow_cons (fr_of h46_4 (fun _ _ _ => rfl)) (
  frow_cons (fr_icmp 17 h46_6 (by decide)) (
  frow_cons (fr_of h46_17 (fun _ _ _ => rfl)) (
  frow_cons (fr_get h46_18 (Or.inl (rfl : _ = some (20, 0, 6, 1)))) (
  frow_cons (fr_of h46_21 (fun _ _ _ => rfl)) (
  frow_cons (fr_get h46_22 (Or.inl (rfl : _ = some (40, 0, 6, 3)))) (
  frow_cons (fr_inV (idx := 74) h46_25 (rfl : _ = some (74, 6, 31, 1)) (Or.inl ⟨rfl, Or.inr rfl⟩) mq31) (
  frow_cons (fr_of h46_28 (fun _ _ _ => rfl)) (
  frow_cons (fr_inV (idx := 61) h46_29 (rfl : _ = some (61, 6, 39, 0)) (Or.inl ⟨rfl, Or.inl rfl⟩) mq39) (
  frow_cons (fr_goto 121 h46_32 (by decide)) (
  frow_cons (fr_ret h46_121 rfl) (
  frow_cons (fr_of h46_9 (fun _ _ _ => rfl)) (
  frow_cons (fr_get h46_10 (Or.inl (rfl : _ = some (40, 0, 6, 3)))) (
  frow_cons (fr_of h46_13 (fun _ _ _ => rfl)) (
  frow_cons (fr_icmp 35 h46_14 (by decide)) ( frow_nil)))))))))))))))))
def ft_48 : FTb := [(0, fun loc st h => malo loc 0 1 st h),
  (1, fun loc st h => fObj 4 loc st h),
  (4, fun loc st h => malo loc 0 5 st h),
  (5, fun loc st h => mgo 8 loc (.int ((Int16.ofInt 160).toInt32) :: st) h),
  (8, fun loc st h => fArI 10 loc st h),
  (10, fun loc st h => fPut 7 0 13 loc st h),
  (13, fun loc st h => malo loc 0 14 st h),
  (14, fun loc st h => mgo 17 loc (.int ((Int16.ofInt 160).toInt32) :: st) h),
  (17, fun loc st h => fArI 19 loc st h),
  (19, fun loc st h => fPut 7 1 22 loc st h),
  (22, fun loc st h => malo loc 0 23 st h),
  (23, fun loc st h => malo loc 1 24 st h),
  (24, fun loc st h => fPut 7 3 27 loc st h),
  (27, fun _ st h => fRet st h)]
theorem ft_48_ok : ∀ e ∈ ft_48, frow q48 e :=
  frow_cons (fr_of h48_0 (fun _ _ _ => rfl)) (
  frow_cons (fr_obj h48_1 (rfl : _ = some (3, 7, 0, 0))) (
  frow_cons (fr_of h48_4 (fun _ _ _ => rfl)) (
  frow_cons (fr_of h48_5 (fun _ _ _ => rfl)) (
  frow_cons (fr_arI h48_8) (
  frow_cons (fr_put h48_10 (Or.inl ⟨(rfl : _ = some (9, 0, 7, 0)), Or.inr ⟨by decide, rfl⟩⟩)) (
  frow_cons (fr_of h48_13 (fun _ _ _ => rfl)) (
  frow_cons (fr_of h48_14 (fun _ _ _ => rfl)) (
  frow_cons (fr_arI h48_17) (
  frow_cons (fr_put h48_19 (Or.inl ⟨(rfl : _ = some (15, 0, 7, 1)), Or.inr ⟨by decide, rfl⟩⟩)) (
  frow_cons (fr_of h48_22 (fun _ _ _ => rfl)) (
  frow_cons (fr_of h48_23 (fun _ _ _ => rfl)) (
  frow_cons (fr_put h48_24 (Or.inl ⟨(rfl : _ = some (18, 0, 7, 3)), Or.inr ⟨by decide, rfl⟩⟩)) (
  frow_cons (fr_ret h48_27 rfl) ( frow_nil))))))))))))))
def ft_49 : FTb := [(0, fun loc st h => milo loc 1 1 st h),
  (1, fun loc st h => mi1 st (fun x r => fbr (mcond .lt x 0) (mgo 30 loc r h) (mgo 4 loc r h))),
  (4, fun loc st h => milo loc 1 5 st h),
  (5, fun loc st h => malo loc 0 6 st h),
  (6, fun loc st h => fGet 7 2 9 loc st h),
  (9, fun loc st h => mi2 st (fun x y r => fbr (mcond .ge x y) (mgo 30 loc r h) (mgo 12 loc r h))),
  (32, fun _ st h => fIret .int st h),
  (12, fun loc st h => milo loc 1 13 st h),
  (13, fun loc st h => malo loc 0 14 st h),
  (14, fun loc st h => fGet 7 0 17 loc st h),
  (17, fun loc st h => mr1 st (fun a r => malen h a (fun n => mgo 18 loc (.int (Int32.ofNat n) :: r) h))),
  (18, fun loc st h => mi2 st (fun x y r => fbr (mcond .ge x y) (mgo 30 loc r h) (mgo 21 loc r h))),
  (21, fun loc st h => malo loc 0 22 st h),
  (22, fun loc st h => fGet 7 0 25 loc st h),
  (25, fun loc st h => milo loc 1 26 st h),
  (26, fun loc st h => fIal 27 loc st h),
  (27, fun loc st h => mgo 32 loc st h),
  (30, fun loc st h => mgo 32 loc (.int ((Int8.ofInt 20).toInt32) :: st) h)]
theorem ft_49_ok : ∀ e ∈ ft_49, frow q49 e :=
  frow_cons (fr_of h49_0 (fun _ _ _ => rfl)) (
  frow_cons (fr_ifc 30 h49_1 (by decide)) (
  frow_cons (fr_of h49_4 (fun _ _ _ => rfl)) (
  frow_cons (fr_of h49_5 (fun _ _ _ => rfl)) (
  frow_cons (fr_get h49_6 (Or.inl (rfl : _ = some (22, 0, 7, 2)))) (
  frow_cons (fr_icmp 30 h49_9 (by decide)) (
  frow_cons (fr_iret h49_32 rfl) (
  frow_cons (fr_of h49_12 (fun _ _ _ => rfl)) (
  frow_cons (fr_of h49_13 (fun _ _ _ => rfl)) (
  frow_cons (fr_get h49_14 (Or.inl (rfl : _ = some (9, 0, 7, 0)))) (
  frow_cons (fr_of h49_17 (fun _ _ _ => rfl)) (
  frow_cons (fr_icmp 30 h49_18 (by decide)) (
  frow_cons (fr_of h49_21 (fun _ _ _ => rfl)) (
  frow_cons (fr_get h49_22 (Or.inl (rfl : _ = some (9, 0, 7, 0)))) (
  frow_cons (fr_of h49_25 (fun _ _ _ => rfl)) (
  frow_cons (fr_iald h49_26) (
  frow_cons (fr_goto 32 h49_27 (by decide)) (
  frow_cons (fr_of h49_30 (fun _ _ _ => rfl)) ( frow_nil))))))))))))))))))
def ft_51 : FTb := [(9, fun loc st h => milo loc 2 10 st h),
  (10, fun loc st h => malo loc 0 11 st h),
  (11, fun loc st h => fGet 7 3 14 loc st h),
  (14, fun loc st h => fGet 4 1 17 loc st h),
  (17, fun loc st h => mi2 st (fun x y r => fbr (mcond .ge x y) (mgo 116 loc r h) (mgo 20 loc r h))),
  (20, fun loc st h => malo loc 0 21 st h),
  (21, fun loc st h => fGet 7 3 24 loc st h),
  (24, fun loc st h => milo loc 2 25 st h),
  (25, fun loc st h => fInV 1 4 28 28 loc st h),
  (28, fun loc st h => mi1 st (fun x r => mst loc 3 (.int x) (fun l => mgo 29 l r h))),
  (29, fun loc st h => milo loc 2 30 st h),
  (30, fun loc st h => milo loc 1 31 st h),
  (31, fun loc st h => mi2 st (fun x y r => fbr (mcond .lt x y) (mgo 110 loc r h) (mgo 34 loc r h))),
  (110, fun loc st h => fInc 2 (Int32.ofInt 1) 113 loc st h),
  (113, fun loc st h => mgo 9 loc st h),
  (34, fun loc st h => milo loc 3 35 st h),
  (35, fun loc st _ => fInS 1 53 38 loc st),
  (38, fun loc st h => mi1 st (fun x r => fbr (mcond .eq x 0) (mgo 44 loc r h) (mgo 41 loc r h))),
  (44, fun loc st h => milo loc 3 45 st h),
  (45, fun loc st _ => fInS 1 54 48 loc st),
  (48, fun loc st h => mi1 st (fun x r => fbr (mcond .eq x 0) (mgo 71 loc r h) (mgo 51 loc r h))),
  (41, fun loc st h => mgo 110 loc st h),
  (71, fun loc st h => milo loc 3 72 st h),
  (72, fun loc st h => mgo 74 loc (.int ((Int8.ofInt 48).toInt32) :: st) h),
  (74, fun loc st h => mi2 st (fun x y r => mgo 75 loc (.int (x - y) :: r) h)),
  (75, fun loc st _ => fInS 1 65 78 loc st),
  (78, fun loc st h => mi1 st (fun x r => fbr (mcond .eq x 0) (mgo 101 loc r h) (mgo 81 loc r h))),
  (51, fun loc st h => malo loc 0 52 st h),
  (52, fun loc st h => milo loc 2 53 st h),
  (53, fun loc st h => fInV 1 7 55 56 loc st h),
  (56, fun loc st h => mi1 st (fun x r => mst loc 1 (.int x) (fun l => mgo 57 l r h))),
  (57, fun loc st h => malo loc 0 58 st h),
  (58, fun loc st h => malo loc 0 59 st h),
  (59, fun loc st h => milo loc 2 60 st h),
  (60, fun loc st h => milo loc 1 61 st h),
  (61, fun loc st h => fInV 2 7 56 64 loc st h),
  (64, fun loc st h => milo loc 2 65 st h),
  (65, fun loc st h => fInV 2 7 52 68 loc st h),
  (68, fun loc st h => mgo 110 loc st h),
  (101, fun loc st h => malo loc 0 102 st h),
  (102, fun loc st h => milo loc 3 103 st h),
  (103, fun loc st _ => fInS 1 60 106 loc st),
  (106, fun loc st h => milo loc 2 107 st h),
  (107, fun loc st h => fInV 2 7 52 110 loc st h),
  (81, fun loc st h => malo loc 0 82 st h),
  (82, fun loc st h => milo loc 2 83 st h),
  (83, fun loc st h => fInV 1 7 58 86 loc st h),
  (86, fun loc st h => mi1 st (fun x r => mst loc 1 (.int x) (fun l => mgo 87 l r h))),
  (87, fun loc st h => malo loc 0 88 st h),
  (88, fun loc st h => malo loc 0 89 st h),
  (89, fun loc st h => milo loc 2 90 st h),
  (90, fun loc st h => milo loc 1 91 st h),
  (91, fun loc st h => fInV 2 7 59 94 loc st h),
  (94, fun loc st h => milo loc 2 95 st h),
  (95, fun loc st h => fInV 2 7 52 98 loc st h),
  (98, fun loc st h => mgo 110 loc st h),
  (0, fun loc st h => malo loc 0 1 st h),
  (1, fun loc st h => mgo 2 loc (.int (Int32.ofInt 0) :: st) h),
  (2, fun loc st h => fPut 7 2 5 loc st h),
  (5, fun loc st h => mgo 6 loc (.int (Int32.ofInt 0) :: st) h),
  (6, fun loc st h => mi1 st (fun x r => mst loc 1 (.int x) (fun l => mgo 7 l r h))),
  (7, fun loc st h => mgo 8 loc (.int (Int32.ofInt 0) :: st) h),
  (8, fun loc st h => mi1 st (fun x r => mst loc 2 (.int x) (fun l => mgo 9 l r h))),
  (116, fun _ st h => fRet st h)]
theorem ft_51_ok : ∀ e ∈ ft_51, frow q51 e :=
  frow_cons (fr_of h51_9 (fun _ _ _ => rfl)) (
  frow_cons (fr_of h51_10 (fun _ _ _ => rfl)) (
  frow_cons (fr_get h51_11 (Or.inl (rfl : _ = some (18, 0, 7, 3)))) (
  frow_cons (fr_get h51_14 (Or.inr (rfl : _ = some (26, 1, 4, 1)))) (
  frow_cons (fr_icmp 116 h51_17 (by decide)) (
  frow_cons (fr_of h51_20 (fun _ _ _ => rfl)) (
  frow_cons (fr_get h51_21 (Or.inl (rfl : _ = some (18, 0, 7, 3)))) (
  frow_cons (fr_of h51_24 (fun _ _ _ => rfl)) (
  frow_cons (fr_inV (idx := 31) h51_25 (rfl : _ = some (31, 6, 28, 1)) (Or.inl ⟨rfl, Or.inr rfl⟩) mq28) (
  frow_cons (fr_of h51_28 (fun _ _ _ => rfl)) (
  frow_cons (fr_of h51_29 (fun _ _ _ => rfl)) (
  frow_cons (fr_of h51_30 (fun _ _ _ => rfl)) (
  frow_cons (fr_icmp 110 h51_31 (by decide)) (
  frow_cons (fr_inc h51_110) (
  frow_cons (fr_goto 9 h51_113 (by decide)) (
  frow_cons (fr_of h51_34 (fun _ _ _ => rfl)) (
  frow_cons (fr_inS h51_35 (rfl : _ = some (35, 6, 53, 2)) (Or.inl rfl) mq53) (
  frow_cons (fr_ifc 44 h51_38 (by decide)) (
  frow_cons (fr_of h51_44 (fun _ _ _ => rfl)) (
  frow_cons (fr_inS h51_45 (rfl : _ = some (39, 6, 54, 2)) (Or.inl rfl) mq54) (
  frow_cons (fr_ifc 71 h51_48 (by decide)) (
  frow_cons (fr_goto 110 h51_41 (by decide)) (
  frow_cons (fr_of h51_71 (fun _ _ _ => rfl)) (
  frow_cons (fr_of h51_72 (fun _ _ _ => rfl)) (
  frow_cons (fr_of h51_74 (fun _ _ _ => rfl)) (
  frow_cons (fr_inS h51_75 (rfl : _ = some (53, 6, 65, 3)) (Or.inr rfl) mq65) (
  frow_cons (fr_ifc 101 h51_78 (by decide)) (
  frow_cons (fr_of h51_51 (fun _ _ _ => rfl)) (
  frow_cons (fr_of h51_52 (fun _ _ _ => rfl)) (
  frow_cons (fr_inV (idx := 42) h51_53 (rfl : _ = some (42, 6, 55, 0)) (Or.inl ⟨rfl, Or.inl rfl⟩) mq55) (
  frow_cons (fr_of h51_56 (fun _ _ _ => rfl)) (
  frow_cons (fr_of h51_57 (fun _ _ _ => rfl)) (
  frow_cons (fr_of h51_58 (fun _ _ _ => rfl)) (
  frow_cons (fr_of h51_59 (fun _ _ _ => rfl)) (
  frow_cons (fr_of h51_60 (fun _ _ _ => rfl)) (
  frow_cons (fr_inV (idx := 45) h51_61 (rfl : _ = some (45, 6, 56, 0)) (Or.inl ⟨rfl, Or.inl rfl⟩) mq56) (
  frow_cons (fr_of h51_64 (fun _ _ _ => rfl)) (
  frow_cons (fr_inV (idx := 49) h51_65 (rfl : _ = some (49, 6, 52, 0)) (Or.inl ⟨rfl, Or.inl rfl⟩) mq52) (
  frow_cons (fr_goto 110 h51_68 (by decide)) (
  frow_cons (fr_of h51_101 (fun _ _ _ => rfl)) (
  frow_cons (fr_of h51_102 (fun _ _ _ => rfl)) (
  frow_cons (fr_inS h51_103 (rfl : _ = some (62, 6, 60, 2)) (Or.inl rfl) mq60) (
  frow_cons (fr_of h51_106 (fun _ _ _ => rfl)) (
  frow_cons (fr_inV (idx := 49) h51_107 (rfl : _ = some (49, 6, 52, 0)) (Or.inl ⟨rfl, Or.inl rfl⟩) mq52) (
  frow_cons (fr_of h51_81 (fun _ _ _ => rfl)) (
  frow_cons (fr_of h51_82 (fun _ _ _ => rfl)) (
  frow_cons (fr_inV (idx := 56) h51_83 (rfl : _ = some (56, 6, 58, 0)) (Or.inl ⟨rfl, Or.inl rfl⟩) mq58) (
  frow_cons (fr_of h51_86 (fun _ _ _ => rfl)) (
  frow_cons (fr_of h51_87 (fun _ _ _ => rfl)) (
  frow_cons (fr_of h51_88 (fun _ _ _ => rfl)) (
  frow_cons (fr_of h51_89 (fun _ _ _ => rfl)) (
  frow_cons (fr_of h51_90 (fun _ _ _ => rfl)) (
  frow_cons (fr_inV (idx := 59) h51_91 (rfl : _ = some (59, 6, 59, 0)) (Or.inl ⟨rfl, Or.inl rfl⟩) mq59) (
  frow_cons (fr_of h51_94 (fun _ _ _ => rfl)) (
  frow_cons (fr_inV (idx := 49) h51_95 (rfl : _ = some (49, 6, 52, 0)) (Or.inl ⟨rfl, Or.inl rfl⟩) mq52) (
  frow_cons (fr_goto 110 h51_98 (by decide)) (
  frow_cons (fr_of h51_0 (fun _ _ _ => rfl)) (
  frow_cons (fr_of h51_1 (fun _ _ _ => rfl)) (
  frow_cons (fr_put h51_2 (Or.inl ⟨(rfl : _ = some (22, 0, 7, 2)), Or.inl rfl⟩)) (
  frow_cons (fr_of h51_5 (fun _ _ _ => rfl)) (
  frow_cons (fr_of h51_6 (fun _ _ _ => rfl)) (
  frow_cons (fr_of h51_7 (fun _ _ _ => rfl)) (
  frow_cons (fr_of h51_8 (fun _ _ _ => rfl)) (
  frow_cons (fr_ret h51_116 rfl) ( frow_nil))))))))))))))))))))))))))))))))))))))))))))))))))))))))))))))))
def ft_52 : FTb := [(0, fun loc st h => malo loc 0 1 st h),
  (1, fun loc st h => fGet 7 2 4 loc st h),
  (4, fun loc st h => malo loc 0 5 st h),
  (5, fun loc st h => fGet 7 0 8 loc st h),
  (8, fun loc st h => mr1 st (fun a r => malen h a (fun n => mgo 9 loc (.int (Int32.ofNat n) :: r) h))),
  (9, fun loc st h => mi2 st (fun x y r => fbr (mcond .ge x y) (mgo 54 loc r h) (mgo 12 loc r h))),
  (12, fun loc st h => malo loc 0 13 st h),
  (13, fun loc st h => fGet 7 2 16 loc st h),
  (16, fun loc st h => malo loc 0 17 st h),
  (17, fun loc st h => fGet 7 1 20 loc st h),
  (20, fun loc st h => mr1 st (fun a r => malen h a (fun n => mgo 21 loc (.int (Int32.ofNat n) :: r) h))),
  (21, fun loc st h => mi2 st (fun x y r => fbr (mcond .ge x y) (mgo 54 loc r h) (mgo 24 loc r h))),
  (24, fun loc st h => malo loc 0 25 st h),
  (25, fun loc st h => fGet 7 0 28 loc st h),
  (28, fun loc st h => malo loc 0 29 st h),
  (29, fun loc st h => fGet 7 2 32 loc st h),
  (32, fun loc st h => milo loc 1 33 st h),
  (33, fun loc st h => fIas 34 loc st h),
  (34, fun loc st h => malo loc 0 35 st h),
  (35, fun loc st h => fGet 7 1 38 loc st h),
  (38, fun loc st h => malo loc 0 39 st h),
  (39, fun loc st h => fGet 7 2 42 loc st h),
  (42, fun loc st h => milo loc 2 43 st h),
  (43, fun loc st h => fIas 44 loc st h),
  (44, fun loc st h => malo loc 0 45 st h),
  (45, fun loc st h => mv1 st (fun v r => mgo 46 loc (v :: v :: r) h)),
  (46, fun loc st h => fGet 7 2 49 loc st h),
  (49, fun loc st h => mgo 50 loc (.int (Int32.ofInt 1) :: st) h),
  (50, fun loc st h => mi2 st (fun x y r => mgo 51 loc (.int (x + y) :: r) h)),
  (51, fun loc st h => fPut 7 2 54 loc st h),
  (54, fun _ st h => fRet st h)]
theorem ft_52_ok : ∀ e ∈ ft_52, frow q52 e :=
  frow_cons (fr_of h52_0 (fun _ _ _ => rfl)) (
  frow_cons (fr_get h52_1 (Or.inl (rfl : _ = some (22, 0, 7, 2)))) (
  frow_cons (fr_of h52_4 (fun _ _ _ => rfl)) (
  frow_cons (fr_get h52_5 (Or.inl (rfl : _ = some (9, 0, 7, 0)))) (
  frow_cons (fr_of h52_8 (fun _ _ _ => rfl)) (
  frow_cons (fr_icmp 54 h52_9 (by decide)) (
  frow_cons (fr_of h52_12 (fun _ _ _ => rfl)) (
  frow_cons (fr_get h52_13 (Or.inl (rfl : _ = some (22, 0, 7, 2)))) (
  frow_cons (fr_of h52_16 (fun _ _ _ => rfl)) (
  frow_cons (fr_get h52_17 (Or.inl (rfl : _ = some (15, 0, 7, 1)))) (
  frow_cons (fr_of h52_20 (fun _ _ _ => rfl)) (
  frow_cons (fr_icmp 54 h52_21 (by decide)) (
  frow_cons (fr_of h52_24 (fun _ _ _ => rfl)) (
  frow_cons (fr_get h52_25 (Or.inl (rfl : _ = some (9, 0, 7, 0)))) (
  frow_cons (fr_of h52_28 (fun _ _ _ => rfl)) (
  frow_cons (fr_get h52_29 (Or.inl (rfl : _ = some (22, 0, 7, 2)))) (
  frow_cons (fr_of h52_32 (fun _ _ _ => rfl)) (
  frow_cons (fr_iast h52_33) (
  frow_cons (fr_of h52_34 (fun _ _ _ => rfl)) (
  frow_cons (fr_get h52_35 (Or.inl (rfl : _ = some (15, 0, 7, 1)))) (
  frow_cons (fr_of h52_38 (fun _ _ _ => rfl)) (
  frow_cons (fr_get h52_39 (Or.inl (rfl : _ = some (22, 0, 7, 2)))) (
  frow_cons (fr_of h52_42 (fun _ _ _ => rfl)) (
  frow_cons (fr_iast h52_43) (
  frow_cons (fr_of h52_44 (fun _ _ _ => rfl)) (
  frow_cons (fr_of h52_45 (fun _ _ _ => rfl)) (
  frow_cons (fr_get h52_46 (Or.inl (rfl : _ = some (22, 0, 7, 2)))) (
  frow_cons (fr_of h52_49 (fun _ _ _ => rfl)) (
  frow_cons (fr_of h52_50 (fun _ _ _ => rfl)) (
  frow_cons (fr_put h52_51 (Or.inl ⟨(rfl : _ = some (22, 0, 7, 2)), Or.inl rfl⟩)) (
  frow_cons (fr_ret h52_54 rfl) ( frow_nil)))))))))))))))))))))))))))))))
def ft_53 : FTb := [(0, fun loc st h => milo loc 0 1 st h),
  (1, fun loc st h => mgo 3 loc (.int ((Int8.ofInt 32).toInt32) :: st) h),
  (3, fun loc st h => mi2 st (fun x y r => fbr (mcond .eq x y) (mgo 12 loc r h) (mgo 6 loc r h))),
  (17, fun _ st h => fIret .boolean st h),
  (6, fun loc st h => milo loc 0 7 st h),
  (7, fun loc st h => mgo 9 loc (.int ((Int8.ofInt 10).toInt32) :: st) h),
  (9, fun loc st h => mi2 st (fun x y r => fbr (mcond .ne x y) (mgo 16 loc r h) (mgo 12 loc r h))),
  (16, fun loc st h => mgo 17 loc (.int (Int32.ofInt 0) :: st) h),
  (12, fun loc st h => mgo 13 loc (.int (Int32.ofInt 1) :: st) h),
  (13, fun loc st h => mgo 17 loc st h)]
theorem ft_53_ok : ∀ e ∈ ft_53, frow q53 e :=
  frow_cons (fr_of h53_0 (fun _ _ _ => rfl)) (
  frow_cons (fr_of h53_1 (fun _ _ _ => rfl)) (
  frow_cons (fr_icmp 12 h53_3 (by decide)) (
  frow_cons (fr_iret h53_17 rfl) (
  frow_cons (fr_of h53_6 (fun _ _ _ => rfl)) (
  frow_cons (fr_of h53_7 (fun _ _ _ => rfl)) (
  frow_cons (fr_icmp 16 h53_9 (by decide)) (
  frow_cons (fr_of h53_16 (fun _ _ _ => rfl)) (
  frow_cons (fr_of h53_12 (fun _ _ _ => rfl)) (
  frow_cons (fr_goto 17 h53_13 (by decide)) ( frow_nil))))))))))
def ft_54 : FTb := [(0, fun loc st h => milo loc 0 1 st h),
  (1, fun loc st h => mgo 3 loc (.int ((Int8.ofInt 97).toInt32) :: st) h),
  (3, fun loc st h => mi2 st (fun x y r => fbr (mcond .lt x y) (mgo 16 loc r h) (mgo 6 loc r h))),
  (17, fun _ st h => fIret .boolean st h),
  (6, fun loc st h => milo loc 0 7 st h),
  (7, fun loc st h => mgo 9 loc (.int ((Int8.ofInt 122).toInt32) :: st) h),
  (9, fun loc st h => mi2 st (fun x y r => fbr (mcond .gt x y) (mgo 16 loc r h) (mgo 12 loc r h))),
  (12, fun loc st h => mgo 13 loc (.int (Int32.ofInt 1) :: st) h),
  (13, fun loc st h => mgo 17 loc st h),
  (16, fun loc st h => mgo 17 loc (.int (Int32.ofInt 0) :: st) h)]
theorem ft_54_ok : ∀ e ∈ ft_54, frow q54 e :=
  frow_cons (fr_of h54_0 (fun _ _ _ => rfl)) (
  frow_cons (fr_of h54_1 (fun _ _ _ => rfl)) (
  frow_cons (fr_icmp 16 h54_3 (by decide)) (
  frow_cons (fr_iret h54_17 rfl) (
  frow_cons (fr_of h54_6 (fun _ _ _ => rfl)) (
  frow_cons (fr_of h54_7 (fun _ _ _ => rfl)) (
  frow_cons (fr_icmp 16 h54_9 (by decide)) (
  frow_cons (fr_of h54_12 (fun _ _ _ => rfl)) (
  frow_cons (fr_goto 17 h54_13 (by decide)) (
  frow_cons (fr_of h54_16 (fun _ _ _ => rfl)) ( frow_nil))))))))))
def ft_55 : FTb := [(4, fun loc st h => milo loc 2 5 st h),
  (5, fun loc st h => malo loc 0 6 st h),
  (6, fun loc st h => fGet 7 3 9 loc st h),
  (9, fun loc st h => fGet 4 1 12 loc st h),
  (12, fun loc st h => mi2 st (fun x y r => fbr (mcond .ge x y) (mgo 35 loc r h) (mgo 15 loc r h))),
  (15, fun loc st h => malo loc 0 16 st h),
  (16, fun loc st h => fGet 7 3 19 loc st h),
  (19, fun loc st h => milo loc 2 20 st h),
  (20, fun loc st h => fInV 1 4 28 23 loc st h),
  (23, fun loc st _ => fInS 1 54 26 loc st),
  (26, fun loc st h => mi1 st (fun x r => fbr (mcond .eq x 0) (mgo 35 loc r h) (mgo 29 loc r h))),
  (29, fun loc st h => fInc 2 (Int32.ofInt 1) 32 loc st h),
  (32, fun loc st h => mgo 4 loc st h),
  (0, fun loc st h => milo loc 1 1 st h),
  (1, fun loc st h => mgo 2 loc (.int (Int32.ofInt 1) :: st) h),
  (2, fun loc st h => mi2 st (fun x y r => mgo 3 loc (.int (x + y) :: r) h)),
  (3, fun loc st h => mi1 st (fun x r => mst loc 2 (.int x) (fun l => mgo 4 l r h))),
  (35, fun loc st h => milo loc 2 36 st h),
  (36, fun _ st h => fIret .int st h)]
theorem ft_55_ok : ∀ e ∈ ft_55, frow q55 e :=
  frow_cons (fr_of h55_4 (fun _ _ _ => rfl)) (
  frow_cons (fr_of h55_5 (fun _ _ _ => rfl)) (
  frow_cons (fr_get h55_6 (Or.inl (rfl : _ = some (18, 0, 7, 3)))) (
  frow_cons (fr_get h55_9 (Or.inr (rfl : _ = some (26, 1, 4, 1)))) (
  frow_cons (fr_icmp 35 h55_12 (by decide)) (
  frow_cons (fr_of h55_15 (fun _ _ _ => rfl)) (
  frow_cons (fr_get h55_16 (Or.inl (rfl : _ = some (18, 0, 7, 3)))) (
  frow_cons (fr_of h55_19 (fun _ _ _ => rfl)) (
  frow_cons (fr_inV (idx := 31) h55_20 (rfl : _ = some (31, 6, 28, 1)) (Or.inl ⟨rfl, Or.inr rfl⟩) mq28) (
  frow_cons (fr_inS h55_23 (rfl : _ = some (39, 6, 54, 2)) (Or.inl rfl) mq54) (
  frow_cons (fr_ifc 35 h55_26 (by decide)) (
  frow_cons (fr_inc h55_29) (
  frow_cons (fr_goto 4 h55_32 (by decide)) (
  frow_cons (fr_of h55_0 (fun _ _ _ => rfl)) (
  frow_cons (fr_of h55_1 (fun _ _ _ => rfl)) (
  frow_cons (fr_of h55_2 (fun _ _ _ => rfl)) (
  frow_cons (fr_of h55_3 (fun _ _ _ => rfl)) (
  frow_cons (fr_of h55_35 (fun _ _ _ => rfl)) (
  frow_cons (fr_iret h55_36 rfl) ( frow_nil)))))))))))))))))))
def ft_56 : FTb := [(2, fun loc st h => milo loc 3 3 st h),
  (3, fun loc st h => mgo 5 loc (.ref (1010 + 1) :: st) h),
  (5, fun loc st h => fInV 0 10 192 8 loc st h),
  (8, fun loc st h => mgo 10 loc (.int ((Int8.ofInt 8).toInt32) :: st) h),
  (10, fun loc st h => mi2 st (fun x y r => if y = 0 then none else mgo 11 loc (.int (x / y) :: r) h)),
  (11, fun loc st h => mi2 st (fun x y r => fbr (mcond .ge x y) (mgo 32 loc r h) (mgo 14 loc r h))),
  (14, fun loc st h => malo loc 0 15 st h),
  (15, fun loc st h => milo loc 3 16 st h),
  (16, fun loc st h => milo loc 1 17 st h),
  (17, fun loc st h => milo loc 2 18 st h),
  (18, fun loc st h => fInV 3 7 57 21 loc st h),
  (21, fun loc st h => mi1 st (fun x r => fbr (mcond .eq x 0) (mgo 26 loc r h) (mgo 24 loc r h))),
  (26, fun loc st h => fInc 3 (Int32.ofInt 1) 29 loc st h),
  (29, fun loc st h => mgo 2 loc st h),
  (0, fun loc st h => mgo 1 loc (.int (Int32.ofInt 0) :: st) h),
  (1, fun loc st h => mi1 st (fun x r => mst loc 3 (.int x) (fun l => mgo 2 l r h))),
  (24, fun loc st h => milo loc 3 25 st h),
  (25, fun _ st h => fIret .int st h)]
theorem ft_56_ok : ∀ e ∈ ft_56, frow q56 e :=
  frow_cons (fr_of h56_2 (fun _ _ _ => rfl)) (
  frow_cons (fr_ldS h56_3 rfl (rfl : _ = some (65, 9, 1, 0)) (by decide)) (
  frow_cons (fr_inV (idx := 67) h56_5 (rfl : _ = some (67, 6, 192, 0)) (Or.inl ⟨rfl, Or.inl rfl⟩) mq192) (
  frow_cons (fr_of h56_8 (fun _ _ _ => rfl)) (
  frow_cons (fr_of h56_10 (fun _ _ _ => rfl)) (
  frow_cons (fr_icmp 32 h56_11 (by decide)) (
  frow_cons (fr_of h56_14 (fun _ _ _ => rfl)) (
  frow_cons (fr_of h56_15 (fun _ _ _ => rfl)) (
  frow_cons (fr_of h56_16 (fun _ _ _ => rfl)) (
  frow_cons (fr_of h56_17 (fun _ _ _ => rfl)) (
  frow_cons (fr_inV (idx := 73) h56_18 (rfl : _ = some (73, 6, 57, 0)) (Or.inl ⟨rfl, Or.inl rfl⟩) mq57) (
  frow_cons (fr_ifc 26 h56_21 (by decide)) (
  frow_cons (fr_inc h56_26) (
  frow_cons (fr_goto 2 h56_29 (by decide)) (
  frow_cons (fr_of h56_0 (fun _ _ _ => rfl)) (
  frow_cons (fr_of h56_1 (fun _ _ _ => rfl)) (
  frow_cons (fr_of h56_24 (fun _ _ _ => rfl)) (
  frow_cons (fr_iret h56_25 rfl) ( frow_nil))))))))))))))))))
def ft_57 : FTb := [(13, fun loc st h => milo loc 4 15 st h),
  (15, fun loc st h => mgo 17 loc (.int ((Int8.ofInt 8).toInt32) :: st) h),
  (17, fun loc st h => mi2 st (fun x y r => fbr (mcond .ge x y) (mgo 71 loc r h) (mgo 20 loc r h))),
  (20, fun loc st h => milo loc 2 21 st h),
  (21, fun loc st h => milo loc 4 23 st h),
  (23, fun loc st h => mi2 st (fun x y r => mgo 24 loc (.int (x + y) :: r) h)),
  (24, fun loc st h => milo loc 3 25 st h),
  (25, fun loc st h => mi2 st (fun x y r => fbr (mcond .ge x y) (mgo 42 loc r h) (mgo 28 loc r h))),
  (44, fun loc st h => mi1 st (fun x r => mst loc 5 (.int x) (fun l => mgo 46 l r h))),
  (46, fun loc st h => milo loc 5 48 st h),
  (48, fun loc st h => mgo 50 loc (.ref (1010 + 1) :: st) h),
  (50, fun loc st h => milo loc 1 51 st h),
  (51, fun loc st h => mgo 53 loc (.int ((Int8.ofInt 8).toInt32) :: st) h),
  (53, fun loc st h => mi2 st (fun x y r => mgo 54 loc (.int (x * y) :: r) h)),
  (54, fun loc st h => milo loc 4 56 st h),
  (56, fun loc st h => mi2 st (fun x y r => mgo 57 loc (.int (x + y) :: r) h)),
  (57, fun loc st h => fInV 1 10 193 60 loc st h),
  (60, fun loc st h => mi2 st (fun x y r => fbr (mcond .eq x y) (mgo 65 loc r h) (mgo 63 loc r h))),
  (28, fun loc st h => malo loc 0 29 st h),
  (29, fun loc st h => fGet 7 3 32 loc st h),
  (32, fun loc st h => milo loc 2 33 st h),
  (33, fun loc st h => milo loc 4 35 st h),
  (35, fun loc st h => mi2 st (fun x y r => mgo 36 loc (.int (x + y) :: r) h)),
  (36, fun loc st h => fInV 1 4 28 39 loc st h),
  (39, fun loc st h => mgo 44 loc st h),
  (65, fun loc st h => fInc 4 (Int32.ofInt 1) 68 loc st h),
  (68, fun loc st h => mgo 13 loc st h),
  (0, fun loc st h => milo loc 3 1 st h),
  (1, fun loc st h => milo loc 2 2 st h),
  (2, fun loc st h => mi2 st (fun x y r => mgo 3 loc (.int (x - y) :: r) h)),
  (3, fun loc st h => mgo 5 loc (.int ((Int8.ofInt 8).toInt32) :: st) h),
  (5, fun loc st h => mi2 st (fun x y r => fbr (mcond .lt x y) (mgo 10 loc r h) (mgo 8 loc r h))),
  (10, fun loc st h => mgo 11 loc (.int (Int32.ofInt 0) :: st) h),
  (11, fun loc st h => mi1 st (fun x r => mst loc 4 (.int x) (fun l => mgo 13 l r h))),
  (63, fun loc st h => mgo 64 loc (.int (Int32.ofInt 0) :: st) h),
  (64, fun _ st h => fIret .boolean st h),
  (42, fun loc st h => mgo 44 loc (.int ((Int8.ofInt 32).toInt32) :: st) h),
  (71, fun loc st h => mgo 72 loc (.int (Int32.ofInt 1) :: st) h),
  (72, fun _ st h => fIret .boolean st h)]
theorem ft_57_ok : ∀ e ∈ ft_57, frow q57 e :=
  frow_cons (fr_of h57_13 (fun _ _ _ => rfl)) (
  frow_cons (fr_of h57_15 (fun _ _ _ => rfl)) (
  frow_cons (fr_icmp 71 h57_17 (by decide)) (
  frow_cons (fr_of h57_20 (fun _ _ _ => rfl)) (
  frow_cons (fr_of h57_21 (fun _ _ _ => rfl)) (
  frow_cons (fr_of h57_23 (fun _ _ _ => rfl)) (
  frow_cons (fr_of h57_24 (fun _ _ _ => rfl)) (
  frow_cons (fr_icmp 42 h57_25 (by decide)) (
  frow_cons (fr_of h57_44 (fun _ _ _ => rfl)) (
  frow_cons (fr_of h57_46 (fun _ _ _ => rfl)) (
  frow_cons (fr_ldS h57_48 rfl (rfl : _ = some (65, 9, 1, 0)) (by decide)) (
  frow_cons (fr_of h57_50 (fun _ _ _ => rfl)) (
  frow_cons (fr_of h57_51 (fun _ _ _ => rfl)) (
  frow_cons (fr_of h57_53 (fun _ _ _ => rfl)) (
  frow_cons (fr_of h57_54 (fun _ _ _ => rfl)) (
  frow_cons (fr_of h57_56 (fun _ _ _ => rfl)) (
  frow_cons (fr_inV (idx := 77) h57_57 (rfl : _ = some (77, 6, 193, 0)) (Or.inl ⟨rfl, Or.inl rfl⟩) mq193) (
  frow_cons (fr_icmp 65 h57_60 (by decide)) (
  frow_cons (fr_of h57_28 (fun _ _ _ => rfl)) (
  frow_cons (fr_get h57_29 (Or.inl (rfl : _ = some (18, 0, 7, 3)))) (
  frow_cons (fr_of h57_32 (fun _ _ _ => rfl)) (
  frow_cons (fr_of h57_33 (fun _ _ _ => rfl)) (
  frow_cons (fr_of h57_35 (fun _ _ _ => rfl)) (
  frow_cons (fr_inV (idx := 31) h57_36 (rfl : _ = some (31, 6, 28, 1)) (Or.inl ⟨rfl, Or.inr rfl⟩) mq28) (
  frow_cons (fr_goto 44 h57_39 (by decide)) (
  frow_cons (fr_inc h57_65) (
  frow_cons (fr_goto 13 h57_68 (by decide)) (
  frow_cons (fr_of h57_0 (fun _ _ _ => rfl)) (
  frow_cons (fr_of h57_1 (fun _ _ _ => rfl)) (
  frow_cons (fr_of h57_2 (fun _ _ _ => rfl)) (
  frow_cons (fr_of h57_3 (fun _ _ _ => rfl)) (
  frow_cons (fr_icmp 10 h57_5 (by decide)) (
  frow_cons (fr_of h57_10 (fun _ _ _ => rfl)) (
  frow_cons (fr_of h57_11 (fun _ _ _ => rfl)) (
  frow_cons (fr_of h57_63 (fun _ _ _ => rfl)) (
  frow_cons (fr_iret h57_64 rfl) (
  frow_cons (fr_of h57_42 (fun _ _ _ => rfl)) (
  frow_cons (fr_of h57_71 (fun _ _ _ => rfl)) (
  frow_cons (fr_iret h57_72 rfl) ( frow_nil)))))))))))))))))))))))))))))))))))))))
