/-! the instructions that run in the constructors, read beforehand (written by gen99o.py) -/
def ft_58 : FTb := [(4, fun loc st h => milo loc 2 5 st h),
  (5, fun loc st h => malo loc 0 6 st h),
  (6, fun loc st h => fGet 7 3 9 loc st h),
  (9, fun loc st h => fGet 4 1 12 loc st h),
  (12, fun loc st h => mi2 st (fun x y r => fbr (mcond .ge x y) (mgo 38 loc r h) (mgo 15 loc r h))),
  (15, fun loc st h => malo loc 0 16 st h),
  (16, fun loc st h => fGet 7 3 19 loc st h),
  (19, fun loc st h => milo loc 2 20 st h),
  (20, fun loc st h => fInV 1 4 28 23 loc st h),
  (23, fun loc st h => mgo 25 loc (.int ((Int8.ofInt 48).toInt32) :: st) h),
  (25, fun loc st h => mi2 st (fun x y r => mgo 26 loc (.int (x - y) :: r) h)),
  (26, fun loc st _ => fInS 1 65 29 loc st),
  (29, fun loc st h => mi1 st (fun x r => fbr (mcond .eq x 0) (mgo 38 loc r h) (mgo 32 loc r h))),
  (0, fun loc st h => milo loc 1 1 st h),
  (1, fun loc st h => mgo 2 loc (.int (Int32.ofInt 1) :: st) h),
  (2, fun loc st h => mi2 st (fun x y r => mgo 3 loc (.int (x + y) :: r) h)),
  (3, fun loc st h => mi1 st (fun x r => mst loc 2 (.int x) (fun l => mgo 4 l r h))),
  (38, fun loc st h => milo loc 2 39 st h),
  (39, fun _ st h => fIret .int st h),
  (32, fun loc st h => fInc 2 (Int32.ofInt 1) 35 loc st h),
  (35, fun loc st h => mgo 4 loc st h)]
theorem ft_58_ok : ∀ e ∈ ft_58, frow q58 e :=
  frow_cons (fr_of h58_4 (fun _ _ _ => rfl)) (
  frow_cons (fr_of h58_5 (fun _ _ _ => rfl)) (
  frow_cons (fr_get h58_6 (Or.inl (rfl : _ = some (18, 0, 7, 3)))) (
  frow_cons (fr_get h58_9 (Or.inr (rfl : _ = some (26, 1, 4, 1)))) (
  frow_cons (fr_icmp 38 h58_12 (by decide)) (
  frow_cons (fr_of h58_15 (fun _ _ _ => rfl)) (
  frow_cons (fr_get h58_16 (Or.inl (rfl : _ = some (18, 0, 7, 3)))) (
  frow_cons (fr_of h58_19 (fun _ _ _ => rfl)) (
  frow_cons (fr_inV (idx := 31) h58_20 (rfl : _ = some (31, 6, 28, 1)) (Or.inl ⟨rfl, Or.inr rfl⟩) mq28) (
  frow_cons (fr_of h58_23 (fun _ _ _ => rfl)) (
  frow_cons (fr_of h58_25 (fun _ _ _ => rfl)) (
  frow_cons (fr_inS h58_26 (rfl : _ = some (53, 6, 65, 3)) (Or.inr rfl) mq65) (
  frow_cons (fr_ifc 38 h58_29 (by decide)) (
  frow_cons (fr_of h58_0 (fun _ _ _ => rfl)) (
  frow_cons (fr_of h58_1 (fun _ _ _ => rfl)) (
  frow_cons (fr_of h58_2 (fun _ _ _ => rfl)) (
  frow_cons (fr_of h58_3 (fun _ _ _ => rfl)) (
  frow_cons (fr_of h58_38 (fun _ _ _ => rfl)) (
  frow_cons (fr_iret h58_39 rfl) (
  frow_cons (fr_inc h58_32) (
  frow_cons (fr_goto 4 h58_35 (by decide)) ( frow_nil)))))))))))))))))))))
def ft_59 : FTb := [(15, fun loc st h => milo loc 4 17 st h),
  (17, fun loc st h => milo loc 2 18 st h),
  (18, fun loc st h => mi2 st (fun x y r => fbr (mcond .ge x y) (mgo 45 loc r h) (mgo 21 loc r h))),
  (21, fun loc st h => milo loc 3 22 st h),
  (22, fun loc st h => mgo 24 loc (.int ((Int8.ofInt 10).toInt32) :: st) h),
  (24, fun loc st h => mi2 st (fun x y r => mgo 25 loc (.int (x * y) :: r) h)),
  (25, fun loc st h => malo loc 0 26 st h),
  (26, fun loc st h => fGet 7 3 29 loc st h),
  (29, fun loc st h => milo loc 4 31 st h),
  (31, fun loc st h => fInV 1 4 28 34 loc st h),
  (34, fun loc st h => mi2 st (fun x y r => mgo 35 loc (.int (x + y) :: r) h)),
  (35, fun loc st h => mgo 37 loc (.int ((Int8.ofInt 48).toInt32) :: st) h),
  (37, fun loc st h => mi2 st (fun x y r => mgo 38 loc (.int (x - y) :: r) h)),
  (38, fun loc st h => mi1 st (fun x r => mst loc 3 (.int x) (fun l => mgo 39 l r h))),
  (39, fun loc st h => fInc 4 (Int32.ofInt 1) 42 loc st h),
  (42, fun loc st h => mgo 15 loc st h),
  (0, fun loc st h => milo loc 2 1 st h),
  (1, fun loc st h => milo loc 1 2 st h),
  (2, fun loc st h => mi2 st (fun x y r => mgo 3 loc (.int (x - y) :: r) h)),
  (3, fun loc st h => mgo 4 loc (.int (Int32.ofInt 4) :: st) h),
  (4, fun loc st h => mi2 st (fun x y r => fbr (mcond .le x y) (mgo 10 loc r h) (mgo 7 loc r h))),
  (10, fun loc st h => mgo 11 loc (.int (Int32.ofInt 0) :: st) h),
  (11, fun loc st h => mi1 st (fun x r => mst loc 3 (.int x) (fun l => mgo 12 l r h))),
  (12, fun loc st h => milo loc 1 13 st h),
  (13, fun loc st h => mi1 st (fun x r => mst loc 4 (.int x) (fun l => mgo 15 l r h))),
  (45, fun loc st h => mgo 47 loc (.int ((Int8.ofInt 100).toInt32) :: st) h),
  (47, fun loc st h => milo loc 3 48 st h),
  (48, fun loc st h => mi2 st (fun x y r => mgo 49 loc (.int (x + y) :: r) h)),
  (49, fun _ st h => fIret .int st h)]
theorem ft_59_ok : ∀ e ∈ ft_59, frow q59 e :=
  frow_cons (fr_of h59_15 (fun _ _ _ => rfl)) (
  frow_cons (fr_of h59_17 (fun _ _ _ => rfl)) (
  frow_cons (fr_icmp 45 h59_18 (by decide)) (
  frow_cons (fr_of h59_21 (fun _ _ _ => rfl)) (
  frow_cons (fr_of h59_22 (fun _ _ _ => rfl)) (
  frow_cons (fr_of h59_24 (fun _ _ _ => rfl)) (
  frow_cons (fr_of h59_25 (fun _ _ _ => rfl)) (
  frow_cons (fr_get h59_26 (Or.inl (rfl : _ = some (18, 0, 7, 3)))) (
  frow_cons (fr_of h59_29 (fun _ _ _ => rfl)) (
  frow_cons (fr_inV (idx := 31) h59_31 (rfl : _ = some (31, 6, 28, 1)) (Or.inl ⟨rfl, Or.inr rfl⟩) mq28) (
  frow_cons (fr_of h59_34 (fun _ _ _ => rfl)) (
  frow_cons (fr_of h59_35 (fun _ _ _ => rfl)) (
  frow_cons (fr_of h59_37 (fun _ _ _ => rfl)) (
  frow_cons (fr_of h59_38 (fun _ _ _ => rfl)) (
  frow_cons (fr_inc h59_39) (
  frow_cons (fr_goto 15 h59_42 (by decide)) (
  frow_cons (fr_of h59_0 (fun _ _ _ => rfl)) (
  frow_cons (fr_of h59_1 (fun _ _ _ => rfl)) (
  frow_cons (fr_of h59_2 (fun _ _ _ => rfl)) (
  frow_cons (fr_of h59_3 (fun _ _ _ => rfl)) (
  frow_cons (fr_icmp 10 h59_4 (by decide)) (
  frow_cons (fr_of h59_10 (fun _ _ _ => rfl)) (
  frow_cons (fr_of h59_11 (fun _ _ _ => rfl)) (
  frow_cons (fr_of h59_12 (fun _ _ _ => rfl)) (
  frow_cons (fr_of h59_13 (fun _ _ _ => rfl)) (
  frow_cons (fr_of h59_45 (fun _ _ _ => rfl)) (
  frow_cons (fr_of h59_47 (fun _ _ _ => rfl)) (
  frow_cons (fr_of h59_48 (fun _ _ _ => rfl)) (
  frow_cons (fr_iret h59_49 rfl) ( frow_nil)))))))))))))))))))))))))))))
def ft_60 : FTb := [(0, fun loc st h => mgo 2 loc (.ref (1010 + 2) :: st) h),
  (2, fun loc st h => milo loc 0 3 st h),
  (3, fun loc st h => mi1 st (fun x r => mgo 4 loc (.int (x.toUInt32 % 65536).toInt32 :: r) h)),
  (4, fun loc st h => fInV 1 10 194 7 loc st h),
  (7, fun loc st h => mi1 st (fun x r => mst loc 1 (.int x) (fun l => mgo 8 l r h))),
  (8, fun loc st h => milo loc 1 9 st h),
  (9, fun loc st h => mi1 st (fun x r => fbr (mcond .ge x 0) (mgo 17 loc r h) (mgo 12 loc r h))),
  (17, fun loc st h => mgo 19 loc (.int ((Int8.ofInt 12).toInt32) :: st) h),
  (19, fun loc st h => milo loc 1 20 st h),
  (20, fun loc st h => mi2 st (fun x y r => mgo 21 loc (.int (x + y) :: r) h)),
  (21, fun _ st h => fIret .int st h)]
theorem ft_60_ok : ∀ e ∈ ft_60, frow q60 e :=
  frow_cons (fr_ldS h60_0 rfl (rfl : _ = some (81, 9, 2, 0)) (by decide)) (
  frow_cons (fr_of h60_2 (fun _ _ _ => rfl)) (
  frow_cons (fr_of h60_3 (fun _ _ _ => rfl)) (
  frow_cons (fr_inV (idx := 83) h60_4 (rfl : _ = some (83, 6, 194, 0)) (Or.inl ⟨rfl, Or.inl rfl⟩) mq194) (
  frow_cons (fr_of h60_7 (fun _ _ _ => rfl)) (
  frow_cons (fr_of h60_8 (fun _ _ _ => rfl)) (
  frow_cons (fr_ifc 17 h60_9 (by decide)) (
  frow_cons (fr_of h60_17 (fun _ _ _ => rfl)) (
  frow_cons (fr_of h60_19 (fun _ _ _ => rfl)) (
  frow_cons (fr_of h60_20 (fun _ _ _ => rfl)) (
  frow_cons (fr_iret h60_21 rfl) ( frow_nil)))))))))))
def ft_61 : FTb := [(176, fun loc st h => milo loc 1 177 st h),
  (177, fun loc st h => mgo 179 loc (.ref (1010 + 0) :: st) h),
  (179, fun loc st h => fInV 0 10 192 182 loc st h),
  (182, fun loc st h => mi2 st (fun x y r => fbr (mcond .ge x y) (mgo 205 loc r h) (mgo 185 loc r h))),
  (185, fun loc st h => malo loc 0 186 st h),
  (186, fun loc st h => fGet 8 1 189 loc st h),
  (189, fun loc st h => mgo 191 loc (.ref (1010 + 0) :: st) h),
  (191, fun loc st h => milo loc 1 192 st h),
  (192, fun loc st h => fInV 1 10 193 195 loc st h),
  (195, fun loc st h => fInV 1 4 27 198 loc st h),
  (198, fun loc st h => mv1 st (fun _ r => mgo 199 loc r h)),
  (199, fun loc st h => fInc 1 (Int32.ofInt 1) 202 loc st h),
  (202, fun loc st h => mgo 176 loc st h),
  (94, fun loc st h => milo loc 1 95 st h),
  (95, fun loc st h => malo loc 0 96 st h),
  (96, fun loc st h => fGet 8 0 99 loc st h),
  (99, fun loc st h => mr1 st (fun a r => malen h a (fun n => mgo 100 loc (.int (Int32.ofNat n) :: r) h))),
  (100, fun loc st h => mi2 st (fun x y r => fbr (mcond .ge x y) (mgo 123 loc r h) (mgo 103 loc r h))),
  (103, fun loc st h => malo loc 0 104 st h),
  (104, fun loc st h => fGet 8 0 107 loc st h),
  (107, fun loc st h => milo loc 1 108 st h),
  (108, fun loc st h => fNew 5 111 loc st h),
  (111, fun loc st h => mv1 st (fun v r => mgo 112 loc (v :: v :: r) h)),
  (112, fun loc st h => milo loc 1 113 st h),
  (113, fun loc st h => fInV 1 5 29 116 loc st h),
  (116, fun loc st h => fAas 117 loc st h),
  (117, fun loc st h => fInc 1 (Int32.ofInt 1) 120 loc st h),
  (120, fun loc st h => mgo 94 loc st h),
  (125, fun loc st h => milo loc 1 126 st h),
  (126, fun loc st h => malo loc 0 127 st h),
  (127, fun loc st h => fGet 8 9 130 loc st h),
  (130, fun loc st h => mr1 st (fun a r => malen h a (fun n => mgo 131 loc (.int (Int32.ofNat n) :: r) h))),
  (131, fun loc st h => mi2 st (fun x y r => fbr (mcond .ge x y) (mgo 153 loc r h) (mgo 134 loc r h))),
  (134, fun loc st h => malo loc 0 135 st h),
  (135, fun loc st h => fGet 8 9 138 loc st h),
  (138, fun loc st h => milo loc 1 139 st h),
  (139, fun loc st h => fNew 3 142 loc st h),
  (142, fun loc st h => mv1 st (fun v r => mgo 143 loc (v :: v :: r) h)),
  (143, fun loc st h => fInV 0 3 21 146 loc st h),
  (146, fun loc st h => fAas 147 loc st h),
  (147, fun loc st h => fInc 1 (Int32.ofInt 1) 150 loc st h),
  (150, fun loc st h => mgo 125 loc st h),
  (0, fun loc st h => malo loc 0 1 st h),
  (1, fun loc st h => fObj 4 loc st h),
  (4, fun loc st h => malo loc 0 5 st h),
  (5, fun loc st h => mgo 7 loc (.int ((Int8.ofInt 6).toInt32) :: st) h),
  (7, fun loc st h => fArR 5 10 loc st h),
  (10, fun loc st h => fPut 8 0 13 loc st h),
  (13, fun loc st h => malo loc 0 14 st h),
  (14, fun loc st h => fNew 4 17 loc st h),
  (17, fun loc st h => mv1 st (fun v r => mgo 18 loc (v :: v :: r) h)),
  (18, fun loc st h => fInV 0 4 26 21 loc st h),
  (21, fun loc st h => fPut 8 1 24 loc st h),
  (24, fun loc st h => malo loc 0 25 st h),
  (25, fun loc st h => fNew 0 28 loc st h),
  (28, fun loc st h => mv1 st (fun v r => mgo 29 loc (v :: v :: r) h)),
  (29, fun loc st h => fInV 0 0 0 32 loc st h),
  (32, fun loc st h => fPut 8 5 35 loc st h),
  (35, fun loc st h => malo loc 0 36 st h),
  (36, fun loc st h => fNew 0 39 loc st h),
  (39, fun loc st h => mv1 st (fun v r => mgo 40 loc (v :: v :: r) h)),
  (40, fun loc st h => fInV 0 0 0 43 loc st h),
  (43, fun loc st h => fPut 8 7 46 loc st h),
  (46, fun loc st h => malo loc 0 47 st h),
  (47, fun loc st h => mgo 48 loc (.int (Int32.ofInt 4) :: st) h),
  (48, fun loc st h => fArR 3 51 loc st h),
  (51, fun loc st h => fPut 8 9 54 loc st h),
  (54, fun loc st h => malo loc 0 55 st h),
  (55, fun loc st h => fNew 1 58 loc st h),
  (58, fun loc st h => mv1 st (fun v r => mgo 59 loc (v :: v :: r) h)),
  (59, fun loc st h => fInV 0 1 7 62 loc st h),
  (62, fun loc st h => fPut 8 11 65 loc st h),
  (65, fun loc st h => malo loc 0 66 st h),
  (66, fun loc st h => fNew 1 69 loc st h),
  (69, fun loc st h => mv1 st (fun v r => mgo 70 loc (v :: v :: r) h)),
  (70, fun loc st h => fInV 0 1 7 73 loc st h),
  (73, fun loc st h => fPut 8 12 76 loc st h),
  (76, fun loc st h => malo loc 0 77 st h),
  (77, fun loc st h => mgo 79 loc (.int ((Int8.ofInt 24).toInt32) :: st) h),
  (79, fun loc st h => fArI 81 loc st h),
  (81, fun loc st h => fPut 8 13 84 loc st h),
  (84, fun loc st h => malo loc 0 85 st h),
  (85, fun loc st h => mgo 87 loc (.int ((Int8.ofInt 30).toInt32) :: st) h),
  (87, fun loc st h => fArI 89 loc st h),
  (89, fun loc st h => fPut 8 14 92 loc st h),
  (92, fun loc st h => mgo 93 loc (.int (Int32.ofInt 0) :: st) h),
  (93, fun loc st h => mi1 st (fun x r => mst loc 1 (.int x) (fun l => mgo 94 l r h))),
  (123, fun loc st h => mgo 124 loc (.int (Int32.ofInt 0) :: st) h),
  (124, fun loc st h => mi1 st (fun x r => mst loc 1 (.int x) (fun l => mgo 125 l r h))),
  (153, fun loc st h => malo loc 0 154 st h),
  (154, fun loc st h => fNew 6 157 loc st h),
  (157, fun loc st h => mv1 st (fun v r => mgo 158 loc (v :: v :: r) h)),
  (158, fun loc st h => malo loc 0 159 st h),
  (159, fun loc st h => fGet 8 1 162 loc st h),
  (162, fun loc st h => malo loc 0 163 st h),
  (163, fun loc st h => fGet 8 0 166 loc st h),
  (166, fun loc st h => mgo 167 loc (.int (Int32.ofInt 0) :: st) h),
  (167, fun loc st h => fAal 168 loc st h),
  (168, fun loc st h => fInV 2 6 37 171 loc st h),
  (171, fun loc st h => fPut 8 2 174 loc st h),
  (174, fun loc st h => mgo 175 loc (.int (Int32.ofInt 0) :: st) h),
  (175, fun loc st h => mi1 st (fun x r => mst loc 1 (.int x) (fun l => mgo 176 l r h))),
  (205, fun loc st h => malo loc 0 206 st h),
  (206, fun loc st h => fGet 8 2 209 loc st h),
  (209, fun loc st h => malo loc 0 210 st h),
  (210, fun loc st h => fGet 8 0 213 loc st h),
  (213, fun loc st h => mgo 214 loc (.int (Int32.ofInt 0) :: st) h),
  (214, fun loc st h => fAal 215 loc st h),
  (215, fun loc st h => fInV 1 6 38 218 loc st h),
  (218, fun loc st h => mv1 st (fun _ r => mgo 219 loc r h)),
  (219, fun loc st h => malo loc 0 220 st h),
  (220, fun loc st h => fGet 8 1 223 loc st h),
  (223, fun loc st h => mgo 224 loc (.int (Int32.ofInt 0) :: st) h),
  (224, fun loc st h => fPut 4 1 227 loc st h),
  (227, fun loc st h => malo loc 0 228 st h),
  (228, fun loc st h => mgo 229 loc (.int (Int32.ofInt 1) :: st) h),
  (229, fun loc st h => fPut 8 3 232 loc st h),
  (232, fun loc st h => malo loc 0 233 st h),
  (233, fun loc st h => fNew 2 236 loc st h),
  (236, fun loc st h => mv1 st (fun v r => mgo 237 loc (v :: v :: r) h)),
  (237, fun loc st h => malo loc 0 238 st h),
  (238, fun loc st h => fGet 8 0 241 loc st h),
  (241, fun loc st h => mgo 242 loc (.int (Int32.ofInt 0) :: st) h),
  (242, fun loc st h => fAal 243 loc st h),
  (243, fun loc st h => fInV 1 2 16 246 loc st h),
  (246, fun loc st h => fPut 8 4 249 loc st h),
  (249, fun loc st h => malo loc 0 250 st h),
  (250, fun loc st h => fNew 2 253 loc st h),
  (253, fun loc st h => mv1 st (fun v r => mgo 254 loc (v :: v :: r) h)),
  (254, fun loc st h => malo loc 0 255 st h),
  (255, fun loc st h => fGet 8 0 258 loc st h),
  (258, fun loc st h => mgo 259 loc (.int (Int32.ofInt 0) :: st) h),
  (259, fun loc st h => fAal 260 loc st h),
  (260, fun loc st h => fInV 1 2 16 263 loc st h),
  (263, fun loc st h => fPut 8 6 266 loc st h),
  (266, fun loc st h => malo loc 0 267 st h),
  (267, fun loc st h => fNew 2 270 loc st h),
  (270, fun loc st h => mv1 st (fun v r => mgo 271 loc (v :: v :: r) h)),
  (271, fun loc st h => malo loc 0 272 st h),
  (272, fun loc st h => fGet 8 0 275 loc st h),
  (275, fun loc st h => mgo 276 loc (.int (Int32.ofInt 0) :: st) h),
  (276, fun loc st h => fAal 277 loc st h),
  (277, fun loc st h => fInV 1 2 16 280 loc st h),
  (280, fun loc st h => fPut 8 10 283 loc st h),
  (283, fun _ st h => fRet st h)]
theorem ft_61_ok : ∀ e ∈ ft_61, frow q61 e :=
  frow_cons (fr_of h61_176 (fun _ _ _ => rfl)) (
  frow_cons (fr_ldS h61_177 rfl (rfl : _ = some (68, 9, 0, 0)) (by decide)) (
  frow_cons (fr_inV (idx := 70) h61_179 (rfl : _ = some (70, 6, 192, 0)) (Or.inl ⟨rfl, Or.inl rfl⟩) mq192) (
  frow_cons (fr_icmp 205 h61_182 (by decide)) (
  frow_cons (fr_of h61_185 (fun _ _ _ => rfl)) (
  frow_cons (fr_get h61_186 (Or.inl (rfl : _ = some (18, 0, 8, 1)))) (
  frow_cons (fr_ldS h61_189 rfl (rfl : _ = some (68, 9, 0, 0)) (by decide)) (
  frow_cons (fr_of h61_191 (fun _ _ _ => rfl)) (
  frow_cons (fr_inV (idx := 76) h61_192 (rfl : _ = some (76, 6, 193, 0)) (Or.inl ⟨rfl, Or.inl rfl⟩) mq193) (
  frow_cons (fr_inV (idx := 80) h61_195 (rfl : _ = some (80, 6, 27, 1)) (Or.inl ⟨rfl, Or.inr rfl⟩) mq27) (
  frow_cons (fr_of h61_198 (fun _ _ _ => rfl)) (
  frow_cons (fr_inc h61_199) (
  frow_cons (fr_goto 176 h61_202 (by decide)) (
  frow_cons (fr_of h61_94 (fun _ _ _ => rfl)) (
  frow_cons (fr_of h61_95 (fun _ _ _ => rfl)) (
  frow_cons (fr_get h61_96 (Or.inl (rfl : _ = some (11, 0, 8, 0)))) (
  frow_cons (fr_of h61_99 (fun _ _ _ => rfl)) (
  frow_cons (fr_icmp 123 h61_100 (by decide)) (
  frow_cons (fr_of h61_103 (fun _ _ _ => rfl)) (
  frow_cons (fr_get h61_104 (Or.inl (rfl : _ = some (11, 0, 8, 0)))) (
  frow_cons (fr_of h61_107 (fun _ _ _ => rfl)) (
  frow_cons (fr_new h61_108 (rfl : _ = some (9, 4, 5, 0))) (
  frow_cons (fr_of h61_111 (fun _ _ _ => rfl)) (
  frow_cons (fr_of h61_112 (fun _ _ _ => rfl)) (
  frow_cons (fr_inV (idx := 55) h61_113 (rfl : _ = some (55, 6, 29, 5)) (Or.inr ⟨rfl, Or.inr rfl⟩) mq29) (
  frow_cons (fr_aast h61_116) (
  frow_cons (fr_inc h61_117) (
  frow_cons (fr_goto 94 h61_120 (by decide)) (
  frow_cons (fr_of h61_125 (fun _ _ _ => rfl)) (
  frow_cons (fr_of h61_126 (fun _ _ _ => rfl)) (
  frow_cons (fr_get h61_127 (Or.inl (rfl : _ = some (34, 0, 8, 9)))) (
  frow_cons (fr_of h61_130 (fun _ _ _ => rfl)) (
  frow_cons (fr_icmp 153 h61_131 (by decide)) (
  frow_cons (fr_of h61_134 (fun _ _ _ => rfl)) (
  frow_cons (fr_get h61_135 (Or.inl (rfl : _ = some (34, 0, 8, 9)))) (
  frow_cons (fr_of h61_138 (fun _ _ _ => rfl)) (
  frow_cons (fr_new h61_139 (rfl : _ = some (32, 4, 3, 0))) (
  frow_cons (fr_of h61_142 (fun _ _ _ => rfl)) (
  frow_cons (fr_inV (idx := 58) h61_143 (rfl : _ = some (58, 6, 21, 5)) (Or.inr ⟨rfl, Or.inr rfl⟩) mq21) (
  frow_cons (fr_aast h61_146) (
  frow_cons (fr_inc h61_147) (
  frow_cons (fr_goto 125 h61_150 (by decide)) (
  frow_cons (fr_of h61_0 (fun _ _ _ => rfl)) (
  frow_cons (fr_obj h61_1 (rfl : _ = some (1, 7, 0, 0))) (
  frow_cons (fr_of h61_4 (fun _ _ _ => rfl)) (
  frow_cons (fr_of h61_5 (fun _ _ _ => rfl)) (
  frow_cons (fr_arR h61_7 (rfl : _ = some (9, 4, 5, 0))) (
  frow_cons (fr_put h61_10 (Or.inl ⟨(rfl : _ = some (11, 0, 8, 0)), Or.inr ⟨by decide, rfl⟩⟩)) (
  frow_cons (fr_of h61_13 (fun _ _ _ => rfl)) (
  frow_cons (fr_new h61_14 (rfl : _ = some (15, 4, 4, 0))) (
  frow_cons (fr_of h61_17 (fun _ _ _ => rfl)) (
  frow_cons (fr_inV (idx := 17) h61_18 (rfl : _ = some (17, 6, 26, 5)) (Or.inr ⟨rfl, Or.inr rfl⟩) mq26) (
  frow_cons (fr_put h61_21 (Or.inl ⟨(rfl : _ = some (18, 0, 8, 1)), Or.inr ⟨by decide, rfl⟩⟩)) (
  frow_cons (fr_of h61_24 (fun _ _ _ => rfl)) (
  frow_cons (fr_new h61_25 (rfl : _ = some (22, 4, 0, 0))) (
  frow_cons (fr_of h61_28 (fun _ _ _ => rfl)) (
  frow_cons (fr_inV (idx := 24) h61_29 (rfl : _ = some (24, 6, 0, 5)) (Or.inr ⟨rfl, Or.inr rfl⟩) mq0) (
  frow_cons (fr_put h61_32 (Or.inl ⟨(rfl : _ = some (25, 0, 8, 5)), Or.inr ⟨by decide, rfl⟩⟩)) (
  frow_cons (fr_of h61_35 (fun _ _ _ => rfl)) (
  frow_cons (fr_new h61_36 (rfl : _ = some (22, 4, 0, 0))) (
  frow_cons (fr_of h61_39 (fun _ _ _ => rfl)) (
  frow_cons (fr_inV (idx := 24) h61_40 (rfl : _ = some (24, 6, 0, 5)) (Or.inr ⟨rfl, Or.inr rfl⟩) mq0) (
  frow_cons (fr_put h61_43 (Or.inl ⟨(rfl : _ = some (29, 0, 8, 7)), Or.inr ⟨by decide, rfl⟩⟩)) (
  frow_cons (fr_of h61_46 (fun _ _ _ => rfl)) (
  frow_cons (fr_of h61_47 (fun _ _ _ => rfl)) (
  frow_cons (fr_arR h61_48 (rfl : _ = some (32, 4, 3, 0))) (
  frow_cons (fr_put h61_51 (Or.inl ⟨(rfl : _ = some (34, 0, 8, 9)), Or.inr ⟨by decide, rfl⟩⟩)) (
  frow_cons (fr_of h61_54 (fun _ _ _ => rfl)) (
  frow_cons (fr_new h61_55 (rfl : _ = some (38, 4, 1, 0))) (
  frow_cons (fr_of h61_58 (fun _ _ _ => rfl)) (
  frow_cons (fr_inV (idx := 40) h61_59 (rfl : _ = some (40, 6, 7, 5)) (Or.inr ⟨rfl, Or.inr rfl⟩) mq7) (
  frow_cons (fr_put h61_62 (Or.inl ⟨(rfl : _ = some (41, 0, 8, 11)), Or.inr ⟨by decide, rfl⟩⟩)) (
  frow_cons (fr_of h61_65 (fun _ _ _ => rfl)) (
  frow_cons (fr_new h61_66 (rfl : _ = some (38, 4, 1, 0))) (
  frow_cons (fr_of h61_69 (fun _ _ _ => rfl)) (
  frow_cons (fr_inV (idx := 40) h61_70 (rfl : _ = some (40, 6, 7, 5)) (Or.inr ⟨rfl, Or.inr rfl⟩) mq7) (
  frow_cons (fr_put h61_73 (Or.inl ⟨(rfl : _ = some (45, 0, 8, 12)), Or.inr ⟨by decide, rfl⟩⟩)) (
  frow_cons (fr_of h61_76 (fun _ _ _ => rfl)) (
  frow_cons (fr_of h61_77 (fun _ _ _ => rfl)) (
  frow_cons (fr_arI h61_79) (
  frow_cons (fr_put h61_81 (Or.inl ⟨(rfl : _ = some (48, 0, 8, 13)), Or.inr ⟨by decide, rfl⟩⟩)) (
  frow_cons (fr_of h61_84 (fun _ _ _ => rfl)) (
  frow_cons (fr_of h61_85 (fun _ _ _ => rfl)) (
  frow_cons (fr_arI h61_87) (
  frow_cons (fr_put h61_89 (Or.inl ⟨(rfl : _ = some (52, 0, 8, 14)), Or.inr ⟨by decide, rfl⟩⟩)) (
  frow_cons (fr_of h61_92 (fun _ _ _ => rfl)) (
  frow_cons (fr_of h61_93 (fun _ _ _ => rfl)) (
  frow_cons (fr_of h61_123 (fun _ _ _ => rfl)) (
  frow_cons (fr_of h61_124 (fun _ _ _ => rfl)) (
  frow_cons (fr_of h61_153 (fun _ _ _ => rfl)) (
  frow_cons (fr_new h61_154 (rfl : _ = some (59, 4, 6, 0))) (
  frow_cons (fr_of h61_157 (fun _ _ _ => rfl)) (
  frow_cons (fr_of h61_158 (fun _ _ _ => rfl)) (
  frow_cons (fr_get h61_159 (Or.inl (rfl : _ = some (18, 0, 8, 1)))) (
  frow_cons (fr_of h61_162 (fun _ _ _ => rfl)) (
  frow_cons (fr_get h61_163 (Or.inl (rfl : _ = some (11, 0, 8, 0)))) (
  frow_cons (fr_of h61_166 (fun _ _ _ => rfl)) (
  frow_cons (fr_aald h61_167) (
  frow_cons (fr_inV (idx := 61) h61_168 (rfl : _ = some (61, 6, 37, 5)) (Or.inr ⟨rfl, Or.inr rfl⟩) mq37) (
  frow_cons (fr_put h61_171 (Or.inl ⟨(rfl : _ = some (64, 0, 8, 2)), Or.inr ⟨by decide, rfl⟩⟩)) (
  frow_cons (fr_of h61_174 (fun _ _ _ => rfl)) (
  frow_cons (fr_of h61_175 (fun _ _ _ => rfl)) (
  frow_cons (fr_of h61_205 (fun _ _ _ => rfl)) (
  frow_cons (fr_get h61_206 (Or.inl (rfl : _ = some (64, 0, 8, 2)))) (
  frow_cons (fr_of h61_209 (fun _ _ _ => rfl)) (
  frow_cons (fr_get h61_210 (Or.inl (rfl : _ = some (11, 0, 8, 0)))) (
  frow_cons (fr_of h61_213 (fun _ _ _ => rfl)) (
  frow_cons (fr_aald h61_214) (
  frow_cons (fr_inV (idx := 84) h61_215 (rfl : _ = some (84, 6, 38, 1)) (Or.inl ⟨rfl, Or.inr rfl⟩) mq38) (
  frow_cons (fr_of h61_218 (fun _ _ _ => rfl)) (
  frow_cons (fr_of h61_219 (fun _ _ _ => rfl)) (
  frow_cons (fr_get h61_220 (Or.inl (rfl : _ = some (18, 0, 8, 1)))) (
  frow_cons (fr_of h61_223 (fun _ _ _ => rfl)) (
  frow_cons (fr_put h61_224 (Or.inr ⟨(rfl : _ = some (88, 1, 4, 1)), rfl⟩)) (
  frow_cons (fr_of h61_227 (fun _ _ _ => rfl)) (
  frow_cons (fr_of h61_228 (fun _ _ _ => rfl)) (
  frow_cons (fr_put h61_229 (Or.inl ⟨(rfl : _ = some (92, 0, 8, 3)), Or.inl rfl⟩)) (
  frow_cons (fr_of h61_232 (fun _ _ _ => rfl)) (
  frow_cons (fr_new h61_233 (rfl : _ = some (95, 4, 2, 0))) (
  frow_cons (fr_of h61_236 (fun _ _ _ => rfl)) (
  frow_cons (fr_of h61_237 (fun _ _ _ => rfl)) (
  frow_cons (fr_get h61_238 (Or.inl (rfl : _ = some (11, 0, 8, 0)))) (
  frow_cons (fr_of h61_241 (fun _ _ _ => rfl)) (
  frow_cons (fr_aald h61_242) (
  frow_cons (fr_inV (idx := 97) h61_243 (rfl : _ = some (97, 6, 16, 5)) (Or.inr ⟨rfl, Or.inr rfl⟩) mq16) (
  frow_cons (fr_put h61_246 (Or.inl ⟨(rfl : _ = some (100, 0, 8, 4)), Or.inr ⟨by decide, rfl⟩⟩)) (
  frow_cons (fr_of h61_249 (fun _ _ _ => rfl)) (
  frow_cons (fr_new h61_250 (rfl : _ = some (95, 4, 2, 0))) (
  frow_cons (fr_of h61_253 (fun _ _ _ => rfl)) (
  frow_cons (fr_of h61_254 (fun _ _ _ => rfl)) (
  frow_cons (fr_get h61_255 (Or.inl (rfl : _ = some (11, 0, 8, 0)))) (
  frow_cons (fr_of h61_258 (fun _ _ _ => rfl)) (
  frow_cons (fr_aald h61_259) (
  frow_cons (fr_inV (idx := 97) h61_260 (rfl : _ = some (97, 6, 16, 5)) (Or.inr ⟨rfl, Or.inr rfl⟩) mq16) (
  frow_cons (fr_put h61_263 (Or.inl ⟨(rfl : _ = some (104, 0, 8, 6)), Or.inr ⟨by decide, rfl⟩⟩)) (
  frow_cons (fr_of h61_266 (fun _ _ _ => rfl)) (
  frow_cons (fr_new h61_267 (rfl : _ = some (95, 4, 2, 0))) (
  frow_cons (fr_of h61_270 (fun _ _ _ => rfl)) (
  frow_cons (fr_of h61_271 (fun _ _ _ => rfl)) (
  frow_cons (fr_get h61_272 (Or.inl (rfl : _ = some (11, 0, 8, 0)))) (
  frow_cons (fr_of h61_275 (fun _ _ _ => rfl)) (
  frow_cons (fr_aald h61_276) (
  frow_cons (fr_inV (idx := 97) h61_277 (rfl : _ = some (97, 6, 16, 5)) (Or.inr ⟨rfl, Or.inr rfl⟩) mq16) (
  frow_cons (fr_put h61_280 (Or.inl ⟨(rfl : _ = some (107, 0, 8, 10)), Or.inr ⟨by decide, rfl⟩⟩)) (
  frow_cons (fr_ret h61_283 rfl) ( frow_nil)))))))))))))))))))))))))))))))))))))))))))))))))))))))))))))))))))))))))))))))))))))))))))))))))))))))))))))))))))))))))))))))))))))))))))))))))
def ft_65 : FTb := [(0, fun loc st h => milo loc 0 1 st h),
  (1, fun loc st h => mi1 st (fun x r => fbr (mcond .lt x 0) (mgo 14 loc r h) (mgo 4 loc r h))),
  (15, fun _ st h => fIret .boolean st h),
  (14, fun loc st h => mgo 15 loc (.int (Int32.ofInt 0) :: st) h),
  (4, fun loc st h => milo loc 0 5 st h),
  (5, fun loc st h => mgo 7 loc (.int ((Int8.ofInt 9).toInt32) :: st) h),
  (7, fun loc st h => mi2 st (fun x y r => fbr (mcond .gt x y) (mgo 14 loc r h) (mgo 10 loc r h))),
  (10, fun loc st h => mgo 11 loc (.int (Int32.ofInt 1) :: st) h),
  (11, fun loc st h => mgo 15 loc st h)]
theorem ft_65_ok : ∀ e ∈ ft_65, frow q65 e :=
  frow_cons (fr_of h65_0 (fun _ _ _ => rfl)) (
  frow_cons (fr_ifc 14 h65_1 (by decide)) (
  frow_cons (fr_iret h65_15 rfl) (
  frow_cons (fr_of h65_14 (fun _ _ _ => rfl)) (
  frow_cons (fr_of h65_4 (fun _ _ _ => rfl)) (
  frow_cons (fr_of h65_5 (fun _ _ _ => rfl)) (
  frow_cons (fr_icmp 14 h65_7 (by decide)) (
  frow_cons (fr_of h65_10 (fun _ _ _ => rfl)) (
  frow_cons (fr_goto 15 h65_11 (by decide)) ( frow_nil)))))))))
def ft_113 : FTb := [(178, fun loc st h => milo loc 1 179 st h),
  (179, fun loc st h => mgo 180 loc (.int (Int32.ofInt 4) :: st) h),
  (180, fun loc st h => mi2 st (fun x y r => fbr (mcond .ge x y) (mgo 196 loc r h) (mgo 183 loc r h))),
  (183, fun loc st h => malo loc 0 184 st h),
  (184, fun loc st h => fGet 9 46 187 loc st h),
  (187, fun loc st h => milo loc 1 188 st h),
  (188, fun loc st h => mgo 189 loc (.int (Int32.ofInt (-1)) :: st) h),
  (189, fun loc st h => fIas 190 loc st h),
  (190, fun loc st h => fInc 1 (Int32.ofInt 1) 193 loc st h),
  (193, fun loc st h => mgo 178 loc st h),
  (0, fun loc st h => malo loc 0 1 st h),
  (1, fun loc st h => fObj 4 loc st h),
  (4, fun loc st h => malo loc 0 5 st h),
  (5, fun loc st h => mgo 7 loc (.int ((Int8.ofInt 24).toInt32) :: st) h),
  (7, fun loc st h => fArI 9 loc st h),
  (9, fun loc st h => fPut 9 1 12 loc st h),
  (12, fun loc st h => malo loc 0 13 st h),
  (13, fun loc st h => mgo 14 loc (.int (Int32.ofInt 5) :: st) h),
  (14, fun loc st h => fArI 16 loc st h),
  (16, fun loc st h => fPut 9 3 19 loc st h),
  (19, fun loc st h => malo loc 0 20 st h),
  (20, fun loc st h => mgo 21 loc (.int (Int32.ofInt 5) :: st) h),
  (21, fun loc st h => fArI 23 loc st h),
  (23, fun loc st h => fPut 9 4 26 loc st h),
  (26, fun loc st h => malo loc 0 27 st h),
  (27, fun loc st h => mgo 28 loc (.int (Int32.ofInt 5) :: st) h),
  (28, fun loc st h => fArI 30 loc st h),
  (30, fun loc st h => fPut 9 5 33 loc st h),
  (33, fun loc st h => malo loc 0 34 st h),
  (34, fun loc st h => mgo 35 loc (.int (Int32.ofInt 5) :: st) h),
  (35, fun loc st h => fArI 37 loc st h),
  (37, fun loc st h => fPut 9 6 40 loc st h),
  (40, fun loc st h => malo loc 0 41 st h),
  (41, fun loc st h => mgo 42 loc (.int (Int32.ofInt 5) :: st) h),
  (42, fun loc st h => fArI 44 loc st h),
  (44, fun loc st h => fPut 9 7 47 loc st h),
  (47, fun loc st h => malo loc 0 48 st h),
  (48, fun loc st h => mgo 49 loc (.int (Int32.ofInt 5) :: st) h),
  (49, fun loc st h => fArI 51 loc st h),
  (51, fun loc st h => fPut 9 8 54 loc st h),
  (54, fun loc st h => malo loc 0 55 st h),
  (55, fun loc st h => mgo 58 loc (.int ((Int16.ofInt 160).toInt32) :: st) h),
  (58, fun loc st h => fArI 60 loc st h),
  (60, fun loc st h => fPut 9 11 63 loc st h),
  (63, fun loc st h => malo loc 0 64 st h),
  (64, fun loc st h => mgo 66 loc (.int ((Int8.ofInt 18).toInt32) :: st) h),
  (66, fun loc st h => fArI 68 loc st h),
  (68, fun loc st h => fPut 9 13 71 loc st h),
  (71, fun loc st h => malo loc 0 72 st h),
  (72, fun loc st h => mgo 74 loc (.int ((Int8.ofInt 18).toInt32) :: st) h),
  (74, fun loc st h => fArI 76 loc st h),
  (76, fun loc st h => fPut 9 14 79 loc st h),
  (79, fun loc st h => malo loc 0 80 st h),
  (80, fun loc st h => mgo 83 loc (.int ((Int16.ofInt 3000).toInt32) :: st) h),
  (83, fun loc st h => fArI 85 loc st h),
  (85, fun loc st h => fPut 9 15 88 loc st h),
  (88, fun loc st h => malo loc 0 89 st h),
  (89, fun loc st h => mgo 92 loc (.int ((Int16.ofInt 200).toInt32) :: st) h),
  (92, fun loc st h => fArI 94 loc st h),
  (94, fun loc st h => fPut 9 22 97 loc st h),
  (97, fun loc st h => malo loc 0 98 st h),
  (98, fun loc st h => mgo 101 loc (.int ((Int16.ofInt 200).toInt32) :: st) h),
  (101, fun loc st h => fArI 103 loc st h),
  (103, fun loc st h => fPut 9 28 106 loc st h),
  (106, fun loc st h => malo loc 0 107 st h),
  (107, fun loc st h => mgo 109 loc (.int ((Int8.ofInt 6).toInt32) :: st) h),
  (109, fun loc st h => fArI 111 loc st h),
  (111, fun loc st h => fPut 9 29 114 loc st h),
  (114, fun loc st h => malo loc 0 115 st h),
  (115, fun loc st h => mgo 117 loc (.int ((Int8.ofInt 24).toInt32) :: st) h),
  (117, fun loc st h => fArI 119 loc st h),
  (119, fun loc st h => fPut 9 37 122 loc st h),
  (122, fun loc st h => malo loc 0 123 st h),
  (123, fun loc st h => mgo 125 loc (.int ((Int8.ofInt 24).toInt32) :: st) h),
  (125, fun loc st h => fArI 127 loc st h),
  (127, fun loc st h => fPut 9 38 130 loc st h),
  (130, fun loc st h => malo loc 0 131 st h),
  (131, fun loc st h => mgo 132 loc (.int (Int32.ofInt 3) :: st) h),
  (132, fun loc st h => fArI 134 loc st h),
  (134, fun loc st h => fPut 9 39 137 loc st h),
  (137, fun loc st h => malo loc 0 138 st h),
  (138, fun loc st h => mgo 140 loc (.int ((Int8.ofInt 24).toInt32) :: st) h),
  (140, fun loc st h => fArI 142 loc st h),
  (142, fun loc st h => fPut 9 44 145 loc st h),
  (145, fun loc st h => malo loc 0 146 st h),
  (146, fun loc st h => mgo 148 loc (.int ((Int8.ofInt 25).toInt32) :: st) h),
  (148, fun loc st h => fArI 150 loc st h),
  (150, fun loc st h => fPut 9 45 153 loc st h),
  (153, fun loc st h => malo loc 0 154 st h),
  (154, fun loc st h => mgo 155 loc (.int (Int32.ofInt 4) :: st) h),
  (155, fun loc st h => fArI 157 loc st h),
  (157, fun loc st h => fPut 9 46 160 loc st h),
  (160, fun loc st h => malo loc 0 161 st h),
  (161, fun loc st h => mgo 162 loc (.int (Int32.ofInt 4) :: st) h),
  (162, fun loc st h => fArI 164 loc st h),
  (164, fun loc st h => fPut 9 47 167 loc st h),
  (167, fun loc st h => malo loc 0 168 st h),
  (168, fun loc st h => mgo 171 loc (.int ((Int16.ofInt 160).toInt32) :: st) h),
  (171, fun loc st h => fArI 173 loc st h),
  (173, fun loc st h => fPut 9 48 176 loc st h),
  (176, fun loc st h => mgo 177 loc (.int (Int32.ofInt 0) :: st) h),
  (177, fun loc st h => mi1 st (fun x r => mst loc 1 (.int x) (fun l => mgo 178 l r h))),
  (196, fun loc st h => malo loc 0 197 st h),
  (197, fun loc st h => mgo 198 loc (.int (Int32.ofInt 0) :: st) h),
  (198, fun loc st h => fInV 1 9 133 201 loc st h),
  (201, fun loc st h => malo loc 0 202 st h),
  (202, fun loc st h => mgo 204 loc (.int ((Int8.ofInt 22).toInt32) :: st) h),
  (204, fun loc st h => fInV 1 9 133 207 loc st h),
  (207, fun loc st h => malo loc 0 208 st h),
  (208, fun loc st h => mgo 210 loc (.int ((Int8.ofInt 8).toInt32) :: st) h),
  (210, fun loc st h => fInV 1 9 133 213 loc st h),
  (213, fun loc st h => malo loc 0 214 st h),
  (214, fun loc st h => mgo 216 loc (.int ((Int8.ofInt 55).toInt32) :: st) h),
  (216, fun loc st h => fInV 1 9 133 219 loc st h),
  (219, fun loc st h => malo loc 0 220 st h),
  (220, fun loc st h => mgo 222 loc (.int ((Int8.ofInt 16).toInt32) :: st) h),
  (222, fun loc st h => fInV 1 9 133 225 loc st h),
  (225, fun loc st h => malo loc 0 226 st h),
  (226, fun loc st h => fGet 9 14 229 loc st h),
  (229, fun loc st h => mgo 230 loc (.int (Int32.ofInt 0) :: st) h),
  (230, fun loc st h => mgo 231 loc (.int (Int32.ofInt 3) :: st) h),
  (231, fun loc st h => fIas 232 loc st h),
  (232, fun loc st h => malo loc 0 233 st h),
  (233, fun loc st h => fGet 9 13 236 loc st h),
  (236, fun loc st h => mgo 237 loc (.int (Int32.ofInt 1) :: st) h),
  (237, fun loc st h => mgo 238 loc (.int (Int32.ofInt 3) :: st) h),
  (238, fun loc st h => fIas 239 loc st h),
  (239, fun loc st h => malo loc 0 240 st h),
  (240, fun loc st h => fGet 9 14 243 loc st h),
  (243, fun loc st h => mgo 244 loc (.int (Int32.ofInt 1) :: st) h),
  (244, fun loc st h => mgo 245 loc (.int (Int32.ofInt 1) :: st) h),
  (245, fun loc st h => fIas 246 loc st h),
  (246, fun loc st h => malo loc 0 247 st h),
  (247, fun loc st h => fGet 9 13 250 loc st h),
  (250, fun loc st h => mgo 251 loc (.int (Int32.ofInt 2) :: st) h),
  (251, fun loc st h => mgo 252 loc (.int (Int32.ofInt 4) :: st) h),
  (252, fun loc st h => fIas 253 loc st h),
  (253, fun loc st h => malo loc 0 254 st h),
  (254, fun loc st h => fGet 9 14 257 loc st h),
  (257, fun loc st h => mgo 258 loc (.int (Int32.ofInt 2) :: st) h),
  (258, fun loc st h => mgo 259 loc (.int (Int32.ofInt 1) :: st) h),
  (259, fun loc st h => fIas 260 loc st h),
  (260, fun loc st h => malo loc 0 261 st h),
  (261, fun loc st h => mgo 262 loc (.int (Int32.ofInt 1) :: st) h),
  (262, fun loc st h => fPut 9 12 265 loc st h),
  (265, fun _ st h => fRet st h)]
theorem ft_113_ok : ∀ e ∈ ft_113, frow q113 e :=
  frow_cons (fr_of h113_178 (fun _ _ _ => rfl)) (
  frow_cons (fr_of h113_179 (fun _ _ _ => rfl)) (
  frow_cons (fr_icmp 196 h113_180 (by decide)) (
  frow_cons (fr_of h113_183 (fun _ _ _ => rfl)) (
  frow_cons (fr_get h113_184 (Or.inl (rfl : _ = some (67, 0, 9, 46)))) (
  frow_cons (fr_of h113_187 (fun _ _ _ => rfl)) (
  frow_cons (fr_of h113_188 (fun _ _ _ => rfl)) (
  frow_cons (fr_iast h113_189) (
  frow_cons (fr_inc h113_190) (
  frow_cons (fr_goto 178 h113_193 (by decide)) (
  frow_cons (fr_of h113_0 (fun _ _ _ => rfl)) (
  frow_cons (fr_obj h113_1 (rfl : _ = some (1, 7, 0, 0))) (
  frow_cons (fr_of h113_4 (fun _ _ _ => rfl)) (
  frow_cons (fr_of h113_5 (fun _ _ _ => rfl)) (
  frow_cons (fr_arI h113_7) (
  frow_cons (fr_put h113_9 (Or.inl ⟨(rfl : _ = some (7, 0, 9, 1)), Or.inr ⟨by decide, rfl⟩⟩)) (
  frow_cons (fr_of h113_12 (fun _ _ _ => rfl)) (
  frow_cons (fr_of h113_13 (fun _ _ _ => rfl)) (
  frow_cons (fr_arI h113_14) (
  frow_cons (fr_put h113_16 (Or.inl ⟨(rfl : _ = some (13, 0, 9, 3)), Or.inr ⟨by decide, rfl⟩⟩)) (
  frow_cons (fr_of h113_19 (fun _ _ _ => rfl)) (
  frow_cons (fr_of h113_20 (fun _ _ _ => rfl)) (
  frow_cons (fr_arI h113_21) (
  frow_cons (fr_put h113_23 (Or.inl ⟨(rfl : _ = some (16, 0, 9, 4)), Or.inr ⟨by decide, rfl⟩⟩)) (
  frow_cons (fr_of h113_26 (fun _ _ _ => rfl)) (
  frow_cons (fr_of h113_27 (fun _ _ _ => rfl)) (
  frow_cons (fr_arI h113_28) (
  frow_cons (fr_put h113_30 (Or.inl ⟨(rfl : _ = some (19, 0, 9, 5)), Or.inr ⟨by decide, rfl⟩⟩)) (
  frow_cons (fr_of h113_33 (fun _ _ _ => rfl)) (
  frow_cons (fr_of h113_34 (fun _ _ _ => rfl)) (
  frow_cons (fr_arI h113_35) (
  frow_cons (fr_put h113_37 (Or.inl ⟨(rfl : _ = some (22, 0, 9, 6)), Or.inr ⟨by decide, rfl⟩⟩)) (
  frow_cons (fr_of h113_40 (fun _ _ _ => rfl)) (
  frow_cons (fr_of h113_41 (fun _ _ _ => rfl)) (
  frow_cons (fr_arI h113_42) (
  frow_cons (fr_put h113_44 (Or.inl ⟨(rfl : _ = some (25, 0, 9, 7)), Or.inr ⟨by decide, rfl⟩⟩)) (
  frow_cons (fr_of h113_47 (fun _ _ _ => rfl)) (
  frow_cons (fr_of h113_48 (fun _ _ _ => rfl)) (
  frow_cons (fr_arI h113_49) (
  frow_cons (fr_put h113_51 (Or.inl ⟨(rfl : _ = some (28, 0, 9, 8)), Or.inr ⟨by decide, rfl⟩⟩)) (
  frow_cons (fr_of h113_54 (fun _ _ _ => rfl)) (
  frow_cons (fr_of h113_55 (fun _ _ _ => rfl)) (
  frow_cons (fr_arI h113_58) (
  frow_cons (fr_put h113_60 (Or.inl ⟨(rfl : _ = some (31, 0, 9, 11)), Or.inr ⟨by decide, rfl⟩⟩)) (
  frow_cons (fr_of h113_63 (fun _ _ _ => rfl)) (
  frow_cons (fr_of h113_64 (fun _ _ _ => rfl)) (
  frow_cons (fr_arI h113_66) (
  frow_cons (fr_put h113_68 (Or.inl ⟨(rfl : _ = some (34, 0, 9, 13)), Or.inr ⟨by decide, rfl⟩⟩)) (
  frow_cons (fr_of h113_71 (fun _ _ _ => rfl)) (
  frow_cons (fr_of h113_72 (fun _ _ _ => rfl)) (
  frow_cons (fr_arI h113_74) (
  frow_cons (fr_put h113_76 (Or.inl ⟨(rfl : _ = some (37, 0, 9, 14)), Or.inr ⟨by decide, rfl⟩⟩)) (
  frow_cons (fr_of h113_79 (fun _ _ _ => rfl)) (
  frow_cons (fr_of h113_80 (fun _ _ _ => rfl)) (
  frow_cons (fr_arI h113_83) (
  frow_cons (fr_put h113_85 (Or.inl ⟨(rfl : _ = some (40, 0, 9, 15)), Or.inr ⟨by decide, rfl⟩⟩)) (
  frow_cons (fr_of h113_88 (fun _ _ _ => rfl)) (
  frow_cons (fr_of h113_89 (fun _ _ _ => rfl)) (
  frow_cons (fr_arI h113_92) (
  frow_cons (fr_put h113_94 (Or.inl ⟨(rfl : _ = some (43, 0, 9, 22)), Or.inr ⟨by decide, rfl⟩⟩)) (
  frow_cons (fr_of h113_97 (fun _ _ _ => rfl)) (
  frow_cons (fr_of h113_98 (fun _ _ _ => rfl)) (
  frow_cons (fr_arI h113_101) (
  frow_cons (fr_put h113_103 (Or.inl ⟨(rfl : _ = some (46, 0, 9, 28)), Or.inr ⟨by decide, rfl⟩⟩)) (
  frow_cons (fr_of h113_106 (fun _ _ _ => rfl)) (
  frow_cons (fr_of h113_107 (fun _ _ _ => rfl)) (
  frow_cons (fr_arI h113_109) (
  frow_cons (fr_put h113_111 (Or.inl ⟨(rfl : _ = some (49, 0, 9, 29)), Or.inr ⟨by decide, rfl⟩⟩)) (
  frow_cons (fr_of h113_114 (fun _ _ _ => rfl)) (
  frow_cons (fr_of h113_115 (fun _ _ _ => rfl)) (
  frow_cons (fr_arI h113_117) (
  frow_cons (fr_put h113_119 (Or.inl ⟨(rfl : _ = some (52, 0, 9, 37)), Or.inr ⟨by decide, rfl⟩⟩)) (
  frow_cons (fr_of h113_122 (fun _ _ _ => rfl)) (
  frow_cons (fr_of h113_123 (fun _ _ _ => rfl)) (
  frow_cons (fr_arI h113_125) (
  frow_cons (fr_put h113_127 (Or.inl ⟨(rfl : _ = some (55, 0, 9, 38)), Or.inr ⟨by decide, rfl⟩⟩)) (
  frow_cons (fr_of h113_130 (fun _ _ _ => rfl)) (
  frow_cons (fr_of h113_131 (fun _ _ _ => rfl)) (
  frow_cons (fr_arI h113_132) (
  frow_cons (fr_put h113_134 (Or.inl ⟨(rfl : _ = some (58, 0, 9, 39)), Or.inr ⟨by decide, rfl⟩⟩)) (
  frow_cons (fr_of h113_137 (fun _ _ _ => rfl)) (
  frow_cons (fr_of h113_138 (fun _ _ _ => rfl)) (
  frow_cons (fr_arI h113_140) (
  frow_cons (fr_put h113_142 (Or.inl ⟨(rfl : _ = some (61, 0, 9, 44)), Or.inr ⟨by decide, rfl⟩⟩)) (
  frow_cons (fr_of h113_145 (fun _ _ _ => rfl)) (
  frow_cons (fr_of h113_146 (fun _ _ _ => rfl)) (
  frow_cons (fr_arI h113_148) (
  frow_cons (fr_put h113_150 (Or.inl ⟨(rfl : _ = some (64, 0, 9, 45)), Or.inr ⟨by decide, rfl⟩⟩)) (
  frow_cons (fr_of h113_153 (fun _ _ _ => rfl)) (
  frow_cons (fr_of h113_154 (fun _ _ _ => rfl)) (
  frow_cons (fr_arI h113_155) (
  frow_cons (fr_put h113_157 (Or.inl ⟨(rfl : _ = some (67, 0, 9, 46)), Or.inr ⟨by decide, rfl⟩⟩)) (
  frow_cons (fr_of h113_160 (fun _ _ _ => rfl)) (
  frow_cons (fr_of h113_161 (fun _ _ _ => rfl)) (
  frow_cons (fr_arI h113_162) (
  frow_cons (fr_put h113_164 (Or.inl ⟨(rfl : _ = some (70, 0, 9, 47)), Or.inr ⟨by decide, rfl⟩⟩)) (
  frow_cons (fr_of h113_167 (fun _ _ _ => rfl)) (
  frow_cons (fr_of h113_168 (fun _ _ _ => rfl)) (
  frow_cons (fr_arI h113_171) (
  frow_cons (fr_put h113_173 (Or.inl ⟨(rfl : _ = some (73, 0, 9, 48)), Or.inr ⟨by decide, rfl⟩⟩)) (
  frow_cons (fr_of h113_176 (fun _ _ _ => rfl)) (
  frow_cons (fr_of h113_177 (fun _ _ _ => rfl)) (
  frow_cons (fr_of h113_196 (fun _ _ _ => rfl)) (
  frow_cons (fr_of h113_197 (fun _ _ _ => rfl)) (
  frow_cons (fr_inV (idx := 76) h113_198 (rfl : _ = some (76, 6, 133, 0)) (Or.inl ⟨rfl, Or.inl rfl⟩) mq133) (
  frow_cons (fr_of h113_201 (fun _ _ _ => rfl)) (
  frow_cons (fr_of h113_202 (fun _ _ _ => rfl)) (
  frow_cons (fr_inV (idx := 76) h113_204 (rfl : _ = some (76, 6, 133, 0)) (Or.inl ⟨rfl, Or.inl rfl⟩) mq133) (
  frow_cons (fr_of h113_207 (fun _ _ _ => rfl)) (
  frow_cons (fr_of h113_208 (fun _ _ _ => rfl)) (
  frow_cons (fr_inV (idx := 76) h113_210 (rfl : _ = some (76, 6, 133, 0)) (Or.inl ⟨rfl, Or.inl rfl⟩) mq133) (
  frow_cons (fr_of h113_213 (fun _ _ _ => rfl)) (
  frow_cons (fr_of h113_214 (fun _ _ _ => rfl)) (
  frow_cons (fr_inV (idx := 76) h113_216 (rfl : _ = some (76, 6, 133, 0)) (Or.inl ⟨rfl, Or.inl rfl⟩) mq133) (
  frow_cons (fr_of h113_219 (fun _ _ _ => rfl)) (
  frow_cons (fr_of h113_220 (fun _ _ _ => rfl)) (
  frow_cons (fr_inV (idx := 76) h113_222 (rfl : _ = some (76, 6, 133, 0)) (Or.inl ⟨rfl, Or.inl rfl⟩) mq133) (
  frow_cons (fr_of h113_225 (fun _ _ _ => rfl)) (
  frow_cons (fr_get h113_226 (Or.inl (rfl : _ = some (37, 0, 9, 14)))) (
  frow_cons (fr_of h113_229 (fun _ _ _ => rfl)) (
  frow_cons (fr_of h113_230 (fun _ _ _ => rfl)) (
  frow_cons (fr_iast h113_231) (
  frow_cons (fr_of h113_232 (fun _ _ _ => rfl)) (
  frow_cons (fr_get h113_233 (Or.inl (rfl : _ = some (34, 0, 9, 13)))) (
  frow_cons (fr_of h113_236 (fun _ _ _ => rfl)) (
  frow_cons (fr_of h113_237 (fun _ _ _ => rfl)) (
  frow_cons (fr_iast h113_238) (
  frow_cons (fr_of h113_239 (fun _ _ _ => rfl)) (
  frow_cons (fr_get h113_240 (Or.inl (rfl : _ = some (37, 0, 9, 14)))) (
  frow_cons (fr_of h113_243 (fun _ _ _ => rfl)) (
  frow_cons (fr_of h113_244 (fun _ _ _ => rfl)) (
  frow_cons (fr_iast h113_245) (
  frow_cons (fr_of h113_246 (fun _ _ _ => rfl)) (
  frow_cons (fr_get h113_247 (Or.inl (rfl : _ = some (34, 0, 9, 13)))) (
  frow_cons (fr_of h113_250 (fun _ _ _ => rfl)) (
  frow_cons (fr_of h113_251 (fun _ _ _ => rfl)) (
  frow_cons (fr_iast h113_252) (
  frow_cons (fr_of h113_253 (fun _ _ _ => rfl)) (
  frow_cons (fr_get h113_254 (Or.inl (rfl : _ = some (37, 0, 9, 14)))) (
  frow_cons (fr_of h113_257 (fun _ _ _ => rfl)) (
  frow_cons (fr_of h113_258 (fun _ _ _ => rfl)) (
  frow_cons (fr_iast h113_259) (
  frow_cons (fr_of h113_260 (fun _ _ _ => rfl)) (
  frow_cons (fr_of h113_261 (fun _ _ _ => rfl)) (
  frow_cons (fr_put h113_262 (Or.inl ⟨(rfl : _ = some (80, 0, 9, 12)), Or.inl rfl⟩)) (
  frow_cons (fr_ret h113_265 rfl) ( frow_nil))))))))))))))))))))))))))))))))))))))))))))))))))))))))))))))))))))))))))))))))))))))))))))))))))))))))))))))))))))))))))))))))))))))))))))))))))
