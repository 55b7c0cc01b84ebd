/-! the words that the pools' entries and the methods stand on are the tables' -/
def mhost : String := "PuncturesAreViews"
def mMI (k : Nat) : MI := mtab.getD k (yX0_init, cX0_init, 0, none, 0, 0)
/-- good words of an entry of class cn's pool -/
def mlkW (cn : Nat) (e : Nat × Nat × Nat × Nat) : List Cond := match e with
  | (i, 0, a, b) => [.fieldLink (mcn.getD cn "") i (mcn.getD a "") (mTab a b).2.1 (mTab a b).2.2.1]
  | (i, 2, 0, _) => [.fieldLink (mcn.getD cn "") i "java/lang/String" "value" "[B"]
  | (i, 2, _, _) => [.fieldLink (mcn.getD cn "") i "java/lang/String" "coder" "B"]
  | (i, 3, 0, _) => [.fieldLink (mcn.getD cn "") i "PuncturesAreViews" "MOST_OF" "[I"]
  | (i, 3, 1, _) => [.fieldLink (mcn.getD cn "") i "PuncturesAreViews" "UNDER" "[I"]
  | (i, 3, 2, _) => [.fieldLink (mcn.getD cn "") i "java/lang/String" "COMPACT_STRINGS" "Z"]
  | (i, 3, _, _) => [.fieldLink (mcn.getD cn "") i "jdk/internal/util/Preconditions" "SIOOBE_FORMATTER" "Ljava/util/function/BiFunction;"]
  | (i, 4, a, _) => [.classLink (mcn.getD cn "") i (mcn.getD a "")]
  | (i, 6, k, 0) => [.methodLink (mcn.getD cn "") i (mMI k).1, .instanceMethod (mMI k).1, .selects (mMI k).1.cls (mMI k).1 (mMI k).1]
  | (_, 6, k, 1) => [.instanceMethod (mMI k).1, .selects (mMI k).1.cls (mMI k).1 (mMI k).1]
  | (i, 6, k, 2) => [.methodLink (mcn.getD cn "") i (mMI k).1, .static (mMI k).1]
  | (_, 6, k, 3) => [.static (mMI k).1]
  | (i, 6, k, 4) => [.methodLink (mcn.getD cn "") i (mMI k).1, .instanceMethod (mMI k).1]
  | (_, 6, k, 5) => [.instanceMethod (mMI k).1]
  | (i, 7, _, _) => [.methodLink (mcn.getD cn "") i Lib.objectInit, .instanceMethod Lib.objectInit, .code Lib.objectInit ⟨#[0xb1]⟩ 1 none]
  | (i, 10, _, _) => [.methodLink (mcn.getD cn "") i Lib.Math.max.name, .static Lib.Math.max.name, .initialized "java/lang/Math", .code Lib.Math.max.name Lib.Math.max.code 2 (some .int)]
  | (i, 11, _, _) => [.methodLink (mcn.getD cn "") i Lib.Math.min.name, .static Lib.Math.min.name, .initialized "java/lang/Math", .code Lib.Math.min.name Lib.Math.min.code 2 (some .int)]
  | (i, 8, _, _) => [.methodLink (mcn.getD cn "") i arraycopyName, .native arraycopyName, .static arraycopyName, .initialized "java/lang/System"]
  | _ => []
def mlkN (cn : Nat) (e : Nat × Nat × Nat × Nat) : List Cond := match e with
  | (i, 1, a, b) => [.fieldLinkNest (mcn.getD cn "") i (mcn.getD a "") (mTab a b).2.1 (mTab a b).2.2.1 mhost]
  | (i, 6, k, 1) => [.methodLinkNest (mcn.getD cn "") i (mMI k).1 mhost]
  | (i, 6, k, 3) => [.methodLinkNest (mcn.getD cn "") i (mMI k).1 mhost]
  | (i, 6, k, 5) => [.methodLinkNest (mcn.getD cn "") i (mMI k).1 mhost]
  | _ => []
def mlkr (e : Nat × Nat × Nat × Nat) : Bool := match e with
  | (_, 0, a, b) => decide (a < 10) && decide (b < mN a)
  | (_, 1, a, b) => decide (a < 10) && decide (b < mN a)
  | (_, 4, a, _) => decide (a < 10)
  | _ => true
def mtl (q : Nat × Nat) : Option Cond := match q.1 with
  | 0 => (k2_sels lw_privs)[q.2]?
  | 1 => tables_1_1[q.2]?
  | 2 => tables_1_2[q.2]?
  | 3 => tables_1_3[q.2]?
  | 4 => tables_1_4[q.2]?
  | 5 => tables_1_5[q.2]?
  | _ => tables_1_6[q.2]?
theorem mtl_mem {q : Nat × Nat} {w : Cond} (h : mtl q = some w) : w ∈ lw_tbl := by
  obtain ⟨j, i⟩ := q
  match j, h with
  | 0, h => exact List.mem_append_left _ (List.mem_of_getElem? h)
  | 1, h => exact List.mem_append_right _ (List.mem_append_left _ (List.mem_of_getElem? h))
  | 2, h => exact List.mem_append_right _ (List.mem_append_right _ (List.mem_append_left _ (List.mem_of_getElem? h)))
  | 3, h => exact List.mem_append_right _ (List.mem_append_right _ (List.mem_append_right _ (List.mem_append_left _ (List.mem_of_getElem? h))))
  | 4, h => exact List.mem_append_right _ (List.mem_append_right _ (List.mem_append_right _ (List.mem_append_right _ (List.mem_append_left _ (List.mem_of_getElem? h)))))
  | 5, h => exact List.mem_append_right _ (List.mem_append_right _ (List.mem_append_right _ (List.mem_append_right _ (List.mem_append_right _ (List.mem_append_left _ (List.mem_of_getElem? h))))))
  | j + 6, h => exact List.mem_append_right _ (List.mem_append_right _ (List.mem_append_right _ (List.mem_append_right _ (List.mem_append_right _ (List.mem_append_right _ (List.mem_of_getElem? h))))))
def mchk (ok : Cond → Bool) (ws : List Cond) (ps : List (Nat × Nat)) : Bool := decide (ws = ps.filterMap mtl) && ws.all ok
theorem mchk_in {ok : Cond → Bool} {ws : List Cond} {ps : List (Nat × Nat)} (h : mchk ok ws ps = true) : ∀ w ∈ ws, w ∈ lw_tbl ∧ ok w = true := by
  simp only [mchk, Bool.and_eq_true, decide_eq_true_eq, List.all_eq_true] at h
  intro w hw
  refine ⟨?_, h.2 w hw⟩
  have h1 := hw
  rw [h.1] at h1
  obtain ⟨q, -, hq⟩ := List.mem_filterMap.mp h1
  exact mtl_mem hq
theorem mlkW_0 : mchk goodWord (mlk_0.flatMap (mlkW 0)) [(1, 87), (1, 89), (1, 49), (1, 24), (1, 25), (1, 54), (3, 64), (0, 34), (3, 93), (0, 37), (3, 89), (0, 36), (3, 119), (0, 40), (1, 50)] = true := by decide +kernel
theorem mlkN_0 : mchk mm_isNest (mlk_0.flatMap (mlkN 0)) [(1, 65), (1, 53), (3, 62), (3, 107), (3, 112), (4, 35)] = true := by decide +kernel
theorem mlkr_0 : mlk_0.all mlkr = true := by decide +kernel
theorem mlkW_1 : mchk goodWord (mlk_1.flatMap (mlkW 1)) [(1, 57), (1, 59), (1, 62), (1, 66), (1, 69), (1, 72), (1, 56), (1, 24), (1, 25), (3, 16), (0, 27), (3, 30), (3, 32), (0, 28), (3, 4), (0, 24), (3, 35), (2, 68), (1, 13), (2, 69), (3, 36), (2, 65), (1, 13), (2, 66), (3, 95), (3, 89), (0, 36), (3, 96), (3, 39), (0, 29), (3, 97), (3, 43), (0, 30), (3, 98), (3, 12), (0, 26)] = true := by decide +kernel
theorem mlkN_1 : mchk mm_isNest (mlk_1.flatMap (mlkN 1)) [(2, 174), (2, 176), (3, 14), (3, 34)] = true := by decide +kernel
theorem mlkr_1 : mlk_1.all mlkr = true := by decide +kernel
theorem mlkW_2 : mchk goodWord (mlk_2.flatMap (mlkW 2)) [(2, 170), (2, 172), (2, 175), (2, 169), (1, 24), (1, 25), (3, 145), (3, 147), (3, 146), (1, 17)] = true := by decide +kernel
theorem mlkN_2 : mchk mm_isNest (mlk_2.flatMap (mlkN 2)) [] = true := by decide +kernel
theorem mlkr_2 : mlk_2.all mlkr = true := by decide +kernel
theorem mlkW_3 : mchk goodWord (mlk_3.flatMap (mlkW 3)) [(1, 127), (1, 129), (1, 131), (1, 126), (1, 24), (1, 25)] = true := by decide +kernel
theorem mlkN_3 : mchk mm_isNest (mlk_3.flatMap (mlkN 3)) [] = true := by decide +kernel
theorem mlkr_3 : mlk_3.all mlkr = true := by decide +kernel
theorem mlkW_4 : mchk goodWord (mlk_4.flatMap (mlkW 4)) [(1, 34), (1, 36), (1, 33), (1, 24), (1, 25)] = true := by decide +kernel
theorem mlkN_4 : mchk mm_isNest (mlk_4.flatMap (mlkN 4)) [] = true := by decide +kernel
theorem mlkr_4 : mlk_4.all mlkr = true := by decide +kernel
theorem mlkW_5 : mchk goodWord (mlk_5.flatMap (mlkW 5)) [(1, 105), (1, 107), (1, 108), (1, 109), (1, 110), (1, 104), (1, 24), (1, 25), (3, 4), (0, 24), (3, 19), (3, 20), (3, 22), (3, 23), (3, 25), (3, 26), (3, 28), (2, 68), (1, 13), (2, 69), (3, 29), (2, 65), (1, 13), (2, 66)] = true := by decide +kernel
theorem mlkN_5 : mchk mm_isNest (mlk_5.flatMap (mlkN 5)) [(1, 61), (1, 64), (1, 68), (1, 71), (2, 173), (3, 18)] = true := by decide +kernel
theorem mlkr_5 : mlk_5.all mlkr = true := by decide +kernel
theorem mlkW_6 : mchk goodWord (mlk_6.flatMap (mlkW 6)) [(1, 165), (1, 166), (1, 167), (1, 168), (1, 169), (1, 170), (1, 145), (1, 24), (1, 25), (1, 149), (2, 3), (0, 2), (2, 110), (0, 10), (2, 114), (0, 11), (2, 116), (2, 118), (0, 12), (2, 120), (2, 122), (0, 13), (2, 124), (2, 126), (0, 14), (2, 130), (0, 15), (2, 132), (2, 134), (0, 16), (2, 136), (2, 138), (0, 17), (2, 140), (2, 142), (0, 18), (2, 144), (2, 146), (0, 19), (2, 150), (0, 20), (2, 152), (2, 154), (0, 21), (2, 156), (2, 158), (0, 22), (2, 162), (0, 23), (1, 146)] = true := by decide +kernel
theorem mlkN_6 : mchk mm_isNest (mlk_6.flatMap (mlkN 6)) [(1, 148), (2, 1), (2, 108), (2, 112), (2, 128), (2, 148), (2, 160)] = true := by decide +kernel
theorem mlkr_6 : mlk_6.all mlkr = true := by decide +kernel
theorem mlkW_7 : mchk goodWord (mlk_7.flatMap (mlkW 7)) [(1, 152), (1, 153), (1, 154), (1, 155), (1, 151), (1, 24), (1, 25), (2, 7), (0, 3), (2, 9), (2, 10), (2, 12), (2, 13), (2, 15), (2, 17), (0, 4), (2, 19), (2, 21), (0, 5), (2, 24), (1, 186), (1, 187), (2, 25), (2, 27), (0, 6), (2, 29), (1, 196), (1, 197), (2, 30), (2, 32), (0, 7), (2, 35), (2, 37), (2, 39), (0, 8), (2, 41), (2, 43), (0, 9), (2, 45), (2, 46), (2, 49), (2, 50), (2, 51)] = true := by decide +kernel
theorem mlkN_7 : mchk mm_isNest (mlk_7.flatMap (mlkN 7)) [(1, 37), (2, 5), (2, 34)] = true := by decide +kernel
theorem mlkr_7 : mlk_7.all mlkr = true := by decide +kernel
theorem mlkW_8 : mchk goodWord (mlk_8.flatMap (mlkW 8)) [(2, 186), (2, 187), (2, 188), (2, 189), (2, 190), (2, 191), (2, 192), (2, 193), (2, 194), (2, 195), (2, 196), (2, 197), (2, 198), (2, 199), (2, 200), (2, 236), (4, 73), (1, 23), (1, 24), (1, 25), (1, 31), (1, 47), (1, 54), (1, 102), (1, 124), (1, 143), (1, 185), (1, 186), (1, 187), (1, 195), (1, 196), (1, 197), (1, 235), (0, 0), (1, 239), (0, 1), (2, 167), (2, 238), (2, 239), (3, 0), (3, 4), (0, 24), (3, 8), (0, 25), (3, 12), (0, 26), (3, 39), (0, 29), (3, 43), (0, 30), (3, 45), (3, 47), (0, 31), (3, 51), (0, 32), (3, 57), (2, 35), (3, 60), (0, 33), (3, 79), (3, 81), (0, 35), (3, 89), (0, 36), (3, 93), (0, 37), (3, 105), (0, 38), (3, 110), (0, 39), (3, 119), (0, 40), (3, 125), (3, 127), (0, 41), (3, 133), (3, 135), (0, 42), (3, 143), (0, 43), (3, 152), (3, 154), (0, 44), (3, 160), (3, 162), (0, 45), (3, 168), (3, 170), (0, 46), (3, 172), (3, 174), (0, 47), (3, 176), (3, 178), (0, 48), (3, 180), (3, 182), (0, 49), (3, 188), (3, 190), (0, 50), (3, 194), (0, 51), (3, 196), (3, 197), (3, 199), (3, 201), (0, 52), (3, 207), (3, 209), (0, 53), (3, 211), (3, 212), (3, 214), (3, 216), (0, 54), (3, 220), (0, 55), (3, 222), (3, 224), (0, 56), (3, 226), (3, 228), (0, 57), (3, 230), (3, 232), (0, 58), (4, 0), (0, 59), (4, 4), (0, 60), (4, 10), (4, 12), (0, 61), (4, 16), (0, 62), (4, 24), (4, 25), (4, 33), (0, 63), (4, 54), (0, 64), (4, 60), (3, 147), (3, 146), (1, 17), (4, 65), (3, 54), (3, 55), (4, 70), (4, 71), (1, 26), (1, 28), (1, 44), (1, 96), (1, 98), (1, 140), (2, 164)] = true := by decide +kernel
theorem mlkN_8 : mchk mm_isNest (mlk_8.flatMap (mlkN 8)) [(1, 35), (1, 58), (1, 60), (1, 63), (1, 67), (1, 70), (1, 73), (1, 88), (1, 90), (1, 106), (1, 128), (1, 130), (1, 132), (2, 171), (2, 177), (1, 30), (1, 46), (1, 99), (1, 101), (1, 123), (1, 142), (1, 233), (1, 237), (2, 166), (3, 2), (3, 6), (3, 10), (3, 37), (3, 41), (3, 49), (3, 58), (3, 87), (3, 91), (3, 103), (3, 108), (3, 117), (3, 141), (3, 192), (3, 218), (3, 238), (4, 2), (4, 14), (4, 31), (4, 52)] = true := by decide +kernel
theorem mlkr_8 : mlk_8.all mlkr = true := by decide +kernel
theorem mlkW_9 : mchk goodWord (mlk_9.flatMap (mlkW 9)) [(4, 85), (4, 86), (4, 87), (4, 88), (4, 89), (4, 90), (4, 91), (4, 92), (4, 93), (4, 94), (4, 95), (4, 96), (4, 97), (4, 98), (4, 99), (4, 100), (4, 101), (4, 102), (4, 103), (4, 104), (4, 105), (4, 106), (4, 107), (4, 108), (4, 109), (4, 110), (4, 111), (4, 112), (4, 113), (4, 114), (4, 115), (4, 116), (4, 117), (4, 118), (4, 119), (4, 120), (4, 121), (4, 122), (4, 123), (4, 124), (4, 125), (4, 126), (4, 127), (4, 128), (4, 129), (4, 130), (4, 131), (4, 132), (4, 133), (4, 80), (1, 24), (1, 25), (4, 81), (4, 83), (0, 65), (4, 237), (4, 239), (0, 66), (5, 1), (5, 2), (5, 4), (5, 5), (5, 7), (5, 9), (0, 67), (5, 11), (5, 12), (5, 14), (5, 16), (0, 68), (5, 26), (5, 28), (0, 69), (5, 30), (5, 32), (0, 70), (5, 34), (5, 36), (0, 71), (5, 38), (5, 39), (5, 41), (5, 42), (5, 44), (5, 46), (0, 72), (5, 48), (5, 50), (0, 73), (5, 60), (5, 62), (0, 74), (5, 64), (5, 65), (5, 70), (5, 72), (0, 75), (5, 80), (5, 82), (0, 76), (5, 90), (5, 91), (5, 93), (5, 94), (5, 96), (5, 98), (0, 77), (5, 100), (5, 102), (0, 78), (5, 104), (5, 106), (0, 79), (5, 108), (5, 110), (0, 80), (5, 112), (5, 114), (0, 81), (5, 116), (5, 117), (5, 119), (5, 121), (0, 82), (5, 123), (5, 125), (0, 83), (5, 127), (5, 129), (0, 84), (5, 139), (5, 141), (0, 85), (5, 147), (5, 149), (0, 86), (5, 155), (5, 157), (0, 87), (5, 159), (5, 161), (0, 88), (5, 167), (5, 169), (0, 89), (5, 183), (5, 185), (0, 90), (5, 191), (5, 193), (0, 91), (5, 199), (5, 201), (0, 92), (5, 203), (5, 205), (0, 93), (5, 207), (5, 209), (0, 94), (5, 215), (5, 217), (0, 95), (5, 223), (5, 224), (5, 226), (5, 228), (0, 96), (5, 230), (5, 232), (0, 97), (5, 234), (5, 236), (0, 98), (5, 238), (6, 0), (0, 99), (6, 2), (6, 4), (0, 100), (6, 6), (6, 8), (0, 101), (6, 10), (6, 12), (0, 102), (6, 14), (6, 16), (0, 103), (6, 22), (6, 23), (6, 24), (6, 30), (6, 32), (0, 104), (6, 67), (5, 19), (5, 20)] = true := by decide +kernel
theorem mlkN_9 : mchk mm_isNest (mlk_9.flatMap (mlkN 9)) [] = true := by decide +kernel
theorem mlkr_9 : mlk_9.all mlkr = true := by decide +kernel
theorem mlkW_10 : mchk goodWord (mlk_10.flatMap (mlkW 10)) [(1, 193), (1, 209), (6, 72), (6, 73), (1, 189), (1, 190), (1, 191), (1, 199), (1, 200), (1, 201), (1, 203), (1, 204), (1, 211), (1, 212), (2, 53), (2, 54), (2, 55), (2, 57), (1, 186), (1, 187), (2, 58), (2, 59)] = true := by decide +kernel
theorem mlkN_10 : mchk mm_isNest (mlk_10.flatMap (mlkN 10)) [] = true := by decide +kernel
theorem mlkr_10 : mlk_10.all mlkr = true := by decide +kernel
theorem mlkW_11 : mchk goodWord (mlk_11.flatMap (mlkW 11)) [(1, 206), (1, 207), (2, 61), (2, 62), (2, 64), (2, 65), (1, 13), (2, 66), (2, 67), (2, 68), (1, 13), (2, 69), (2, 70), (2, 71)] = true := by decide +kernel
theorem mlkN_11 : mchk mm_isNest (mlk_11.flatMap (mlkN 11)) [] = true := by decide +kernel
theorem mlkr_11 : mlk_11.all mlkr = true := by decide +kernel
theorem mlkW_12 : mchk goodWord (mlk_12.flatMap (mlkW 12)) [] = true := by decide +kernel
theorem mlkN_12 : mchk mm_isNest (mlk_12.flatMap (mlkN 12)) [] = true := by decide +kernel
theorem mlkr_12 : mlk_12.all mlkr = true := by decide +kernel
theorem mlkW_13 : mchk goodWord (mlk_13.flatMap (mlkW 13)) [] = true := by decide +kernel
theorem mlkN_13 : mchk mm_isNest (mlk_13.flatMap (mlkN 13)) [] = true := by decide +kernel
theorem mlkr_13 : mlk_13.all mlkr = true := by decide +kernel
theorem mlk_all {cn idx : Nat} {e : Nat × Nat × Nat × Nat} (h : mlkf cn idx = some e) : e.1 = idx ∧ (∀ w ∈ mlkW cn e, w ∈ lw_good) ∧ (∀ w ∈ mlkN cn e, w ∈ lw_nest) ∧ mlkr e = true := by
  have h1 := List.find?_some h
  have h2 := List.mem_of_find?_eq_some h
  refine ⟨by simpa using h1, ?_⟩
  have key : ∀ (l : List (Nat × Nat × Nat × Nat)) (p1 p2 : List (Nat × Nat)), mchk goodWord (l.flatMap (mlkW cn)) p1 = true → mchk mm_isNest (l.flatMap (mlkN cn)) p2 = true → l.all mlkr = true → e ∈ l → (∀ w ∈ mlkW cn e, w ∈ lw_good) ∧ (∀ w ∈ mlkN cn e, w ∈ lw_nest) ∧ mlkr e = true :=
    fun l p1 p2 a1 a2 a3 he => ⟨fun w hw => List.mem_filter.mpr (mchk_in a1 w (List.mem_flatMap.mpr ⟨e, he, hw⟩)), fun w hw => List.mem_filter.mpr (mchk_in a2 w (List.mem_flatMap.mpr ⟨e, he, hw⟩)), List.all_eq_true.mp a3 e he⟩
  match cn, h2, key with
  | 0, h2, key => exact key _ _ _ mlkW_0 mlkN_0 mlkr_0 h2
  | 1, h2, key => exact key _ _ _ mlkW_1 mlkN_1 mlkr_1 h2
  | 2, h2, key => exact key _ _ _ mlkW_2 mlkN_2 mlkr_2 h2
  | 3, h2, key => exact key _ _ _ mlkW_3 mlkN_3 mlkr_3 h2
  | 4, h2, key => exact key _ _ _ mlkW_4 mlkN_4 mlkr_4 h2
  | 5, h2, key => exact key _ _ _ mlkW_5 mlkN_5 mlkr_5 h2
  | 6, h2, key => exact key _ _ _ mlkW_6 mlkN_6 mlkr_6 h2
  | 7, h2, key => exact key _ _ _ mlkW_7 mlkN_7 mlkr_7 h2
  | 8, h2, key => exact key _ _ _ mlkW_8 mlkN_8 mlkr_8 h2
  | 9, h2, key => exact key _ _ _ mlkW_9 mlkN_9 mlkr_9 h2
  | 10, h2, key => exact key _ _ _ mlkW_10 mlkN_10 mlkr_10 h2
  | 11, h2, key => exact key _ _ _ mlkW_11 mlkN_11 mlkr_11 h2
  | 12, h2, key => exact key _ _ _ mlkW_12 mlkN_12 mlkr_12 h2
  | 13, h2, key => exact key _ _ _ mlkW_13 mlkN_13 mlkr_13 h2
  | k + 14, h2, _ => exact absurd h2 (by simp [mlk])
theorem mlk_i {cn idx i k a b : Nat} (h : mlkf cn idx = some (i, k, a, b)) : i = idx := (mlk_all h).1
theorem mlk_W {cn idx : Nat} {e : Nat × Nat × Nat × Nat} (h : mlkf cn idx = some e) : ∀ w ∈ mlkW cn e, w ∈ lw_good := (mlk_all h).2.1
theorem mlk_N {cn idx : Nat} {e : Nat × Nat × Nat × Nat} (h : mlkf cn idx = some e) : ∀ w ∈ mlkN cn e, w ∈ lw_nest := (mlk_all h).2.2.1
theorem mlk_r {cn idx : Nat} {e : Nat × Nat × Nat × Nat} (h : mlkf cn idx = some e) : mlkr e = true := (mlk_all h).2.2.2
/-- the methods' own words -/
def mtW (q : MI) : List Cond := [Cond.code q.1 q.2.1 q.2.2.1 q.2.2.2.1, Cond.initialized q.1.cls]
def mtok (q : MI) : Bool := decide (q.1.cls = mcn.getD q.2.2.2.2.1 "") && decide (q.1.cls ≠ "java/lang/invoke/MethodHandle" ∧ q.1.cls ≠ "java/lang/invoke/VarHandle") && decide ((parseMethodDescriptor q.1.desc).map (fun d => d.parameters.length) = some q.2.2.2.2.2) && decide (q.2.2.1 ≤ 40) && plainName q.1.cls && decide (q.2.2.2.2.1 < 14)
theorem mtW_0 : mchk goodWord (mtab_0.flatMap mtW) [(1, 48), (1, 3), (3, 9), (1, 3), (3, 61), (1, 3), (4, 34), (1, 3), (3, 106), (1, 3), (3, 111), (1, 3), (3, 195), (1, 3), (1, 55), (1, 4), (3, 65), (1, 4), (3, 120), (1, 4), (3, 90), (1, 4), (3, 94), (1, 4)] = true := by decide +kernel
theorem mtok_0 : mtab_0.all mtok = true := by decide +kernel
theorem mtW_1 : mchk goodWord (mtab_1.flatMap mtW) [(3, 13), (1, 4), (3, 33), (1, 4), (3, 40), (1, 4), (3, 44), (1, 4), (2, 168), (1, 15), (3, 5), (1, 15), (3, 52), (1, 15), (4, 17), (1, 15), (3, 144), (1, 15), (1, 125), (1, 6), (4, 1), (1, 6), (4, 55), (1, 6)] = true := by decide +kernel
theorem mtok_1 : mtab_1.all mtok = true := by decide +kernel
theorem mtW_2 : mchk goodWord (mtab_2.flatMap mtW) [(3, 221), (1, 6), (4, 5), (1, 6), (1, 32), (1, 2), (1, 236), (1, 2), (2, 8), (1, 2), (1, 103), (1, 5), (2, 111), (1, 5), (2, 151), (1, 5), (2, 163), (1, 5), (3, 17), (1, 5), (3, 21), (1, 5), (3, 24), (1, 5)] = true := by decide +kernel
theorem mtok_2 : mtab_2.all mtok = true := by decide +kernel
theorem mtW_3 : mchk goodWord (mtab_3.flatMap mtW) [(3, 27), (1, 5), (1, 144), (1, 7), (2, 0), (1, 7), (2, 123), (1, 7), (2, 127), (1, 7), (2, 119), (1, 7), (2, 135), (1, 7), (2, 159), (1, 7), (2, 139), (1, 7), (2, 143), (1, 7), (2, 155), (1, 7), (2, 147), (1, 7)] = true := by decide +kernel
theorem mtok_3 : mtab_3.all mtok = true := by decide +kernel
theorem mtW_4 : mchk goodWord (mtab_4.flatMap mtW) [(1, 150), (1, 8), (2, 115), (1, 8), (2, 131), (1, 8), (2, 4), (1, 8), (2, 33), (1, 8), (2, 11), (1, 8), (2, 14), (1, 8), (2, 18), (1, 8), (2, 22), (1, 8), (2, 28), (1, 8), (2, 40), (1, 8), (2, 44), (1, 8)] = true := by decide +kernel
theorem mtok_4 : mtab_4.all mtok = true := by decide +kernel
theorem mtW_5 : mchk goodWord (mtab_5.flatMap mtW) [(2, 47), (1, 8), (1, 22), (1, 1), (2, 235), (1, 1), (3, 56), (1, 1), (3, 1), (1, 1), (2, 36), (1, 1), (3, 48), (1, 1), (3, 70), (1, 1), (3, 74), (1, 1), (3, 78), (1, 1), (3, 82), (1, 1), (3, 86), (1, 1)] = true := by decide +kernel
theorem mtok_5 : mtab_5.all mtok = true := by decide +kernel
theorem mtW_6 : mchk goodWord (mtab_6.flatMap mtW) [(3, 102), (1, 1), (3, 116), (1, 1), (3, 124), (1, 1), (3, 128), (1, 1), (3, 132), (1, 1), (3, 136), (1, 1), (3, 140), (1, 1), (3, 151), (1, 1), (3, 155), (1, 1), (3, 159), (1, 1), (3, 163), (1, 1), (3, 167), (1, 1)] = true := by decide +kernel
theorem mtok_6 : mtab_6.all mtok = true := by decide +kernel
theorem mtW_7 : mchk goodWord (mtab_7.flatMap mtW) [(3, 171), (1, 1), (3, 183), (1, 1), (3, 175), (1, 1), (3, 179), (1, 1), (3, 187), (1, 1), (3, 191), (1, 1), (3, 198), (1, 1), (3, 202), (1, 1), (3, 206), (1, 1), (3, 213), (1, 1), (3, 217), (1, 1), (3, 225), (1, 1)] = true := by decide +kernel
theorem mtok_7 : mtab_7.all mtok = true := by decide +kernel
theorem mtW_8 : mchk goodWord (mtab_8.flatMap mtW) [(3, 229), (1, 1), (3, 233), (1, 1), (3, 237), (1, 1), (4, 9), (1, 1), (4, 13), (1, 1), (4, 22), (1, 1), (4, 26), (1, 1), (4, 30), (1, 1), (4, 39), (1, 1), (4, 43), (1, 1), (4, 47), (1, 1), (4, 51), (1, 1)] = true := by decide +kernel
theorem mtok_8 : mtab_8.all mtok = true := by decide +kernel
theorem mtW_9 : mchk goodWord (mtab_9.flatMap mtW) [(4, 59), (1, 1), (4, 64), (1, 1), (4, 69), (1, 1), (4, 72), (1, 1), (3, 210), (1, 1), (4, 79), (1, 16), (5, 6), (1, 16), (5, 43), (1, 16), (5, 10), (1, 16), (5, 3), (1, 16), (5, 225), (1, 16), (5, 0), (1, 16)] = true := by decide +kernel
theorem mtok_9 : mtab_9.all mtok = true := by decide +kernel
theorem mtW_10 : mchk goodWord (mtab_10.flatMap mtW) [(5, 13), (1, 16), (5, 17), (1, 16), (4, 236), (1, 16), (5, 21), (1, 16), (5, 25), (1, 16), (5, 55), (1, 16), (5, 66), (1, 16), (5, 92), (1, 16), (5, 95), (1, 16), (5, 73), (1, 16), (5, 83), (1, 16), (5, 63), (1, 16)] = true := by decide +kernel
theorem mtok_10 : mtab_10.all mtok = true := by decide +kernel
theorem mtW_11 : mchk goodWord (mtab_11.flatMap mtW) [(5, 103), (1, 16), (4, 84), (1, 16), (5, 118), (1, 16), (5, 115), (1, 16), (5, 122), (1, 16), (5, 111), (1, 16), (5, 130), (1, 16), (5, 126), (1, 16), (5, 107), (1, 16), (5, 99), (1, 16), (5, 59), (1, 16), (5, 134), (1, 16)] = true := by decide +kernel
theorem mtok_11 : mtab_11.all mtok = true := by decide +kernel
theorem mtW_12 : mchk goodWord (mtab_12.flatMap mtW) [(5, 37), (1, 16), (5, 40), (1, 16), (5, 33), (1, 16), (5, 29), (1, 16), (5, 47), (1, 16), (5, 51), (1, 16), (5, 142), (1, 16), (5, 138), (1, 16), (5, 150), (1, 16), (5, 146), (1, 16), (5, 158), (1, 16), (5, 162), (1, 16)] = true := by decide +kernel
theorem mtok_12 : mtab_12.all mtok = true := by decide +kernel
theorem mtW_13 : mchk goodWord (mtab_13.flatMap mtW) [(5, 154), (1, 16), (5, 170), (1, 16), (5, 166), (1, 16), (5, 174), (1, 16), (5, 178), (1, 16), (5, 186), (1, 16), (5, 182), (1, 16), (5, 194), (1, 16), (5, 190), (1, 16), (5, 202), (1, 16), (5, 206), (1, 16), (5, 210), (1, 16)] = true := by decide +kernel
theorem mtok_13 : mtab_13.all mtok = true := by decide +kernel
theorem mtW_14 : mchk goodWord (mtab_14.flatMap mtW) [(5, 198), (1, 16), (5, 218), (1, 16), (5, 214), (1, 16), (5, 229), (1, 16), (5, 237), (1, 16), (5, 233), (1, 16), (6, 1), (1, 16), (6, 5), (1, 16), (6, 9), (1, 16), (6, 13), (1, 16), (6, 17), (1, 16), (5, 222), (1, 16)] = true := by decide +kernel
theorem mtok_14 : mtab_14.all mtok = true := by decide +kernel
theorem mtW_15 : mchk goodWord (mtab_15.flatMap mtW) [(6, 21), (1, 16), (6, 33), (1, 16), (6, 29), (1, 16), (6, 38), (1, 16), (6, 43), (1, 16), (6, 47), (1, 16), (6, 51), (1, 16), (6, 25), (1, 16), (6, 56), (1, 16), (6, 60), (1, 16), (6, 64), (1, 16), (6, 71), (1, 16)] = true := by decide +kernel
theorem mtok_15 : mtab_15.all mtok = true := by decide +kernel
theorem mtW_16 : mchk goodWord (mtab_16.flatMap mtW) [(1, 188), (1, 9), (1, 198), (1, 9), (2, 52), (1, 9), (2, 56), (1, 9), (1, 192), (1, 9), (1, 202), (1, 9), (1, 208), (1, 9), (1, 205), (1, 10), (2, 63), (1, 10), (2, 60), (1, 10), (2, 72), (1, 10), (1, 213), (1, 11)] = true := by decide +kernel
theorem mtok_16 : mtab_16.all mtok = true := by decide +kernel
theorem mtab_in {k : Nat} {q : MI} (h : mtab[k]? = some q) : mtok q = true ∧ ∀ w ∈ mtW q, w ∈ lw_good := by
  have h1 := List.mem_of_getElem? h
  have key : ∀ (l : List MI) (p : List (Nat × Nat)), mchk goodWord (l.flatMap mtW) p = true → l.all mtok = true → q ∈ l → mtok q = true ∧ ∀ w ∈ mtW q, w ∈ lw_good :=
    fun l p a1 a2 he => ⟨List.all_eq_true.mp a2 q he, fun w hw => List.mem_filter.mpr (mchk_in a1 w (List.mem_flatMap.mpr ⟨q, he, hw⟩))⟩
  simp only [mtab, List.mem_append] at h1
  rcases h1 with (((((((((((((((h1 | h1) | h1) | h1) | h1) | h1) | h1) | h1) | h1) | h1) | h1) | h1) | h1) | h1) | h1) | h1) | h1
  · exact key _ _ mtW_0 mtok_0 h1
  · exact key _ _ mtW_1 mtok_1 h1
  · exact key _ _ mtW_2 mtok_2 h1
  · exact key _ _ mtW_3 mtok_3 h1
  · exact key _ _ mtW_4 mtok_4 h1
  · exact key _ _ mtW_5 mtok_5 h1
  · exact key _ _ mtW_6 mtok_6 h1
  · exact key _ _ mtW_7 mtok_7 h1
  · exact key _ _ mtW_8 mtok_8 h1
  · exact key _ _ mtW_9 mtok_9 h1
  · exact key _ _ mtW_10 mtok_10 h1
  · exact key _ _ mtW_11 mtok_11 h1
  · exact key _ _ mtW_12 mtok_12 h1
  · exact key _ _ mtW_13 mtok_13 h1
  · exact key _ _ mtW_14 mtok_14 h1
  · exact key _ _ mtW_15 mtok_15 h1
  · exact key _ _ mtW_16 mtok_16 h1
theorem mtab_d {k : Nat} {q : MI} (h : mtab[k]? = some q) : mMI k = q := by
  simp only [mMI, List.getD_eq_getElem?_getD, h, Option.getD_some]
theorem mcls_at : ∀ ci, ci < 10 → vwCl[ci]? = some (mcn.getD ci "", mTab ci, mN ci) := by
  intro ci h
  match ci, h with
  | 0, _ => rfl
  | 1, _ => rfl
  | 2, _ => rfl
  | 3, _ => rfl
  | 4, _ => rfl
  | 5, _ => rfl
  | 6, _ => rfl
  | 7, _ => rfl
  | 8, _ => rfl
  | 9, _ => rfl
theorem mclsw_0 : mchk goodWord (u_ws RX0 TX0 2 ++ [.instantiable RX0 2, .initialized RX0]) [(1, 91), (1, 93), (1, 45), (1, 3)] = true := by decide +kernel
theorem mclsw_1 : mchk goodWord (u_ws RX1 TX1 6 ++ [.instantiable RX1 6, .initialized RX1]) [(1, 74), (1, 76), (1, 78), (1, 80), (1, 82), (1, 84), (1, 52), (1, 4)] = true := by decide +kernel
theorem mclsw_2 : mchk goodWord (u_ws RX2 TX2 3 ++ [.instantiable RX2 3, .initialized RX2]) [(2, 178), (2, 180), (2, 182), (2, 165), (1, 15)] = true := by decide +kernel
theorem mclsw_3 : mchk goodWord (u_ws RX3 TX3 3 ++ [.instantiable RX3 3, .initialized RX3]) [(1, 133), (1, 135), (1, 137), (1, 122), (1, 6)] = true := by decide +kernel
theorem mclsw_4 : mchk goodWord (u_ws RX4 TX4 2 ++ [.instantiable RX4 2, .initialized RX4]) [(1, 38), (1, 40), (1, 29), (1, 2)] = true := by decide +kernel
theorem mclsw_5 : mchk goodWord (u_ws RX5 TX5 5 ++ [.instantiable RX5 5, .initialized RX5]) [(1, 111), (1, 113), (1, 115), (1, 117), (1, 119), (1, 100), (1, 5)] = true := by decide +kernel
theorem mclsw_6 : mchk goodWord (u_ws RX6 TX6 6 ++ [.instantiable RX6 6, .initialized RX6]) [(1, 171), (1, 173), (1, 175), (1, 177), (1, 179), (1, 181), (1, 141), (1, 7)] = true := by decide +kernel
theorem mclsw_7 : mchk goodWord (u_ws RX7 TX7 4 ++ [.instantiable RX7 4, .initialized RX7]) [(1, 156), (1, 158), (1, 160), (1, 162), (1, 147), (1, 8)] = true := by decide +kernel
theorem mclsw_8 : mchk goodWord (u_ws RX8 TX8 15 ++ [.instantiable RX8 15, .initialized RX8]) [(2, 201), (2, 203), (2, 205), (2, 207), (2, 209), (2, 211), (2, 213), (2, 215), (2, 217), (2, 219), (2, 221), (2, 223), (2, 225), (2, 227), (2, 229), (1, 19), (1, 1)] = true := by decide +kernel
theorem mclsw_9 : mchk goodWord (u_ws RX9 TX9 49 ++ [.instantiable RX9 49, .initialized RX9]) [(4, 134), (4, 136), (4, 138), (4, 140), (4, 142), (4, 144), (4, 146), (4, 148), (4, 150), (4, 152), (4, 154), (4, 156), (4, 158), (4, 160), (4, 162), (4, 164), (4, 166), (4, 168), (4, 170), (4, 172), (4, 174), (4, 176), (4, 178), (4, 180), (4, 182), (4, 184), (4, 186), (4, 188), (4, 190), (4, 192), (4, 194), (4, 196), (4, 198), (4, 200), (4, 202), (4, 204), (4, 206), (4, 208), (4, 210), (4, 212), (4, 214), (4, 216), (4, 218), (4, 220), (4, 222), (4, 224), (4, 226), (4, 228), (4, 230), (4, 76), (1, 16)] = true := by decide +kernel
def mclsW (ci : Nat) : List Cond := [.instantiable (mcn.getD ci "") (mN ci), .initialized (mcn.getD ci "")]
theorem mcls_ws : ∀ ci, ci < 10 → ∀ w ∈ u_ws (mcn.getD ci "") (mTab ci) (mN ci), w ∈ lw_good := by
  intro ci h
  match ci, h with
  | 0, _ => exact fun w hw => List.mem_filter.mpr (mchk_in mclsw_0 w (List.mem_append_left _ hw))
  | 1, _ => exact fun w hw => List.mem_filter.mpr (mchk_in mclsw_1 w (List.mem_append_left _ hw))
  | 2, _ => exact fun w hw => List.mem_filter.mpr (mchk_in mclsw_2 w (List.mem_append_left _ hw))
  | 3, _ => exact fun w hw => List.mem_filter.mpr (mchk_in mclsw_3 w (List.mem_append_left _ hw))
  | 4, _ => exact fun w hw => List.mem_filter.mpr (mchk_in mclsw_4 w (List.mem_append_left _ hw))
  | 5, _ => exact fun w hw => List.mem_filter.mpr (mchk_in mclsw_5 w (List.mem_append_left _ hw))
  | 6, _ => exact fun w hw => List.mem_filter.mpr (mchk_in mclsw_6 w (List.mem_append_left _ hw))
  | 7, _ => exact fun w hw => List.mem_filter.mpr (mchk_in mclsw_7 w (List.mem_append_left _ hw))
  | 8, _ => exact fun w hw => List.mem_filter.mpr (mchk_in mclsw_8 w (List.mem_append_left _ hw))
  | 9, _ => exact fun w hw => List.mem_filter.mpr (mchk_in mclsw_9 w (List.mem_append_left _ hw))
theorem mcls_new : ∀ ci, ci < 10 → ∀ w ∈ mclsW ci, w ∈ lw_good := by
  intro ci h
  match ci, h with
  | 0, _ => exact fun w hw => List.mem_filter.mpr (mchk_in mclsw_0 w (List.mem_append_right _ hw))
  | 1, _ => exact fun w hw => List.mem_filter.mpr (mchk_in mclsw_1 w (List.mem_append_right _ hw))
  | 2, _ => exact fun w hw => List.mem_filter.mpr (mchk_in mclsw_2 w (List.mem_append_right _ hw))
  | 3, _ => exact fun w hw => List.mem_filter.mpr (mchk_in mclsw_3 w (List.mem_append_right _ hw))
  | 4, _ => exact fun w hw => List.mem_filter.mpr (mchk_in mclsw_4 w (List.mem_append_right _ hw))
  | 5, _ => exact fun w hw => List.mem_filter.mpr (mchk_in mclsw_5 w (List.mem_append_right _ hw))
  | 6, _ => exact fun w hw => List.mem_filter.mpr (mchk_in mclsw_6 w (List.mem_append_right _ hw))
  | 7, _ => exact fun w hw => List.mem_filter.mpr (mchk_in mclsw_7 w (List.mem_append_right _ hw))
  | 8, _ => exact fun w hw => List.mem_filter.mpr (mchk_in mclsw_8 w (List.mem_append_right _ hw))
  | 9, _ => exact fun w hw => List.mem_filter.mpr (mchk_in mclsw_9 w (List.mem_append_right _ hw))
theorem mcls_ty : ∀ ci, ci < 10 → ∀ k, k < mN ci → parseFieldDescriptor ((mTab ci) k).2.2.1 = some (mTy ci k) := by
  intro ci h
  match ci, h with
  | 0, _ => exact tyX0_ok
  | 1, _ => exact tyX1_ok
  | 2, _ => exact tyX2_ok
  | 3, _ => exact tyX3_ok
  | 4, _ => exact tyX4_ok
  | 5, _ => exact tyX5_ok
  | 6, _ => exact tyX6_ok
  | 7, _ => exact tyX7_ok
  | 8, _ => exact tyX8_ok
  | 9, _ => exact tyX9_ok
theorem mcls_nm : ∀ ci, ci < 10 → ∀ a, a < mN ci → ∀ b, b < mN ci → a ≠ b → ((mTab ci) a).2.1 ≠ ((mTab ci) b).2.1 := by
  intro ci h
  match ci, h with
  | 0, _ => exact nmX0
  | 1, _ => exact nmX1
  | 2, _ => exact nmX2
  | 3, _ => exact nmX3
  | 4, _ => exact nmX4
  | 5, _ => exact nmX5
  | 6, _ => exact nmX6
  | 7, _ => exact nmX7
  | 8, _ => exact nmX8
  | 9, _ => exact nmX9
theorem mcls_dc : ∀ ci, ci < 10 → ∀ k, k < mN ci → ((mTab ci) k).1 = mcn.getD ci "" := by decide +kernel
theorem mcls_ao : ∀ ci, ci = 1 ∨ ci = 3 ∨ ci = 5 → Cond.arrayOver (.object (mcn.getD ci "")) ∈ lw_tbl := by
  intro ci h
  have k1 : mchk (fun _ => true) [.arrayOver (.object "PuncturesAreViews$Rider"), .arrayOver (.object "PuncturesAreViews$Sheet"), .arrayOver (.object "PuncturesAreViews$Text")] [(1, 51), (1, 97), (1, 27)] = true := by decide +kernel
  have k2 := mchk_in k1
  rcases h with rfl | rfl | rfl
  · exact (k2 _ (List.mem_of_getElem? (i := 0) rfl)).1
  · exact (k2 _ (List.mem_of_getElem? (i := 1) rfl)).1
  · exact (k2 _ (List.mem_of_getElem? (i := 2) rfl)).1
theorem mcls_ai : Cond.arrayClass .int ∈ lw_good := by
  have k1 : mchk goodWord [.arrayClass .int] [(1, 43)] = true := by decide +kernel
  exact List.mem_filter.mpr (mchk_in k1 _ List.mem_cons_self)
def mcIW : List Cond := (List.range 14).flatMap (fun c => (mcI.getD c []).map (fun q => Cond.constant (mcn.getD c "") q.1 q.2))
def mcLW : List Cond := (List.range 14).flatMap (fun c => (mcL.getD c []).map (fun q => Cond.constantLong (mcn.getD c "") q.1 q.2))
theorem mcIW_ok : mchk goodWord mcIW [(4, 18), (6, 34)] = true := by decide +kernel
theorem mcLW_ok : mchk goodWord mcLW [(4, 23), (5, 67), (5, 68), (5, 69), (5, 74), (5, 75), (5, 76), (5, 77), (5, 78), (5, 79), (5, 84), (5, 85), (5, 86), (5, 87), (5, 88), (5, 89), (6, 39), (6, 65), (6, 66)] = true := by decide +kernel
theorem mcI_in {cn k : Nat} {q : Nat × Int32} (h : (mcI.getD cn []).find? (fun q => q.1 == k) = some q) : q.1 = k ∧ Cond.constant (mcn.getD cn "") k q.2 ∈ lw_good := by
  have h1 := List.find?_some h
  have h2 := List.mem_of_find?_eq_some h
  have h3 : q.1 = k := by simpa using h1
  have hc : cn < 14 := by
    rcases Nat.lt_or_ge cn 14 with x | x
    · exact x
    · exact absurd h2 (by rw [List.getD_eq_getElem?_getD, List.getElem?_eq_none (by simpa [mcI] using x)]; exact List.not_mem_nil)
  subst h3
  exact ⟨rfl, List.mem_filter.mpr (mchk_in mcIW_ok _ (List.mem_flatMap.mpr ⟨cn, List.mem_range.mpr hc, List.mem_map.mpr ⟨q, h2, rfl⟩⟩))⟩
theorem mcL_in {cn k : Nat} {q : Nat × Int64} (h : (mcL.getD cn []).find? (fun q => q.1 == k) = some q) : q.1 = k ∧ Cond.constantLong (mcn.getD cn "") k q.2 ∈ lw_good := by
  have h1 := List.find?_some h
  have h2 := List.mem_of_find?_eq_some h
  have h3 : q.1 = k := by simpa using h1
  have hc : cn < 14 := by
    rcases Nat.lt_or_ge cn 14 with x | x
    · exact x
    · exact absurd h2 (by rw [List.getD_eq_getElem?_getD, List.getElem?_eq_none (by simpa [mcL] using x)]; exact List.not_mem_nil)
  subst h3
  exact ⟨rfl, List.mem_filter.mpr (mchk_in mcLW_ok _ (List.mem_flatMap.mpr ⟨cn, List.mem_range.mpr hc, List.mem_map.mpr ⟨q, h2, rfl⟩⟩))⟩
