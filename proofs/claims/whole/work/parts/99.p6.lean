/-! the law: its loop, from its start (written by gen99p.py) -/
theorem d_law_18 : decode code 18 = .ok (.iload_n 3, 1) := by decide +kernel
theorem d_law_19 : decode code 19 = .ok (.aload_n 0, 1) := by decide +kernel
theorem d_law_20 : decode code 20 = .ok (.arraylength, 1) := by decide +kernel
theorem d_law_21 : decode code 21 = .ok (.bipush 6, 2) := by decide +kernel
theorem d_law_23 : decode code 23 = .ok (.isub, 1) := by decide +kernel
theorem d_law_24 : decode code 24 = .ok (.if_icmp .gt 1067, 3) := by decide +kernel
theorem d_law_27 : decode code 27 = .ok (.aload_n 0, 1) := by decide +kernel
theorem d_law_28 : decode code 28 = .ok (.iload_n 3, 1) := by decide +kernel
theorem d_law_29 : decode code 29 = .ok (.iaload, 1) := by decide +kernel
theorem d_law_30 : decode code 30 = .ok (.bipush 31, 2) := by decide +kernel
theorem d_law_32 : decode code 32 = .ok (.iand, 1) := by decide +kernel
theorem d_law_33 : decode code 33 = .ok (.tableswitch 1052 0 27 #[127, 170, 213, 246, 269, 282, 305, 328, 351, 394, 417, 440, 473, 506, 539, 562, 585, 628, 671, 704, 768, 781, 794, 817, 860, 903, 966, 1019], 127) := by decide +kernel
theorem d_law_1085 : decode code 1085 = .ok (.iinc 3 6, 3) := by decide +kernel
theorem d_law_1088 : decode code 1088 = .ok (.goto (-1070), 3) := by decide +kernel
theorem d_law_1091 : decode code 1091 = .ok (.iconst 1, 1) := by decide +kernel
theorem d_law_1092 : decode code 1092 = .ok (.ireturn, 1) := by decide +kernel
theorem d_law_0 : decode code 0 = .ok (.new 7, 3) := by decide +kernel
theorem d_law_3 : decode code 3 = .ok (.dup, 1) := by decide +kernel
theorem d_law_4 : decode code 4 = .ok (.invokespecial 9, 3) := by decide +kernel
theorem d_law_7 : decode code 7 = .ok (.astore_n 1, 1) := by decide +kernel
theorem d_law_8 : decode code 8 = .ok (.new 10, 3) := by decide +kernel
theorem d_law_11 : decode code 11 = .ok (.dup, 1) := by decide +kernel
theorem d_law_12 : decode code 12 = .ok (.invokespecial 12, 3) := by decide +kernel
theorem d_law_15 : decode code 15 = .ok (.astore_n 2, 1) := by decide +kernel
theorem d_law_16 : decode code 16 = .ok (.iconst 0, 1) := by decide +kernel
theorem d_law_17 : decode code 17 = .ok (.istore_n 3, 1) := by decide +kernel
theorem and31 (y : Int32) : ∃ k, k < 32 ∧ y &&& 31 = nI k := by
  refine ⟨(y &&& 31).toBitVec.toNat, ?_, ?_⟩
  · rw [Int32.toBitVec_and, BitVec.toNat_and]
    exact Nat.lt_of_le_of_lt Nat.and_le_right (by decide)
  · apply Int32.toBitVec_inj.mp
    show _ = (Int32.ofNat _).toBitVec
    rw [Int32.toBitVec_ofNat', BitVec.ofNat_toNat, BitVec.setWidth_eq]
theorem law_in {i L : Nat} (hL : L ≤ 3072) (hi : i ≤ 4000) (h : ¬ nI L - 6 < nI i) : i + 6 ≤ L := by
  rcases Nat.lt_or_ge L 6 with h6 | h6
  · refine absurd ?_ h
    rw [Int32.lt_iff_toInt_lt, nI_toInt (by omega)]
    have : (nI L - 6).toInt < 0 := by
      match L, h6 with
      | 0, _ => decide
      | 1, _ => decide
      | 2, _ => decide
      | 3, _ => decide
      | 4, _ => decide
      | 5, _ => decide
    omega
  · rw [show (6 : Int32) = nI 6 from rfl, q_ss h6] at h
    rcases Nat.lt_or_ge L (i + 6) with x | x
    · exact absurd ((nI_ltI (by omega) (by omega)).mpr (by omega)) h
    · exact x
section LP
variable {p : Program} {l : Launch} {e : Env} {s : State} {m : MethodId} {below : List Frame} {meth : Method} {c : Code} {b L : Nat} {xs : Nat → Int32} {D : va_G} {K : Nat → Nat} {z : Value} {q0 q1 : Nat}
set_option maxHeartbeats 4000000 in
theorem law_loop (C0 : lw_At p s m meth c b L xs) (hL : L ≤ 3072) (hC : mC (fun q => s.heap.size ≤ q) K z s s.heap) : ∀ (n i : Nat), i ≤ 4000 - 6 → L ≤ i + n → ∀ (h h2 : MH) (H : Heap) (locs : List Loc), LWd D (fun q => s.heap.size ≤ q) s z K q0 q1 h h2 H locs → REL h h2 → mhok h ∧ mhok h2 → ∀ (ls : Array Slot), lv_has ls 4 [(0, .ref b), (1, .ref q0), (2, .ref q1), (3, .int (nI i))] →
    W p l e room_1 s m #[Value.ref b] below meth c H locs 600000 7302250 (lw_Z below #[Value.ref b] s) (F0 m 18 ls []) := by
  obtain ⟨hx, hb, hr, hml, hown, hts, hX, hbl, hlocks, hgv⟩ := id C0
  have hbA : ¬ (fun q : Nat => s.heap.size ≤ q) b := Nat.not_le.mpr hbl
  have hroom : 600000 ≤ room_1.cells ∧ 7302250 ≤ room_1.slots := by decide
  intro n
  induction n with
  | zero =>
    intro i h1 h2 h h2' H locs hw hR hh ls hl
    have hS : va_S (fun q => s.heap.size ≤ q) s.heap H locs := by obtain ⟨_, _, _, _, _, _, _, _, _, _, _, _, _, x⟩ := hw; exact x
    refine lv_iload_n hx hb d_law_18 rfl (lv_at hl 3 rfl) ?_
    refine lv_aload_n hx hb d_law_19 rfl (lv_at hl 0 rfl) ?_
    refine va_slen hx hb hX hbl hbA hS d_law_20 ?_
    refine lv_bipush (v := 6) hx hb d_law_21 (by decide) ?_
    refine lv_isub hx hb d_law_23 ?_
    refine lv_icmp_gt (tgt := 1091) hx hb d_law_24 (by decide) (fun c_10 => ?_) (fun c_10 => ?_)
    · refine lv_iconst (v := 1) hx hb d_law_1091 (by decide) ?_
      refine va_forget (fun q hq => hS.2.2 q hq) ?_
      exact lw_ret hx hb hr hlocks d_law_1092
    · have := law_in hL (by omega) c_10
      exact absurd this (by omega)
  | succ n ih =>
    intro i hi hin h h2 H locs hw hR hh ls hl
    have hS : va_S (fun q => s.heap.size ≤ q) s.heap H locs := by obtain ⟨_, _, _, _, _, _, _, _, _, _, _, _, _, x⟩ := hw; exact x
    refine lv_iload_n hx hb d_law_18 rfl (lv_at hl 3 rfl) ?_
    refine lv_aload_n hx hb d_law_19 rfl (lv_at hl 0 rfl) ?_
    refine va_slen hx hb hX hbl hbA hS d_law_20 ?_
    refine lv_bipush (v := 6) hx hb d_law_21 (by decide) ?_
    refine lv_isub hx hb d_law_23 ?_
    refine lv_icmp_gt (tgt := 1091) hx hb d_law_24 (by decide) (fun c_10 => ?_) (fun c_10 => ?_)
    · refine lv_iconst (v := 1) hx hb d_law_1091 (by decide) ?_
      refine va_forget (fun q hq => hS.2.2 q hq) ?_
      exact lw_ret hx hb hr hlocks d_law_1092
    · have h6 := law_in hL (by omega) c_10
      refine lv_aload_n hx hb d_law_27 rfl (lv_at hl 0 rfl) ?_
      refine lv_iload_n hx hb d_law_28 rfl (lv_at hl 3 rfl) ?_
      refine va_sld hx hb hX hbl hbA hS (vp_in_nI (show i < L by omega) (by omega)) d_law_29 ?_
      refine lv_bipush (v := 31) hx hb d_law_30 (by decide) ?_
      refine lv_iand hx hb d_law_32 ?_
      obtain ⟨k, hk, ek⟩ := and31 (xs (nI i).toNatClampNeg)
      rw [ek]
      have kk : ∀ (h' h2' : MH) (H1 : Heap) (locs1 : List Loc), LWd D (fun q => s.heap.size ≤ q) s z K q0 q1 h' h2' H1 locs1 → REL h' h2' → mhok h' ∧ mhok h2' → W p l e room_1 s m #[Value.ref b] below meth c H1 locs1 600000 7302250 (lw_Z below #[Value.ref b] s) (F0 m 1085 ls []) := by
        intro h' h2' H1 locs1 hw1 hR1 hh1
        refine lv_iinc (v := nI (i + 6)) (lv' := [(3, .int (nI (i + 6))), (0, .ref b), (1, .ref q0), (2, .ref q1)]) hx hb d_law_1085 hl (k := 3) rfl (nI_add i 6) (by decide) rfl (fun ls hl => ?_)
        refine lv_goto (tgt := 18) hx hb d_law_1088 (by decide) ?_
        exact ih (i + 6) (by omega) (by omega) h' h2' H1 locs1 hw1 hR1 hh1 ls (lv_sub hl [1, 2, 3, 0] rfl)
      match k, hk with
      | 0, _ => exact lv_tableIn (off := 127) (tgt := 160) hx hb d_law_33 (by decide) (by decide) (by decide) (by decide) (lawc_0 C0 hL hC hl h6 hw hR hh hroom kk)
      | 1, _ => exact lv_tableIn (off := 170) (tgt := 203) hx hb d_law_33 (by decide) (by decide) (by decide) (by decide) (lawc_1 C0 hL hC hl h6 hw hR hh hroom kk)
      | 2, _ => exact lv_tableIn (off := 213) (tgt := 246) hx hb d_law_33 (by decide) (by decide) (by decide) (by decide) (lawc_2 C0 hL hC hl h6 hw hR hh hroom kk)
      | 3, _ => exact lv_tableIn (off := 246) (tgt := 279) hx hb d_law_33 (by decide) (by decide) (by decide) (by decide) (lawc_3 C0 hL hC hl h6 hw hR hh hroom kk)
      | 4, _ => exact lv_tableIn (off := 269) (tgt := 302) hx hb d_law_33 (by decide) (by decide) (by decide) (by decide) (lawc_4 C0 hL hC hl h6 hw hR hh hroom kk)
      | 5, _ => exact lv_tableIn (off := 282) (tgt := 315) hx hb d_law_33 (by decide) (by decide) (by decide) (by decide) (lawc_5 C0 hL hC hl h6 hw hR hh hroom kk)
      | 6, _ => exact lv_tableIn (off := 305) (tgt := 338) hx hb d_law_33 (by decide) (by decide) (by decide) (by decide) (lawc_6 C0 hL hC hl h6 hw hR hh hroom kk)
      | 7, _ => exact lv_tableIn (off := 328) (tgt := 361) hx hb d_law_33 (by decide) (by decide) (by decide) (by decide) (lawc_7 C0 hL hC hl h6 hw hR hh hroom kk)
      | 8, _ => exact lv_tableIn (off := 351) (tgt := 384) hx hb d_law_33 (by decide) (by decide) (by decide) (by decide) (lawc_8 C0 hL hC hl h6 hw hR hh hroom kk)
      | 9, _ => exact lv_tableIn (off := 394) (tgt := 427) hx hb d_law_33 (by decide) (by decide) (by decide) (by decide) (lawc_9 C0 hL hC hl h6 hw hR hh hroom kk)
      | 10, _ => exact lv_tableIn (off := 417) (tgt := 450) hx hb d_law_33 (by decide) (by decide) (by decide) (by decide) (lawc_10 C0 hL hC hl h6 hw hR hh hroom kk)
      | 11, _ => exact lv_tableIn (off := 440) (tgt := 473) hx hb d_law_33 (by decide) (by decide) (by decide) (by decide) (lawc_11 C0 hL hC hl h6 hw hR hh hroom kk)
      | 12, _ => exact lv_tableIn (off := 473) (tgt := 506) hx hb d_law_33 (by decide) (by decide) (by decide) (by decide) (lawc_12 C0 hL hC hl h6 hw hR hh hroom kk)
      | 13, _ => exact lv_tableIn (off := 506) (tgt := 539) hx hb d_law_33 (by decide) (by decide) (by decide) (by decide) (lawc_13 C0 hL hC hl h6 hw hR hh hroom kk)
      | 14, _ => exact lv_tableIn (off := 539) (tgt := 572) hx hb d_law_33 (by decide) (by decide) (by decide) (by decide) (lawc_14 C0 hL hC hl h6 hw hR hh hroom kk)
      | 15, _ => exact lv_tableIn (off := 562) (tgt := 595) hx hb d_law_33 (by decide) (by decide) (by decide) (by decide) (lawc_15 C0 hL hC hl h6 hw hR hh hroom kk)
      | 16, _ => exact lv_tableIn (off := 585) (tgt := 618) hx hb d_law_33 (by decide) (by decide) (by decide) (by decide) (lawc_16 C0 hL hC hl h6 hw hR hh hroom kk)
      | 17, _ => exact lv_tableIn (off := 628) (tgt := 661) hx hb d_law_33 (by decide) (by decide) (by decide) (by decide) (lawc_17 C0 hL hC hl h6 hw hR hh hroom kk)
      | 18, _ => exact lv_tableIn (off := 671) (tgt := 704) hx hb d_law_33 (by decide) (by decide) (by decide) (by decide) (lawc_18 C0 hL hC hl h6 hw hR hh hroom kk)
      | 19, _ => exact lv_tableIn (off := 704) (tgt := 737) hx hb d_law_33 (by decide) (by decide) (by decide) (by decide) (lawc_19 C0 hL hC hl h6 hw hR hh hroom kk)
      | 20, _ => exact lv_tableIn (off := 768) (tgt := 801) hx hb d_law_33 (by decide) (by decide) (by decide) (by decide) (lawc_20 C0 hL hC hl h6 hw hR hh hroom kk)
      | 21, _ => exact lv_tableIn (off := 781) (tgt := 814) hx hb d_law_33 (by decide) (by decide) (by decide) (by decide) (lawc_21 C0 hL hC hl h6 hw hR hh hroom kk)
      | 22, _ => exact lv_tableIn (off := 794) (tgt := 827) hx hb d_law_33 (by decide) (by decide) (by decide) (by decide) (lawc_22 C0 hL hC hl h6 hw hR hh hroom kk)
      | 23, _ => exact lv_tableIn (off := 817) (tgt := 850) hx hb d_law_33 (by decide) (by decide) (by decide) (by decide) (lawc_23 C0 hL hC hl h6 hw hR hh hroom kk)
      | 24, _ => exact lv_tableIn (off := 860) (tgt := 893) hx hb d_law_33 (by decide) (by decide) (by decide) (by decide) (lawc_24 C0 hL hC hl h6 hw hR hh hroom kk)
      | 25, _ => exact lv_tableIn (off := 903) (tgt := 936) hx hb d_law_33 (by decide) (by decide) (by decide) (by decide) (lawc_25 C0 hL hC hl h6 hw hR hh hroom kk)
      | 26, _ => exact lv_tableIn (off := 966) (tgt := 999) hx hb d_law_33 (by decide) (by decide) (by decide) (by decide) (lawc_26 C0 hL hC hl h6 hw hR hh hroom kk)
      | 27, _ => exact lv_tableIn (off := 1019) (tgt := 1052) hx hb d_law_33 (by decide) (by decide) (by decide) (by decide) (lawc_27 C0 hL hC hl h6 hw hR hh hroom kk)
      | 28, _ => exact lv_tableOut (tgt := 1085) hx hb d_law_33 (by decide) (by decide) (kk h h2 H locs hw hR hh)
      | 29, _ => exact lv_tableOut (tgt := 1085) hx hb d_law_33 (by decide) (by decide) (kk h h2 H locs hw hR hh)
      | 30, _ => exact lv_tableOut (tgt := 1085) hx hb d_law_33 (by decide) (by decide) (kk h h2 H locs hw hR hh)
      | 31, _ => exact lv_tableOut (tgt := 1085) hx hb d_law_33 (by decide) (by decide) (kk h h2 H locs hw hR hh)
      | k + 32, hk => exact absurd hk (by omega)
end LP
