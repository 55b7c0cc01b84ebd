/-! one case of the law's switch -/
def lawArgB (pc j : Nat) : Bool := decide (decode code pc = .ok (.aload_n 0, 1)) && (decide (decode code (pc + 1) = .ok (.iload_n 3, 1)) && (decide (decode code (pc + 2) = .ok (.iconst (j : Int), 1)) && (decide (decode code (pc + 3) = .ok (.iadd, 1)) && decide (decode code (pc + 4) = .ok (.iaload, 1)))))
def lawArgsB : Nat → Nat → Nat → Bool
  | _, _, 0 => true
  | pc, j, n + 1 => lawArgB pc j && lawArgsB (pc + 5) (j + 1) n
def lvals (xs : Nat → Int32) (i : Nat) : Nat → Nat → List Value
  | _, 0 => []
  | j, n + 1 => .int (xs (i + j)) :: lvals xs i (j + 1) n
theorem lvals_int {xs : Nat → Int32} {i : Nat} : ∀ (n j : Nat), ∀ a ∈ lvals xs i j n, ∃ x, a = .int x := by
  intro n
  induction n with
  | zero => intro j a h; cases h
  | succ n ih =>
    intro j a h
    rcases List.mem_cons.mp h with rfl | h
    · exact ⟨_, rfl⟩
    · exact ih _ a h
theorem lvals_len {xs : Nat → Int32} {i : Nat} : ∀ (n j : Nat), (lvals xs i j n).length = n := by
  intro n
  induction n with
  | zero => intro j; rfl
  | succ n ih => intro j; show (lvals xs i (j + 1) n).length + 1 = n + 1; rw [ih]
def lawCaseB (pc a ic im : Nat) (off : Int) : Bool := decide (decode code pc = .ok (.aload_n 1, 1)) && (lawArgsB (pc + 1) 1 a && (decide (decode code (pc + 1 + 5 * a) = .ok (.invokevirtual ic, 3)) && (decide (decode code (pc + 1 + 5 * a + 3) = .ok (.aload_n 2, 1)) && (lawArgsB (pc + 1 + 5 * a + 3 + 1) 1 a && (decide (decode code (pc + 1 + 5 * a + 3 + 1 + 5 * a) = .ok (.invokevirtual im, 3)) && (decide (decode code (pc + 1 + 5 * a + 3 + 1 + 5 * a + 3) = .ok (.if_icmp .eq off, 3)) && decide (((pc + 1 + 5 * a + 3 + 1 + 5 * a + 3 : Nat) : Int) + off = ((1085 : Nat) : Int))))))))
def lawCaseL (pc a ic im : Nat) (off : Int) : Bool := decide (decode code pc = .ok (.aload_n 1, 1)) && (lawArgsB (pc + 1) 1 a && (decide (decode code (pc + 1 + 5 * a) = .ok (.invokevirtual ic, 3)) && (decide (decode code (pc + 1 + 5 * a + 3) = .ok (.aload_n 2, 1)) && (lawArgsB (pc + 1 + 5 * a + 3 + 1) 1 a && (decide (decode code (pc + 1 + 5 * a + 3 + 1 + 5 * a) = .ok (.invokevirtual im, 3)) && (decide (decode code (pc + 1 + 5 * a + 3 + 1 + 5 * a + 3) = .ok (.lcmp, 1)) && (decide (decode code (pc + 1 + 5 * a + 3 + 1 + 5 * a + 3 + 1) = .ok (.ifCond .eq off, 3)) && decide (((pc + 1 + 5 * a + 3 + 1 + 5 * a + 3 + 1 : Nat) : Int) + off = ((1085 : Nat) : Int)))))))))
theorem REL_cls {hC hM : MH} (h : REL hC hM) : (∃ fs, hC[0]? = some (.inl (8, fs))) ∧ (∃ fs, hM[0]? = some (.inl (9, fs))) ∧ hC.length = 65 ∧ hM.length = 23 := by
  obtain ⟨I, V, L, A, I', V', L', A', nt, W, many, R, th, day, rl, e, ec, em, -⟩ := h
  have c0 : ∃ cs, cSh[0]? = some (.inl (8, cs)) := ⟨_, rfl⟩
  have m0 : ∃ cs, dSh[0]? = some (.inl (9, cs)) := ⟨_, rfl⟩
  obtain ⟨cs, c0⟩ := c0
  obtain ⟨ds, m0⟩ := m0
  rw [ec, em]
  exact ⟨⟨_, mkH_at c0⟩, ⟨_, mkH_at m0⟩, mkH_len.trans (by decide), mkH_len.trans (by decide)⟩
section LC
variable {p : Program} {l : Launch} {e : Env} {s : State} {m : MethodId} {below : List Frame} {meth : Method} {c : Code} {b L : Nat} {xs : Nat → Int32} {Q : State → Prop} {D : va_G} {K : Nat → Nat} {z : Value} {q0 q1 : Nat} {h h2 : MH} {H : Heap} {locs : List Loc} {cells slots : Nat}
theorem law_args (C0 : lw_At p s m meth c b L xs) (hL : L ≤ 3072) (hS : va_S (fun q => s.heap.size ≤ q) s.heap H locs) {ls : Array Slot} {i : Nat} (hl : lv_has ls 4 [(0, .ref b), (1, .ref q0), (2, .ref q1), (3, .int (nI i))]) : ∀ (n pc j : Nat) (st : List Value), lawArgsB pc j n = true → i + j + n ≤ L →
    W p l e room_1 s m #[Value.ref b] below meth c H locs cells slots Q (F0 m (pc + 5 * n) ls ((lvals xs i j n).reverse ++ st)) → W p l e room_1 s m #[Value.ref b] below meth c H locs cells slots Q (F0 m pc ls st) := by
  obtain ⟨hx, hb, hr, hml, hown, hts, hX, hbl, hlocks, hgv⟩ := id C0
  have hbA : ¬ (fun q : Nat => s.heap.size ≤ q) b := Nat.not_le.mpr hbl
  intro n
  induction n with
  | zero => intro pc j st _ _ kk; exact kk
  | succ n ih =>
    intro pc j st hc hi kk
    simp only [lawArgsB, lawArgB, Bool.and_eq_true, decide_eq_true_eq] at hc
    obtain ⟨⟨d0, d1, d2, d3, d4⟩, hc⟩ := hc
    refine lv_aload_n hx hb d0 rfl (lv_at hl 0 rfl) ?_
    refine lv_iload_n hx hb d1 rfl (lv_at hl 3 rfl) ?_
    refine lv_iconst (v := nI j) hx hb d2 rfl ?_
    refine lv_iadd hx hb d3 ?_
    rw [nI_add]
    refine va_sld hx hb hX hbl hbA hS (vp_in_nI (show i + j < L by omega) (by omega)) d4 ?_
    rw [nI_clamp (show i + j < 2 ^ 31 by omega)]
    refine ih (pc + 5) (j + 1) (.int (xs (i + j)) :: st) hc (by omega) ?_
    have e1 : (lvals xs i j (n + 1)).reverse ++ st = (lvals xs i (j + 1) n).reverse ++ (.int (xs (i + j)) :: st) := by
      show (Value.int (xs (i + j)) :: lvals xs i (j + 1) n).reverse ++ st = _
      rw [List.reverse_cons, List.append_assoc]
      rfl
    rw [← e1, show pc + 5 + 5 * n = pc + 5 * (n + 1) by omega]
    exact kk
/-- what the words say of one of the law's calls -/
def lawW (idx : Nat) (q : MI) : Prop := Cond.methodLink R_law idx q.1 ∈ lw_tbl ∧ Cond.instanceMethod q.1 ∈ lw_tbl ∧ Cond.selects q.1.cls q.1 q.1 ∈ lw_tbl
theorem law_case {pc a ic im kc km : Nat} {off : Int} {qc qm : MI} (C0 : lw_At p s m meth c b L xs) (hL : L ≤ 3072) (hC : mC (fun q => s.heap.size ≤ q) K z s s.heap) (hB : lawCaseB pc a ic im off = true) (hqc : mtab[kc]? = some qc) (hqm : mtab[km]? = some qm) (hret : qc.2.2.2.1 = some .int) (hcl : qc.2.2.2.2.1 = 8 ∧ qm.2.2.2.2.1 = 9) (hn : a = qc.2.2.2.2.2 ∧ a = qm.2.2.2.2.2) (hwc : lawW ic qc) (hwm : lawW im qm)
    {ls : Array Slot} {i : Nat} (hl : lv_has ls 4 [(0, .ref b), (1, .ref q0), (2, .ref q1), (3, .int (nI i))]) (hi : i + 6 ≤ L) (ha : a ≤ 5) (hw : LWd D (fun q => s.heap.size ≤ q) s z K q0 q1 h h2 H locs) (hR : REL h h2) (hh : mhok h ∧ mhok h2) (hJ : JR 90 kc km (lvals xs i 1 a) h h2) (hroom : cells ≤ room_1.cells ∧ slots ≤ room_1.slots)
    (kk : ∀ (h' h2' : MH) (H1 : Heap) (locs1 : List Loc), LWd D (fun q => s.heap.size ≤ q) s z K q0 q1 h' h2' H1 locs1 → REL h' h2' → mhok h' ∧ mhok h2' → W p l e room_1 s m #[Value.ref b] below meth c H1 locs1 cells slots Q (F0 m 1085 ls [])) :
    W p l e room_1 s m #[Value.ref b] below meth c H locs cells slots Q (F0 m pc ls []) := by
  have hS0 : va_S (fun q => s.heap.size ≤ q) s.heap H locs := by obtain ⟨_, _, _, _, _, _, _, _, _, _, _, _, _, x⟩ := hw; exact x
  obtain ⟨hx, hb, hr, hml, hown, hts, hX, hbl, hlocks, hgv⟩ := id C0
  have hA : ∀ q : Nat, s.heap.size ≤ q → (fun q : Nat => s.heap.size ≤ q) q := fun _ h => h
  have hf : CallFix p m c code 4 s #[Value.ref b] lw_tbl R_law := ⟨hx, hb, hml, hown, hts⟩
  simp only [lawCaseB, Bool.and_eq_true, decide_eq_true_eq] at hB
  obtain ⟨d0, ca, d1, d2, cb, d3, d4, ht⟩ := hB
  obtain ⟨n, v, h', E, n', v', h2', E', hv, hR'⟩ := hJ
  obtain ⟨⟨fs, hr0⟩, ⟨fs2, hr2⟩, len1, len2⟩ := REL_cls hR
  obtain ⟨-, -, len1', len2'⟩ := REL_cls hR'
  obtain ⟨x, rfl⟩ := (mcall_ans E hqc).1 hret
  subst hv
  have hcon : 91 ≤ room_1.frames ∧ 60 * 91 ≤ room_1.locals := by decide
  have hok := fun (h : MH) (h0 : 0 < h.length) => (show ∀ w ∈ Value.ref 0 :: lvals xs i 1 a, mvok h.length w from fun w hw => by
    rcases List.mem_cons.mp hw with rfl | hw
    · exact mvok_lt h0
    · obtain ⟨y, rfl⟩ := lvals_int a 1 w hw
      exact mvok_int)
  have k1 := (mcall_ok 90 n _ _ _ _ _ E hh.1 (hok h (by omega))).2.1
  have k2 := (mcall_ok 90 n' _ _ _ _ _ E' hh.2 (hok h2 (by omega))).2.1
  have hlr : (lvals xs i 1 a).reverse ++ [Value.ref q0] = (lvals xs i 1 a).reverse ++ .ref q0 :: [] := rfl
  refine lv_aload_n hx hb d0 rfl (lv_at hl 1 rfl) ?_
  refine law_args C0 hL hS0 hl a (pc + 1) 1 [.ref q0] ca (by omega) ?_
  refine lw_callV hf hC hA hw E hqc hh.1 hr0 ⟨by omega, hcl.1⟩ (lvals_int a 1) (fun _ => rfl) ((lvals_len a 1).trans hn.1) hwc.1 hwc.2.1 hwc.2.2 hcon d1 (by decide) hl.1 (by omega) hroom (fun H1 locs1 hw1 => ?_)
  have hS1 : va_S (fun q => s.heap.size ≤ q) s.heap H1 locs1 := by obtain ⟨_, _, _, _, _, _, _, _, _, _, _, _, _, x⟩ := hw1; exact x
  refine lv_aload_n hx hb d2 rfl (lv_at hl 2 rfl) ?_
  refine law_args C0 hL hS1 hl a (pc + 1 + 5 * a + 3 + 1) 1 [.ref q1, .int x] cb (by omega) ?_
  refine lw_callV hf hC hA (LWd_swap hw1) E' hqm hh.2 hr2 ⟨by omega, hcl.2⟩ (lvals_int a 1) (fun _ => rfl) ((lvals_len a 1).trans hn.2) hwm.1 hwm.2.1 hwm.2.2 hcon d3 (Nat.le_of_ble_eq_true rfl) hl.1 (by omega) hroom (fun H2 locs2 hw2 => ?_)
  refine lv_icmp_eq (tgt := 1085) hx hb d4 ht (fun _ => kk h' h2' H2 locs2 (LWd_swap hw2) hR' ⟨k1, k2⟩) (fun hne => absurd rfl hne)
theorem law_caseL {pc a ic im kc km : Nat} {off : Int} {qc qm : MI} (C0 : lw_At p s m meth c b L xs) (hL : L ≤ 3072) (hC : mC (fun q => s.heap.size ≤ q) K z s s.heap) (hB : lawCaseL pc a ic im off = true) (hqc : mtab[kc]? = some qc) (hqm : mtab[km]? = some qm) (hret : qc.2.2.2.1 = some .long ∧ ∀ pc, mfetch qc.2.1 pc ≠ some .ireturn) (hcl : qc.2.2.2.2.1 = 8 ∧ qm.2.2.2.2.1 = 9) (hn : a = qc.2.2.2.2.2 ∧ a = qm.2.2.2.2.2) (hwc : lawW ic qc) (hwm : lawW im qm)
    {ls : Array Slot} {i : Nat} (hl : lv_has ls 4 [(0, .ref b), (1, .ref q0), (2, .ref q1), (3, .int (nI i))]) (hi : i + 6 ≤ L) (ha : a ≤ 5) (hw : LWd D (fun q => s.heap.size ≤ q) s z K q0 q1 h h2 H locs) (hR : REL h h2) (hh : mhok h ∧ mhok h2) (hJ : JR 90 kc km (lvals xs i 1 a) h h2) (hroom : cells ≤ room_1.cells ∧ slots ≤ room_1.slots)
    (kk : ∀ (h' h2' : MH) (H1 : Heap) (locs1 : List Loc), LWd D (fun q => s.heap.size ≤ q) s z K q0 q1 h' h2' H1 locs1 → REL h' h2' → mhok h' ∧ mhok h2' → W p l e room_1 s m #[Value.ref b] below meth c H1 locs1 cells slots Q (F0 m 1085 ls [])) :
    W p l e room_1 s m #[Value.ref b] below meth c H locs cells slots Q (F0 m pc ls []) := by
  have hS0 : va_S (fun q => s.heap.size ≤ q) s.heap H locs := by obtain ⟨_, _, _, _, _, _, _, _, _, _, _, _, _, x⟩ := hw; exact x
  obtain ⟨hx, hb, hr, hml, hown, hts, hX, hbl, hlocks, hgv⟩ := id C0
  have hA : ∀ q : Nat, s.heap.size ≤ q → (fun q : Nat => s.heap.size ≤ q) q := fun _ h => h
  have hf : CallFix p m c code 4 s #[Value.ref b] lw_tbl R_law := ⟨hx, hb, hml, hown, hts⟩
  simp only [lawCaseL, Bool.and_eq_true, decide_eq_true_eq] at hB
  obtain ⟨d0, ca, d1, d2, cb, d3, d4, d5, ht⟩ := hB
  obtain ⟨n, v, h', E, n', v', h2', E', hv, hR'⟩ := hJ
  obtain ⟨⟨fs, hr0⟩, ⟨fs2, hr2⟩, len1, len2⟩ := REL_cls hR
  obtain ⟨-, -, len1', len2'⟩ := REL_cls hR'
  obtain ⟨x, rfl⟩ := (mcall_ans E hqc).2 hret
  subst hv
  have hcon : 91 ≤ room_1.frames ∧ 60 * 91 ≤ room_1.locals := by decide
  have hok := fun (h : MH) (h0 : 0 < h.length) => (show ∀ w ∈ Value.ref 0 :: lvals xs i 1 a, mvok h.length w from fun w hw => by
    rcases List.mem_cons.mp hw with rfl | hw
    · exact mvok_lt h0
    · obtain ⟨y, rfl⟩ := lvals_int a 1 w hw
      exact mvok_int)
  have k1 := (mcall_ok 90 n _ _ _ _ _ E hh.1 (hok h (by omega))).2.1
  have k2 := (mcall_ok 90 n' _ _ _ _ _ E' hh.2 (hok h2 (by omega))).2.1
  refine lv_aload_n hx hb d0 rfl (lv_at hl 1 rfl) ?_
  refine law_args C0 hL hS0 hl a (pc + 1) 1 [.ref q0] ca (by omega) ?_
  refine lw_callV hf hC hA hw E hqc hh.1 hr0 ⟨by omega, hcl.1⟩ (lvals_int a 1) (fun _ => rfl) ((lvals_len a 1).trans hn.1) hwc.1 hwc.2.1 hwc.2.2 hcon d1 (by decide) hl.1 (by omega) hroom (fun H1 locs1 hw1 => ?_)
  have hS1 : va_S (fun q => s.heap.size ≤ q) s.heap H1 locs1 := by obtain ⟨_, _, _, _, _, _, _, _, _, _, _, _, _, x⟩ := hw1; exact x
  refine lv_aload_n hx hb d2 rfl (lv_at hl 2 rfl) ?_
  refine law_args C0 hL hS1 hl a (pc + 1 + 5 * a + 3 + 1) 1 [.ref q1, .long x] cb (by omega) ?_
  refine lw_callV hf hC hA (LWd_swap hw1) E' hqm hh.2 hr2 ⟨by omega, hcl.2⟩ (lvals_int a 1) (fun _ => rfl) ((lvals_len a 1).trans hn.2) hwm.1 hwm.2.1 hwm.2.2 hcon d3 (Nat.le_of_ble_eq_true rfl) hl.1 (by omega) hroom (fun H2 locs2 hw2 => ?_)
  refine W.lcmp hx hb d4 ?_
  refine lv_if_eq (tgt := 1085) hx hb d5 ht (fun _ => kk h' h2' H2 locs2 (LWd_swap hw2) hR' ⟨k1, k2⟩) (fun hne => absurd ?_ hne)
  simp [lg_cmp]
end LC
