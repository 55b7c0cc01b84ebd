/-! THE CLAIM OUT OF ONE WALK OF THE LAW'S BODY. Your part is whole_start (and what it stands on); all else here is the same for every law, but numbers. -/
def R_law : String := "PuncturesAreViewsLaw"
def lw_P (b : Addr) (xs : List Int32) (args : Array Value) (s : State) : Prop := args = #[.ref b] ∧ s.IntsAt b xs ∧ xs.length ≤ 3072 ∧ (Jvm.Cond.and given_1 narrow_1).before args s = true
def lw_Q (_ : Array Value) (s : State) (o : Outcome) (t : State) : Prop := o = .returned (some (.int 1)) ∧ Framed s o t [] 600000 7302250
def lw_Z (below : List Frame) (a : Array Value) (s : State) : State → Prop := fun t => ∃ o, t.status = .running ∧ Ended t below o ∧ lw_Q a s o t
/-- the law's own end, with 1 on the stack, nothing written that was there before, its room as the claim has it -/
theorem lw_ret {p : Program} {l : Launch} {e : Env} {s : State} {m : MethodId} {below : List Frame} {meth : Method} {c : Code} {b : Nat} (hx : p.tables.exec = Jvm.exec) (hb : c.code = code) (hr : meth.sig.returnType = ret) (hlocks : meth.locks = false) {pc : Nat} {H : Heap} {ls : Array Slot} (hdg : decode code pc = .ok (.ireturn, 1)) : W p l e room_1 s m #[Value.ref b] below meth c H [] 600000 7302250 (lw_Z below #[Value.ref b] s) (F0 m pc ls [.int 1]) := by
  intro T hT X
  obtain ⟨fs, hret, hrun, hended, hW, hframe⟩ := X.leave (v := some (.int 1)) (hlocks := hlocks) (fun h => by rw [hr] at h; cases h)
  have hmeth' : T.vm.method? m = some meth := X.method'
  refine ⟨T.setFrames fs, ?_, .returned (some (.int 1)), hrun, hended, rfl, ⟨_, rfl⟩, hW, hframe⟩
  jvm_step X.here [X.here.top, hx, hb, hdg, hmeth', hr, ret, narrow_b1]
  (try refine ⟨rfl, ?_⟩); (try refine ⟨rfl, ?_⟩)
  first | (intro acts; rw [hret _ acts rfl rfl rfl]) | rw [hret _ _ rfl rfl rfl]
  exact Steps.refl _
/-- what holds at the law's entry: the machine, the code, the tables' words (any of lw_tbl by 'hts w (by decide +kernel)'), the script of L ints xs at the cell b, what the Statement gives of the start (any of its parts by flat_of_before) -/
def lw_At (p : Program) (s : State) (m : MethodId) (meth : Method) (c : Code) (b L : Nat) (xs : Nat → Int32) : Prop :=
  p.tables.exec = Jvm.exec ∧ c.code = code ∧ meth.sig.returnType = ret ∧ c.maxLocals = 4 ∧ s.vm.findClass R_law = some m.cls ∧ (∀ w ∈ lw_tbl, w.before #[Value.ref b] s = true) ∧ va_X b L xs s s.heap ∧ b < s.heap.size ∧ meth.locks = false ∧ (Jvm.Cond.and given_1 narrow_1).before #[Value.ref b] s = true
/-! what the Statement gives of the start: the constants -/
def lwF : List Cond := flatC (Jvm.Cond.and given_1 narrow_1)
def lwT (i : Nat) : Term := if i = 0 then .string "PuncturesAreViews" 68 else if i = 1 then .string "PuncturesAreViews$Tokens" 65 else .string "PuncturesAreViews$Tokens" 81
def lwB (i : Nat) : Nat := if i = 0 then 57 else if i = 1 then 100 else 201
theorem lwF_1 : ∀ i, i < 3 → lwF[lwB i]? = some (Cond.exactly (lwT i) "java/lang/String") ∧ lwF[lwB i + 1]? = some (Cond.eq (.field (lwT i) "java/lang/String" "coder" "B") (.int 0)) ∧ lwF[lwB i + 2]? = some (Cond.arrayOf (.field (lwT i) "java/lang/String" "value" "[B") .byte) ∧ lwF[lwB i + 3]? = some (Cond.eq (.length (.field (lwT i) "java/lang/String" "value" "[B")) (.int (Int32.ofNat ((mS.map List.length).getD i 0)))) := by decide +kernel
theorem lwF_2 : ∀ i, i < 3 → ∀ j, j < (mS.map List.length).getD i 0 → lwF[lwB i + 4 + j]? = some (Cond.eq (.elem (.field (lwT i) "java/lang/String" "value" "[B") (.int (Int32.ofNat j))) (.int ((mS.getD i []).getD j 0))) := by decide +kernel
theorem lwF_3 : lwF[200]? = some (Cond.not (Cond.eq (lwT 0) (lwT 1))) ∧ lwF[213]? = some (Cond.not (Cond.eq (lwT 0) (lwT 2))) ∧ lwF[214]? = some (Cond.not (Cond.eq (lwT 1) (lwT 2))) := by decide +kernel
theorem lwF_4 : lwF[4]? = some (Cond.eq (.static "java/lang/String" "COMPACT_STRINGS" "Z") (.int 1)) ∧ lwF[5]? = some (Cond.isRef (.static "jdk/internal/util/Preconditions" "SIOOBE_FORMATTER" "Ljava/util/function/BiFunction;")) ∧ lwF[10]? = some (Cond.arrayOf (.static "PuncturesAreViews" "MOST_OF" "[I") .int) ∧ lwF[11]? = some (Cond.eq (.length (.static "PuncturesAreViews" "MOST_OF" "[I")) (.int 6)) ∧ lwF[19]? = some (Cond.arrayOf (.static "PuncturesAreViews" "UNDER" "[I") .int) ∧ lwF[20]? = some (Cond.eq (.length (.static "PuncturesAreViews" "UNDER" "[I")) (.int 6)) := by decide +kernel
theorem lwF_5 : ∀ j, j < 6 → lwF[12 + j]? = some (Cond.eq (.elem (.static "PuncturesAreViews" "MOST_OF" "[I") (.int (Int32.ofNat j))) (.int ((mCI 1000).getD j 0))) ∧ lwF[21 + j]? = some (Cond.eq (.elem (.static "PuncturesAreViews" "UNDER" "[I") (.int (Int32.ofNat j))) (.int ((mCI 1001).getD j 0))) := by decide +kernel
theorem lw_wds : mchk (fun _ => true) [.laysStatic "PuncturesAreViews" "MOST_OF" "[I", .laysStatic "PuncturesAreViews" "UNDER" "[I", .laysStatic "java/lang/String" "COMPACT_STRINGS" "Z", .laysStatic "jdk/internal/util/Preconditions" "SIOOBE_FORMATTER" "Ljava/util/function/BiFunction;", .initialized "PuncturesAreViews", .initialized "java/lang/String", .initialized "jdk/internal/util/Preconditions",
    .stringRef "PuncturesAreViews" 68 "lets thought * 7 ; holds 40 ; pumps 1 ;", .stringRef "PuncturesAreViews$Tokens" 65 "thought air     number  at      patches day     lets    holds   pumps   or      and     not     ", .stringRef "PuncturesAreViews$Tokens" 81 "();+-*<="] [(2, 237), (4, 74), (1, 194), (1, 210), (1, 1), (1, 9), (1, 11), (1, 184), (2, 23), (2, 48)] = true := by decide +kernel
theorem lw_w {k : Nat} {w : Cond} {ws : List Cond} {ps : List (Nat × Nat)} {ok : Cond → Bool} (h : mchk ok ws ps = true) (hk : ws[k]? = some w) : w ∈ lw_tbl := (mchk_in h w (List.mem_of_getElem? hk)).1
theorem lw_mC {s : State} {b : Nat} (hts : ∀ w ∈ lw_tbl, w.before #[Value.ref b] s = true) (hgv : (Jvm.Cond.and given_1 narrow_1).before #[Value.ref b] s = true) : ∃ (K : Nat → Nat) (z : Value), mC (fun q => s.heap.size ≤ q) K z s s.heap := by
  have hs := flat_of_before _ hgv
  have at' : ∀ (i : Nat) (c : Cond), lwF[i]? = some c → c.before #[Value.ref b] s = true := fun i c h => hs c (List.mem_of_getElem? h)
  have hA : ∀ a : Nat, a < s.heap.size → ¬ (fun q : Nat => s.heap.size ≤ q) a := fun a h => Nat.not_le.mpr h
  have i0 := hts _ (lw_w (k := 4) lw_wds rfl)
  obtain ⟨f1, f2, f3, f4, f5, f6⟩ := lwF_4
  obtain ⟨t0, e0, T0⟩ := va_Tof (f := fun j => .int ((mCI 1000).getD j 0)) (A := fun q => s.heap.size ≤ q) (N := 6) (by decide) (at' _ _ f3) (va_eqt (at' _ _ f4)) (fun j hj => va_eqt (at' _ _ (lwF_5 j hj).1)) hA
  obtain ⟨t1, e1, T1⟩ := va_Tof (f := fun j => .int ((mCI 1001).getD j 0)) (A := fun q => s.heap.size ≤ q) (N := 6) (by decide) (at' _ _ f5) (va_eqt (at' _ _ f6)) (fun j hj => va_eqt (at' _ _ (lwF_5 j hj).2)) hA
  have Z0 := va_Zof (A := fun q => s.heap.size ≤ q) (hts _ (lw_w (k := 0) lw_wds rfl)) i0 e0 hA
  have Z1 := va_Zof (A := fun q => s.heap.size ≤ q) (hts _ (lw_w (k := 1) lw_wds rfl)) i0 e1 hA
  have Z2 := va_Zof (A := fun q => s.heap.size ≤ q) (hts _ (lw_w (k := 2) lw_wds rfl)) (hts _ (lw_w (k := 5) lw_wds rfl)) (va_eqi (at' _ _ f1)) hA
  have Z3 := va_Zqof (A := fun q => s.heap.size ≤ q) (hts _ (lw_w (k := 3) lw_wds rfl)) (hts _ (lw_w (k := 6) lw_wds rfl)) (at' _ _ f2) hA
  obtain ⟨z, Z3, hz⟩ : ∃ z, va_Z "jdk/internal/util/Preconditions" "SIOOBE_FORMATTER" "Ljava/util/function/BiFunction;" z (fun q => s.heap.size ≤ q) s s.heap ∧ mzok z := by
    rcases Z3 with h | ⟨t, h⟩
    · exact ⟨_, h, Or.inl rfl⟩
    · exact ⟨_, h, Or.inr ⟨t, rfl⟩⟩
  obtain ⟨adK, adV, hS, hR⟩ := vk_Sof (args := #[Value.ref b]) (s := s) (N := 3) (tm := lwT) (len := mS.map List.length) (byt := mS) (A := fun q => s.heap.size ≤ q) (by decide +kernel) (fun i hi => at' _ _ (lwF_1 i hi).1) (fun i hi => at' _ _ (lwF_1 i hi).2.1) (fun i hi => at' _ _ (lwF_1 i hi).2.2.1) (fun i hi => at' _ _ (lwF_1 i hi).2.2.2) (fun i hi j hj => at' _ _ (lwF_2 i hi j hj))
    (fun i j hi hj hne => by
      obtain ⟨g1, g2, g3⟩ := lwF_3
      match i, j, hi, hj, hne with
      | 0, 0, _, _, h => exact absurd rfl h
      | 1, 1, _, _, h => exact absurd rfl h
      | 2, 2, _, _, h => exact absurd rfl h
      | 0, 1, _, _, _ => exact Or.inl (at' _ _ g1)
      | 0, 2, _, _, _ => exact Or.inl (at' _ _ g2)
      | 1, 2, _, _, _ => exact Or.inl (at' _ _ g3)
      | 1, 0, _, _, _ => exact Or.inr (at' _ _ g1)
      | 2, 0, _, _, _ => exact Or.inr (at' _ _ g2)
      | 2, 1, _, _, _ => exact Or.inr (at' _ _ g3)) hA
  refine ⟨fun k => if k = 1000 then t0 else if k = 1001 then t1 else if 1020 ≤ k then adV (k - 1020) else adK (k - 1010), z, ?_⟩
  have kS : ∀ i : Nat, i < 3 → (if 1010 + i = 1000 then t0 else if 1010 + i = 1001 then t1 else if 1020 ≤ 1010 + i then adV (1010 + i - 1020) else adK (1010 + i - 1010)) = adK i := by
    intro i hi
    rw [if_neg (by omega), if_neg (by omega), if_neg (by omega), Nat.add_sub_cancel_left]
  have vS : ∀ i : Nat, (if 1020 + i = 1000 then t0 else if 1020 + i = 1001 then t1 else if 1020 ≤ 1020 + i then adV (1020 + i - 1020) else adK (1020 + i - 1010)) = adV i := by
    intro i
    rw [if_neg (by omega), if_neg (by omega), if_pos (by omega), Nat.add_sub_cancel_left]
  refine ⟨fun w hw => ?_, Z0, Z1, Z2, ⟨Z3, hz⟩, T0, T1, ⟨fun i hi => ?_, fun i j hi hj e => ?_⟩, ⟨?_, ?_, ?_⟩, fun ci hci => va_AO.of (hts _ (mcls_ao ci hci))⟩
  · have hwt := hts w (List.mem_filter.mp hw).1
    rcases mnest_shape w hw with ⟨a, i, y, h, rfl⟩ | ⟨a, i, b', n, d, h, rfl⟩
    · exact va_tabs rfl rfl hwt
    · exact va_tabs rfl rfl hwt
  · have := hS.1 i hi
    simp only [kS i hi, vS i]
    exact this
  · exact hS.2 i j hi hj ((kS i hi).symm.trans (Eq.trans e (kS j hj)))
  · exact vk_R.of (hts _ (lw_w (k := 7) lw_wds rfl)) (by have := hR 0 (by omega); exact this)
  · exact vk_R.of (hts _ (lw_w (k := 8) lw_wds rfl)) (by have := hR 1 (by omega); exact this)
  · exact vk_R.of (hts _ (lw_w (k := 9) lw_wds rfl)) (by have := hR 2 (by omega); exact this)
