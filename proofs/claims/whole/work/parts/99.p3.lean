/-! steps of the law: a new object, the answer's sort, the script's numbers on the stack -/
theorem mhok_new {ci : Nat} : mhok [mnew ci] := by
  refine ⟨by show 1 ≤ 900; omega, fun c hc => ?_⟩
  rw [List.mem_singleton.mp hc]
  intro v hv
  obtain ⟨k, -, rfl⟩ := List.mem_map.mp hv
  exact mvok_df
theorem mre_df {X : Nat → Nat} {z : Value} (t : FieldType) : mre X z (defaultValue t) = defaultValue t := by cases t <;> rfl
theorem mnew_re {X : Nat → Nat} {z : Value} {ci : Nat} : ((List.range (mN ci)).map (fun k => defaultValue (mTy ci k))).map (mre X z) = (List.range (mN ci)).map (fun k => defaultValue (mTy ci k)) := by
  rw [List.map_map]
  exact List.map_congr_left (fun k _ => mre_df _)
/-- behind the code nothing is read -/
theorem u1_end {b : ByteArray} {pc : Nat} (h : b.size ≤ pc) (f : Nat → Jvm.ClassFile.Decoder Instr) : ∃ e, Jvm.ClassFile.Reader.runAt (Jvm.ClassFile.Reader.u1 >>= f) b pc = .error e := by
  have h1 : ¬ pc < b.size := Nat.not_lt.mpr h
  refine ⟨Jvm.ClassFile.HasTruncated.truncated pc, ?_⟩
  simp only [Jvm.ClassFile.Reader.runAt, Jvm.ClassFile.Reader.u1, ReaderT.run, StateT.run, bind, ReaderT.bind, StateT.bind, Except.bind, MonadReader.read, readThe, MonadReaderOf.read, ReaderT.read, get, getThe, MonadStateOf.get, StateT.get, liftM, monadLift, MonadLift.monadLift, StateT.lift, Pure.pure, StateT.pure, ReaderT.pure, Except.pure, dif_neg h1, throw, throwThe, MonadExceptOf.throw, Function.comp]
theorem mfetch_end {b : ByteArray} {pc : Nat} (h : b.size ≤ pc) : mfetch b pc = none := by
  have : ∃ e, decode b pc = .error e := by
    unfold decode Jvm.ClassFile.Decoder.instr
    obtain ⟨e, he⟩ := u1_end h _
    exact ⟨e, by rw [he]; rfl⟩
  obtain ⟨e, he⟩ := this
  unfold mfetch
  rw [he]
/-- what a method answers is of its sort -/
def mAns (q : MI) (v : Option Value) : Prop := (q.2.2.2.1 = some .int → ∃ x, v = some (.int x)) ∧ ((q.2.2.2.1 = some .long ∧ ∀ pc, mfetch q.2.1 pc ≠ some .ireturn) → ∃ x, v = some (.long x))
theorem mloop_ans {call : MCall} {q : MI} : ∀ (n : Nat) (fr : MF) (h : MH) (v : Option Value) (h' : MH), mloop call q n fr h = some (v, h') → mAns q v := by
  intro n
  induction n with
  | zero => intro fr h v h' e; cases e
  | succ n ih =>
    intro fr h v h' e
    simp only [mloop] at e
    split at e
    · cases e
    · rename_i i hf
      split at e
      · cases e
      · exact ih _ _ _ _ e
      · rename_i r hst
        cases e
        rcases mstep_nr hst with ⟨x, hx⟩ | ⟨v', hx, hr⟩ | ⟨idx, i0, id, md, hl, hi, hm⟩
        · cases hx
        · cases hx
          rcases hr with ⟨rfl, x, t, -, -, -, rfl⟩ | ⟨-, x, -, hrt, rfl⟩ | ⟨-, w, t, -, hrt, -, rfl⟩ | ⟨-, -, hrt, rfl⟩
          · exact ⟨fun _ => ⟨x, rfl⟩, fun hrt => absurd hf (hrt.2 _)⟩
          · exact ⟨fun h2 => absurd (hrt.symm.trans h2) (by decide), fun _ => ⟨x, rfl⟩⟩
          · refine ⟨fun h2 => ?_, fun h2 => ?_⟩
            · have h3 := hrt.symm.trans h2
              cases h3
            · have h3 := hrt.symm.trans h2.1
              cases h3
          · refine ⟨fun h2 => ?_, fun h2 => ?_⟩
            · have h3 := hrt.symm.trans h2
              cases h3
            · have h3 := hrt.symm.trans h2.1
              cases h3
        · obtain ⟨_, _, _, _, _, _, ⟨-, -, ho⟩ | ⟨-, _, -, -, ho⟩⟩ := minv_inv hm <;> cases ho
      · split at e
        · cases e
        · exact ih _ _ _ _ e
theorem mcall_ans {d n k : Nat} {as : List Value} {h h' : MH} {v : Option Value} {q : MI} (E : mcall d n k as h = some (v, h')) (hq : mtab[k]? = some q) : mAns q v := by
  cases d with
  | zero => cases E
  | succ d =>
    simp only [mcall, hq] at E
    split at E
    · exact mloop_ans _ _ _ _ _ E
    · cases E
theorem q101_l : ∀ pc, mfetch q101.2.1 pc ≠ some .ireturn := by
  have h1 : ∀ pc, pc < 100 → mfetch q101.2.1 pc ≠ some .ireturn := by decide +kernel
  intro pc
  rcases Nat.lt_or_ge pc 100 with h | h
  · exact h1 pc h
  · rw [mfetch_end (show q101.2.1.size ≤ pc from Nat.le_trans (Nat.le_of_eq (by decide +kernel)) h)]
    intro z
    cases z
/-! a new object -/
section LWN
variable {p : Program} {l : Launch} {e : Env} {R : Room} {s : State} {m : MethodId} {args : Array Value} {below : List Frame} {meth : Method} {c : Code} {Q : State → Prop} {D : va_G} {A : Nat → Prop} {K : Nat → Nat} {z : Value} {q0 q1 : Nat} {h2 : MH} {H : Heap} {locs : List Loc} {cells slots : Nat}
theorem lw_new {pc idx ci : Nat} {ls : Array Slot} {rest : List Value} {own : String} (hf : CallFix p m c code 4 s args lw_tbl own) (hci : ci < 10) (hcl : Cond.classLink own idx (mcn.getD ci "") ∈ lw_tbl)
    (hA : ∀ q, s.heap.size ≤ q → A q) (hw : LWd D A s z K q0 q1 [] h2 H locs) (hroom : cells + 1 ≤ R.cells ∧ slots + mN ci ≤ R.slots) (hd : decode code pc = .ok (.new idx, 3))
    (kk : ∀ (q : Nat) (H1 : Heap), LWd D A s z K q q1 [mnew ci] h2 H1 locs → W p l e R s m args below meth c H1 locs (cells + 1) (slots + mN ci) Q (F0 m (pc + 3) ls (.ref q :: rest))) :
    W p l e R s m args below meth c H locs cells slots Q (F0 m pc ls rest) := by
  obtain ⟨X, X2, tys, tys2, ws, ws2, a1, a2, a3, a4, a5, a6, a7, a8⟩ := hw
  have hts := hf.2.2.2.2
  have htg := lw_goodIn hts
  refine va_new (ci := ci) (fs := (List.range (mN ci)).map (fun k => defaultValue (mTy ci k))) (C := mcn.getD ci "") (T := mTab ci) (N := mN ci) hf.1 hf.2.1 htg (mcls_ws ci hci) (mTy ci) (mcls_ty ci hci) hf.2.2.2.1 (hts _ hcl) (htg _ (mcls_new ci hci _ List.mem_cons_self)) (htg _ (mcls_new ci hci _ (List.mem_cons_of_mem _ List.mem_cons_self)))
    a7.2 a4.2 a5.2 a8 hA (mcls_at ci hci) (fun j hj => ?_) hroom.1 hroom.2 hd (fun q H1 hP hD hS => ?_)
  · unfold vp_V
    rw [List.getD_eq_getElem?_getD, List.getElem?_map, List.getElem?_range hj]
    rfl
  · refine kk q H1 ⟨fun k => if k = 0 then q else K k, X2, [], tys2, [(q, .inr (ci, (List.range (mN ci)).map (fun k => defaultValue (mTy ci k))))], ws2, ⟨⟨rfl, fun k c hk => ?_⟩, a1.2⟩, ⟨rfl, a2.2⟩, ⟨fun k hk => if_neg (by omega), a3.2⟩, ⟨fun k e hk => ?_, fun k e hk => hP k e (by rw [List.getElem?_append_left (List.getElem?_eq_some_iff.mp hk).1]; exact hk)⟩, ⟨⟨fun i j p q h1 h2 _ => ?_, fun k e hk => ?_⟩, a5.2⟩, fun i j p q h1 h2 ee => ?_, ⟨⟨a7.1.1, fun k q h => by cases h⟩, a7.2⟩, hS⟩
    · match k, hk with
      | 0, hk =>
        cases hk
        exact ⟨_, rfl, by show Sum.inr (ci, _) = Sum.inr (ci, _); rw [mnew_re]⟩
    · match k, hk with
      | 0, hk =>
        cases hk
        exact hP ws2.length _ (by rw [List.getElem?_append_right (Nat.le_refl _), Nat.sub_self]; rfl)
    · match i, j, h1, h2 with
      | 0, 0, _, _ => rfl
    · match k, hk with
      | 0, hk =>
        cases hk
        exact hD.2 ws2.length _ (by rw [List.getElem?_append_right (Nat.le_refl _), Nat.sub_self]; rfl)
    · match i, h1 with
      | 0, h1 =>
        cases h1
        have hj := (List.getElem?_eq_some_iff.mp h2).1
        have := hD.1 ws2.length j _ q (by rw [List.getElem?_append_right (Nat.le_refl _), Nat.sub_self]; rfl) (by rw [List.getElem?_append_left hj]; exact h2) ee
        omega
end LWN
