/-! a step keeps what the references of a state name -/
theorem mok_go {h : MH} {pc : Nat} {loc loc0 : List (Option Value)} {st : List Value} (hh : mhok h) (hl : mlok h.length loc) (hs : ∀ v ∈ st, mvok h.length v) : mokR h loc0 (.inl ((pc, loc, st), h)) := ⟨Nat.le_refl _, hh, hl, hs⟩
theorem mok_set {h : MH} {pc a : Nat} {c : MC} {loc loc0 : List (Option Value)} {st : List Value} (hh : mhok h) (hl : mlok h.length loc) (hs : ∀ v ∈ st, mvok h.length v) (hc : mcok h.length c) : mokR h loc0 (.inl ((pc, loc, st), h.set a c)) :=
  ⟨by rw [List.length_set]; exact Nat.le_refl _, mhok_set hh hc, by rw [List.length_set]; exact hl, by rw [List.length_set]; exact hs⟩
theorem mok_app {h : MH} {pc : Nat} {c : MC} {loc loc0 : List (Option Value)} {st : List Value} (hh : mhok h) (hl : mlok h.length loc) (hs : ∀ v ∈ st, mvok h.length v) (hn : h.length < 900) (hc : mcok (h.length + 1) c) : mokR h loc0 (.inl ((pc, loc, .ref h.length :: st), h ++ [c])) := by
  have e : (h ++ [c]).length = h.length + 1 := List.length_append
  refine ⟨by rw [e]; exact Nat.le_succ _, mhok_app hh hn hc, by rw [e]; exact fun v hv => mvok_le (hl v hv) (Nat.le_succ _), ?_⟩
  rw [e]
  intro v hv
  rcases List.mem_cons.mp hv with h1 | h1
  · rw [h1]; exact mvok_lt (Nat.lt_succ_self _)
  · exact mvok_le (hs v h1) (Nat.le_succ _)
theorem mcok_put {n ci k : Nat} {fs : List Value} {v : Value} (h : mcok n (.inl (ci, fs))) (hv : mvok n v) : mcok n (.inl (ci, fs.set k v)) := by
  intro w hw
  rcases List.mem_or_eq_of_mem_set hw with h1 | h1
  · exact h w h1
  · rw [h1]; exact hv
theorem msc {n : Nat} {v : Value} {r : List Value} (hv : mvok n v) (hr : ∀ v ∈ r, mvok n v) : ∀ w ∈ v :: r, mvok n w := by
  intro w hw
  rcases List.mem_cons.mp hw with h | h
  · rw [h]; exact hv
  · exact hr w h
theorem mst1 {n : Nat} {v : Value} {r : List Value} (h : ∀ w ∈ v :: r, mvok n w) : mvok n v ∧ ∀ w ∈ r, mvok n w := ⟨h v List.mem_cons_self, fun w hw => h w (List.mem_cons_of_mem _ hw)⟩
theorem mspl {n : Nat} {a b : List Value} (h : ∀ w ∈ a.reverse ++ b, mvok n w) : (∀ w ∈ a, mvok n w) ∧ ∀ w ∈ b, mvok n w := ⟨fun w hw => h w (List.mem_append_left _ (List.mem_reverse.mpr hw)), fun w hw => h w (List.mem_append_right _ hw)⟩
theorem mokv {h : MH} {md k pc : Nat} {loc : List (Option Value)} {st : List Value} {o} (hs : ∀ v ∈ st, mvok h.length v) (e : minv h md k pc loc st = some o) : mokR h loc o := by
  obtain ⟨q, as, rest, -, -, -, ⟨-, rfl, rfl⟩ | ⟨-, b, rfl, -, rfl⟩⟩ := minv_inv e
  · exact ⟨rfl, (mspl hs).1, (mspl hs).2⟩
  · obtain ⟨h1, h2⟩ := mspl hs
    obtain ⟨h3, h4⟩ := mst1 h2
    exact ⟨rfl, msc h3 h1, h4⟩
set_option maxHeartbeats 2000000 in
theorem mstep_ok {cn : Nat} {rt : Option FieldType} {ini : Bool} {i : Instr} {pc : Nat} {loc : List (Option Value)} {st : List Value} {h : MH} {o} (hh : mhok h) (hl : mlok h.length loc) (hs : ∀ v ∈ st, mvok h.length v) (e : mstep cn rt ini i pc loc st h = some o) : mokR h loc o := by
  cases i
  case iconst => rw [mgo_inv e]; exact mok_go hh hl (msc mvok_int hs)
  case bipush => rw [mgo_inv e]; exact mok_go hh hl (msc mvok_int hs)
  case sipush => rw [mgo_inv e]; exact mok_go hh hl (msc mvok_int hs)
  case lconst => rw [mgo_inv e]; exact mok_go hh hl (msc mvok_long hs)
  case aconst_null => rw [mgo_inv e]; exact mok_go hh hl (msc mvok_null hs)
  case iload_n => replace e := milo_inv e; obtain ⟨x, -, rfl⟩ := e; exact mok_go hh hl (msc mvok_int hs)
  case iload => replace e := milo_inv e; obtain ⟨x, -, rfl⟩ := e; exact mok_go hh hl (msc mvok_int hs)
  case lload_n => replace e := mllo_inv e; obtain ⟨x, -, rfl⟩ := e; exact mok_go hh hl (msc mvok_long hs)
  case lload => replace e := mllo_inv e; obtain ⟨x, -, rfl⟩ := e; exact mok_go hh hl (msc mvok_long hs)
  case aload_n => replace e := malo_inv e; obtain ⟨v, h1, -, rfl⟩ := e; exact mok_go hh hl (msc (mlok_at hl h1) hs)
  case aload => replace e := malo_inv e; obtain ⟨v, h1, -, rfl⟩ := e; exact mok_go hh hl (msc (mlok_at hl h1) hs)
  case istore_n =>
    replace e := mi1_inv e; obtain ⟨x, r, rfl, e⟩ := e
    replace e := mst_inv e; obtain ⟨-, -, e⟩ := e
    rw [mgo_inv e]; exact mok_go hh (mlok_set hl mvok_int) (mst1 hs).2
  case istore =>
    replace e := mi1_inv e; obtain ⟨x, r, rfl, e⟩ := e
    replace e := mst_inv e; obtain ⟨-, -, e⟩ := e
    rw [mgo_inv e]; exact mok_go hh (mlok_set hl mvok_int) (mst1 hs).2
  case lstore_n =>
    replace e := ml1_inv e; obtain ⟨x, r, rfl, e⟩ := e
    replace e := mst2_inv e; obtain ⟨-, -, e⟩ := e
    rw [mgo_inv e]; exact mok_go hh (mlok_setN (mlok_set hl mvok_long)) (mst1 hs).2
  case lstore =>
    replace e := ml1_inv e; obtain ⟨x, r, rfl, e⟩ := e
    replace e := mst2_inv e; obtain ⟨-, -, e⟩ := e
    rw [mgo_inv e]; exact mok_go hh (mlok_setN (mlok_set hl mvok_long)) (mst1 hs).2
  case astore_n =>
    replace e := mast_inv e; obtain ⟨v, r, rfl, -, -, -, rfl⟩ := e
    exact mok_go hh (mlok_set hl (mst1 hs).1) (mst1 hs).2
  case astore =>
    replace e := mast_inv e; obtain ⟨v, r, rfl, -, -, -, rfl⟩ := e
    exact mok_go hh (mlok_set hl (mst1 hs).1) (mst1 hs).2
  case iinc =>
    replace e := mld_inv e; obtain ⟨v, -, e⟩ := e
    split at e
    · replace e := mst_inv e; obtain ⟨-, -, e⟩ := e
      rw [mgo_inv e]; exact mok_go hh (mlok_set hl mvok_int) hs
    · cases e
  case iadd => replace e := mi2_inv e; obtain ⟨x, y, r, rfl, e⟩ := e; rw [mgo_inv e]; exact mok_go hh hl (msc mvok_int (mst1 (mst1 hs).2).2)
  case isub => replace e := mi2_inv e; obtain ⟨x, y, r, rfl, e⟩ := e; rw [mgo_inv e]; exact mok_go hh hl (msc mvok_int (mst1 (mst1 hs).2).2)
  case imul => replace e := mi2_inv e; obtain ⟨x, y, r, rfl, e⟩ := e; rw [mgo_inv e]; exact mok_go hh hl (msc mvok_int (mst1 (mst1 hs).2).2)
  case iand => replace e := mi2_inv e; obtain ⟨x, y, r, rfl, e⟩ := e; rw [mgo_inv e]; exact mok_go hh hl (msc mvok_int (mst1 (mst1 hs).2).2)
  case ior => replace e := mi2_inv e; obtain ⟨x, y, r, rfl, e⟩ := e; rw [mgo_inv e]; exact mok_go hh hl (msc mvok_int (mst1 (mst1 hs).2).2)
  case ishl => replace e := mi2_inv e; obtain ⟨x, y, r, rfl, e⟩ := e; rw [mgo_inv e]; exact mok_go hh hl (msc mvok_int (mst1 (mst1 hs).2).2)
  case ishr => replace e := mi2_inv e; obtain ⟨x, y, r, rfl, e⟩ := e; rw [mgo_inv e]; exact mok_go hh hl (msc mvok_int (mst1 (mst1 hs).2).2)
  case iushr => replace e := mi2_inv e; obtain ⟨x, y, r, rfl, e⟩ := e; rw [mgo_inv e]; exact mok_go hh hl (msc mvok_int (mst1 (mst1 hs).2).2)
  case idiv =>
    replace e := mi2_inv e; obtain ⟨x, y, r, rfl, e⟩ := e
    split at e
    · cases e
    · rw [mgo_inv e]; exact mok_go hh hl (msc mvok_int (mst1 (mst1 hs).2).2)
  case irem =>
    replace e := mi2_inv e; obtain ⟨x, y, r, rfl, e⟩ := e
    split at e
    · cases e
    · rw [mgo_inv e]; exact mok_go hh hl (msc mvok_int (mst1 (mst1 hs).2).2)
  case ineg => replace e := mi1_inv e; obtain ⟨x, r, rfl, e⟩ := e; rw [mgo_inv e]; exact mok_go hh hl (msc mvok_int (mst1 hs).2)
  case i2b => replace e := mi1_inv e; obtain ⟨x, r, rfl, e⟩ := e; rw [mgo_inv e]; exact mok_go hh hl (msc mvok_int (mst1 hs).2)
  case i2s => replace e := mi1_inv e; obtain ⟨x, r, rfl, e⟩ := e; rw [mgo_inv e]; exact mok_go hh hl (msc mvok_int (mst1 hs).2)
  case i2c => replace e := mi1_inv e; obtain ⟨x, r, rfl, e⟩ := e; rw [mgo_inv e]; exact mok_go hh hl (msc mvok_int (mst1 hs).2)
  case i2l => replace e := mi1_inv e; obtain ⟨x, r, rfl, e⟩ := e; rw [mgo_inv e]; exact mok_go hh hl (msc mvok_long (mst1 hs).2)
  case l2i => replace e := ml1_inv e; obtain ⟨x, r, rfl, e⟩ := e; rw [mgo_inv e]; exact mok_go hh hl (msc mvok_int (mst1 hs).2)
  case ladd => replace e := ml2_inv e; obtain ⟨x, y, r, rfl, e⟩ := e; rw [mgo_inv e]; exact mok_go hh hl (msc mvok_long (mst1 (mst1 hs).2).2)
  case lsub => replace e := ml2_inv e; obtain ⟨x, y, r, rfl, e⟩ := e; rw [mgo_inv e]; exact mok_go hh hl (msc mvok_long (mst1 (mst1 hs).2).2)
  case lmul => replace e := ml2_inv e; obtain ⟨x, y, r, rfl, e⟩ := e; rw [mgo_inv e]; exact mok_go hh hl (msc mvok_long (mst1 (mst1 hs).2).2)
  case lcmp => replace e := ml2_inv e; obtain ⟨x, y, r, rfl, e⟩ := e; rw [mgo_inv e]; exact mok_go hh hl (msc mvok_int (mst1 (mst1 hs).2).2)
  case dup => replace e := mv1_inv e; obtain ⟨v, r, rfl, -, e⟩ := e; rw [mgo_inv e]; exact mok_go hh hl (msc (mst1 hs).1 hs)
  case pop => replace e := mv1_inv e; obtain ⟨v, r, rfl, -, e⟩ := e; rw [mgo_inv e]; exact mok_go hh hl (mst1 hs).2
  case dup_x1 =>
    replace e := mv1_inv e; obtain ⟨v, r, rfl, -, e⟩ := e
    replace e := mv1_inv e; obtain ⟨w, r, rfl, -, e⟩ := e
    rw [mgo_inv e]; exact mok_go hh hl (msc (mst1 hs).1 (msc (mst1 (mst1 hs).2).1 (msc (mst1 hs).1 (mst1 (mst1 hs).2).2)))
  case dup2 =>
    replace e := mv1_inv e; obtain ⟨v, r, rfl, -, e⟩ := e
    replace e := mv1_inv e; obtain ⟨w, r, rfl, -, e⟩ := e
    rw [mgo_inv e]; exact mok_go hh hl (msc (mst1 hs).1 (msc (mst1 (mst1 hs).2).1 hs))
  case if_icmp => replace e := mi2_inv e; obtain ⟨x, y, r, rfl, e⟩ := e; obtain ⟨t, -, rfl⟩ := mif_inv e; exact mok_go hh hl (mst1 (mst1 hs).2).2
  case ifCond => replace e := mi1_inv e; obtain ⟨x, r, rfl, e⟩ := e; obtain ⟨t, -, rfl⟩ := mif_inv e; exact mok_go hh hl (mst1 hs).2
  case goto => simp only [mstep] at e; replace e := mj_inv e; obtain ⟨t, -, e⟩ := e; rw [mgo_inv e]; exact mok_go hh hl hs
  case ifnull =>
    simp only [mstep] at e
    split at e
    · split at e
      · rw [mgo_inv e]; exact mok_go hh hl (mst1 hs).2
      · cases e
    · replace e := mj_inv e; obtain ⟨t, -, e⟩ := e; rw [mgo_inv e]; exact mok_go hh hl (mst1 hs).2
    · cases e
  case ifnonnull =>
    simp only [mstep] at e
    split at e
    · split at e
      · replace e := mj_inv e; obtain ⟨t, -, e⟩ := e; rw [mgo_inv e]; exact mok_go hh hl (mst1 hs).2
      · cases e
    · rw [mgo_inv e]; exact mok_go hh hl (mst1 hs).2
    · cases e
  case tableswitch =>
    replace e := mi1_inv e; obtain ⟨x, r, rfl, e⟩ := e
    split at e
    · replace e := mj_inv e; obtain ⟨t, -, e⟩ := e; rw [mgo_inv e]; exact mok_go hh hl (mst1 hs).2
    · split at e
      · replace e := mj_inv e; obtain ⟨t, -, e⟩ := e; rw [mgo_inv e]; exact mok_go hh hl (mst1 hs).2
      · cases e
  case lookupswitch =>
    replace e := mi1_inv e; obtain ⟨x, r, rfl, e⟩ := e
    split at e
    · replace e := mj_inv e; obtain ⟨t, -, e⟩ := e; rw [mgo_inv e]; exact mok_go hh hl (mst1 hs).2
    · cases e
  case ldc =>
    simp only [mstep] at e
    split at e
    · rw [mgo_inv e]; exact mok_go hh hl (msc mvok_int hs)
    · split at e
      · split at e
        · rw [mgo_inv e]; exact mok_go hh hl (msc (mvok_cn (by omega)) hs)
        · cases e
      · cases e
  case ldc_w =>
    simp only [mstep] at e
    split at e
    · rw [mgo_inv e]; exact mok_go hh hl (msc mvok_int hs)
    · cases e
  case ldc2_w =>
    simp only [mstep] at e
    split at e
    · rw [mgo_inv e]; exact mok_go hh hl (msc mvok_long hs)
    · cases e
  case getstatic =>
    simp only [mstep] at e
    split at e
    · split at e
      · rw [mgo_inv e]; exact mok_go hh hl (msc (mvok_cn (by omega)) hs)
      · split at e
        · rw [mgo_inv e]; exact mok_go hh hl (msc (mvok_cn (by omega)) hs)
        · split at e
          · rw [mgo_inv e]; exact mok_go hh hl (msc mvok_int hs)
          · split at e
            · rw [mgo_inv e]; exact mok_go hh hl (msc (mvok_cn (by omega)) hs)
            · cases e
    · cases e
  case getfield =>
    replace e := mr1_inv e; obtain ⟨a, r, rfl, e⟩ := e
    split at e
    · replace e := mget_inv e; obtain ⟨fs, v, h1, h2, e⟩ := e
      rw [mgo_inv e]; exact mok_go hh hl (msc ((mhok_at hh h1).1 v (List.mem_of_getElem? h2)) (mst1 hs).2)
    · replace e := mget_inv e; obtain ⟨fs, v, h1, h2, e⟩ := e
      rw [mgo_inv e]; exact mok_go hh hl (msc ((mhok_at hh h1).1 v (List.mem_of_getElem? h2)) (mst1 hs).2)
    · split at e
      · split at e
        · rw [mgo_inv e]; exact mok_go hh hl (msc (mvok_cn (by omega)) (mst1 hs).2)
        · split at e
          · rw [mgo_inv e]; exact mok_go hh hl (msc mvok_int (mst1 hs).2)
          · cases e
      · cases e
    · cases e
  case putfield =>
    simp only [mstep] at e
    split at e
    · split at e
      · split at e
        · replace e := mput_inv e; obtain ⟨fs, h1, -, -, -, -, e⟩ := e
          rw [mgo_inv e]; exact mok_set hh hl (mst1 (mst1 hs).2).2 (mcok_put (mhok_at hh h1).1 (mst1 hs).1)
        · cases e
      · split at e
        · replace e := mput_inv e; obtain ⟨fs, h1, -, -, -, -, e⟩ := e
          rw [mgo_inv e]; exact mok_set hh hl (mst1 (mst1 hs).2).2 (mcok_put (mhok_at hh h1).1 (mst1 hs).1)
        · cases e
      · cases e
    · cases e
  case iaload =>
    simp only [mstep] at e
    split at e
    · replace e := mial_inv e; rcases e with ⟨-, -, e⟩ | ⟨n, g, -, -, e⟩ <;> (rw [mgo_inv e]; exact mok_go hh hl (msc mvok_int (mst1 (mst1 hs).2).2))
    · cases e
  case baload =>
    simp only [mstep] at e
    split at e
    · replace e := mbal_inv e; obtain ⟨-, -, -, e⟩ := e
      rw [mgo_inv e]; exact mok_go hh hl (msc mvok_int (mst1 (mst1 hs).2).2)
    · cases e
  case iastore =>
    simp only [mstep] at e
    split at e
    · replace e := mias_inv e; obtain ⟨n, g, h1, -, e⟩ := e
      rw [mgo_inv e]; exact mok_set hh hl (mst1 (mst1 (mst1 hs).2).2).2 trivial
    · cases e
  case aaload =>
    simp only [mstep] at e
    split at e
    · replace e := maal_inv e; obtain ⟨c, n, g, h1, -, e⟩ := e
      rw [mgo_inv e]
      refine mok_go hh hl (msc ?_ (mst1 (mst1 hs).2).2)
      cases hg : g _ with
      | none => exact mvok_null
      | some k => exact mvok_lt ((mhok_at hh h1).1 _ k hg)
    · cases e
  case aastore =>
    simp only [mstep] at e
    split at e
    · replace e := maas_inv e; obtain ⟨c, n, g, fs, h1, h2, -, -, e⟩ := e
      rw [mgo_inv e]
      refine mok_set hh hl (mst1 (mst1 (mst1 hs).2).2).2 (fun j k hj => ?_)
      unfold va_up at hj
      split at hj
      · cases hj; exact (mhok_at hh h2).2.1
      · exact (mhok_at hh h1).1 j k hj
    · cases e
  case arraylength =>
    replace e := mr1_inv e; obtain ⟨a, r, rfl, e⟩ := e
    replace e := malen_inv e; rcases e with ⟨-, -, e⟩ | ⟨-, e⟩ | ⟨n, g, -, e⟩ | ⟨c, n, g, -, e⟩ <;> (rw [mgo_inv e]; exact mok_go hh hl (msc mvok_int (mst1 hs).2))
  case newarray t =>
    simp only [mstep] at e
    split at e
    · replace e := mi1_inv e; obtain ⟨n, r, rfl, e⟩ := e
      split at e
      · rename_i c
        rw [mgo_inv e]; exact mok_app hh hl (mst1 hs).2 c.2.2 trivial
      · cases e
    · cases e
  case anewarray =>
    replace e := mi1_inv e; obtain ⟨n, r, rfl, e⟩ := e
    split at e
    · split at e
      · rename_i c
        rw [mgo_inv e]; exact mok_app hh hl (mst1 hs).2 c.2.2.1 (fun j k hj => by cases hj)
      · cases e
    · cases e
  case new =>
    simp only [mstep] at e
    split at e
    · split at e
      · rename_i c
        rw [mgo_inv e]
        refine mok_app hh hl hs c.1 (fun v hv => ?_)
        obtain ⟨k, -, rfl⟩ := List.mem_map.mp hv
        exact mvok_df
      · cases e
    · cases e
  case invokevirtual =>
    simp only [mstep] at e
    split at e
    · split at e
      · exact mokv hs e
      · cases e
    · cases e
  case invokestatic =>
    simp only [mstep] at e
    split at e
    · split at e
      · exact mokv hs e
      · cases e
    · replace e := mcopy_inv e; obtain ⟨n, dp, b, sp, a, rest, n0, f, n1, g, rfl, h1, h2, -, -, -, -, -, -, rfl⟩ := e
      exact mok_set hh hl (mst1 (mst1 (mst1 (mst1 (mst1 hs).2).2).2).2).2 trivial
    · replace e := mi2_inv e; obtain ⟨x, y, r, rfl, e⟩ := e
      split at e
      · rw [mgo_inv e]; exact mok_go hh hl (msc mvok_int (mst1 (mst1 hs).2).2)
      · cases e
    · replace e := mi2_inv e; obtain ⟨x, y, r, rfl, e⟩ := e
      split at e
      · rw [mgo_inv e]; exact mok_go hh hl (msc mvok_int (mst1 (mst1 hs).2).2)
      · cases e
    · cases e
  case invokespecial =>
    simp only [mstep] at e
    split at e
    · split at e
      · exact mokv hs e
      · cases e
    · replace e := mr1_inv e; obtain ⟨a, r, rfl, e⟩ := e
      split at e
      · rw [mgo_inv e]; exact mok_go hh hl (mst1 hs).2
      · cases e
    · cases e
  case ireturn =>
    simp only [mstep] at e
    split at e
    · split at e
      · rw [mret_inv e]; exact ⟨rfl, fun w hw => by cases hw; exact mvok_int⟩
      · cases e
    · cases e
  case lreturn =>
    simp only [mstep] at e
    split at e
    · split at e
      · rw [mret_inv e]; exact ⟨rfl, fun w hw => by cases hw; exact mvok_long⟩
      · cases e
    · cases e
  case areturn =>
    simp only [mstep] at e
    split at e
    · rw [mret_inv e]; exact ⟨rfl, fun w hw => by cases hw; exact (mst1 hs).1⟩
    · rw [mret_inv e]; exact ⟨rfl, fun w hw => by cases hw; exact mvok_null⟩
    · cases e
  case return_ =>
    simp only [mstep] at e
    split at e
    · split at e
      · rw [mret_inv e]; exact ⟨rfl, fun w hw => by cases hw⟩
      · cases e
    · cases e
  all_goals cases e
def mcallok (call : MCall) : Prop := ∀ k as h v h', call k as h = some (v, h') → mhok h → (∀ a ∈ as, mvok h.length a) → h.length ≤ h'.length ∧ mhok h' ∧ ∀ w, v = some w → mvok h'.length w
theorem mloop_ok {call : MCall} (hc : mcallok call) {q : MI} : ∀ (n : Nat) (pc : Nat) (loc : List (Option Value)) (st : List Value) (h : MH) (v : Option Value) (h' : MH), mloop call q n (pc, loc, st) h = some (v, h') → mhok h → mlok h.length loc → (∀ a ∈ st, mvok h.length a) → h.length ≤ h'.length ∧ mhok h' ∧ ∀ w, v = some w → mvok h'.length w := by
  intro n
  induction n with
  | zero => intro pc loc st h v h' e; cases e
  | succ n ih =>
    intro pc loc st h v h' e hh hl hs
    simp only [mloop] at e
    split at e
    · cases e
    · split at e
      · cases e
      · rename_i fr' h1 hst
        obtain ⟨pc', loc', st'⟩ := fr'
        obtain ⟨k1, k2, k3, k4⟩ := mstep_ok hh hl hs hst
        obtain ⟨j1, j2, j3⟩ := ih _ _ _ _ _ _ e k2 k3 k4
        exact ⟨Nat.le_trans k1 j1, j2, j3⟩
      · rename_i r hst
        obtain ⟨v1, h1⟩ := r
        obtain ⟨rfl, k2⟩ := mstep_ok hh hl hs hst
        cases e
        exact ⟨Nat.le_refl _, hh, k2⟩
      · rename_i k as pc' loc' rest hst
        obtain ⟨rfl, k1, k2⟩ := mstep_ok hh hl hs hst
        split at e
        · cases e
        · rename_i v1 h1 hcl
          obtain ⟨c1, c2, c3⟩ := hc _ _ _ _ _ hcl hh k1
          obtain ⟨j1, j2, j3⟩ := ih _ _ _ _ _ _ e c2 (fun v hv => mvok_le (hl v hv) c1) (fun a ha => by
            rcases List.mem_append.mp ha with x | x
            · cases v1 with
              | none => cases x
              | some w => rw [List.mem_singleton.mp x]; exact c3 w rfl
            · exact mvok_le (k2 a x) c1)
          exact ⟨Nat.le_trans c1 j1, j2, j3⟩
theorem mentry_ok {n m : Nat} {as : List Value} (h : ∀ a ∈ as, mvok n a) : mlok n (mentry as m) := by
  intro v hv
  unfold mentry at hv
  rcases List.mem_append.mp hv with x | x
  · obtain ⟨a, ha, hx⟩ := List.mem_flatMap.mp x
    split at hx
    · rcases List.mem_cons.mp hx with y | y
      · cases y; exact h _ ha
      · cases List.mem_singleton.mp y
    · cases List.mem_singleton.mp hx; exact h _ ha
  · exact absurd (List.eq_of_mem_replicate x) (by simp)
theorem mcall_ok : ∀ (d n : Nat), mcallok (mcall d n) := by
  intro d
  induction d with
  | zero => intro n k as h v h' e; cases e
  | succ d ih =>
    intro n k as h v h' e hh ha
    simp only [mcall] at e
    split at e
    · cases e
    · split at e
      · exact mloop_ok (ih n) _ _ _ _ _ _ _ e hh (mentry_ok ha) (fun _ h => by cases h)
      · cases e
