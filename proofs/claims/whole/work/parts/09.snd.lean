theorem mdec_n {b : ByteArray} {pc n : Nat} {i : Instr} (h : decode b pc = .ok (i, n)) (hil : (n == ilen i) = true) : decode b pc = .ok (i, ilen i) := by
  rw [← (beq_iff_eq.mp hil)]; exact h
theorem mw_ref {X : Nat → Nat} {z : Value} (hz : mzok z) {v : Value} (hv : v = .null ∨ ∃ k, v = .ref k) : mre X z v = .null ∨ ∃ a, mre X z v = .ref a := by
  rcases hv with rfl | ⟨k, rfl⟩
  · exact Or.inl rfl
  · exact mre_ref hz k
theorem mfit {X : Nat → Nat} {z : Value} (hz : mzok z) {t : FieldType} {v : Value} (h1 : narrow t v = v) (h2 : fits t v = true) : narrow t (mre X z v) = mre X z v ∧ fits t (mre X z v) = true := by
  cases v with
  | ref k =>
    cases t <;> first | (simp [fits] at h2; done) | (rcases mre_ref (X := X) hz k with e | ⟨a, e⟩ <;> rw [e] <;> exact ⟨rfl, rfl⟩)
  | _ => exact ⟨h1, h2⟩
theorem mlk9 : ∀ cn ∈ List.range 14, ∀ e ∈ mlk.getD cn [], e.2.1 = 9 → (cn, e.1, e.2.2.1) = (8, 68, 0) ∨ (cn, e.1, e.2.2.1) = (7, 65, 1) ∨ (cn, e.1, e.2.2.1) = (7, 81, 2) := by decide +kernel
theorem mlk9_of {cn k i a b : Nat} (h : mlkf cn k = some (i, 9, a, b)) : (cn = 8 ∧ k = 68 ∧ a = 0) ∨ (cn = 7 ∧ k = 65 ∧ a = 1) ∨ (cn = 7 ∧ k = 81 ∧ a = 2) := by
  have h2 := List.mem_of_find?_eq_some h
  have hi := mlk_i h
  have hc : cn < 14 := by
    rcases Nat.lt_or_ge cn 14 with x | x
    · exact x
    · exact absurd h2 (by rw [List.getD_eq_getElem?_getD, List.getElem?_eq_none (by simpa [mlk] using x)]; exact List.not_mem_nil)
  subst hi
  rcases mlk9 cn (List.mem_range.mpr hc) _ h2 rfl with h | h | h <;> simp only [Prod.mk.injEq] at h
  · exact Or.inl h
  · exact Or.inr (Or.inl h)
  · exact Or.inr (Or.inr h)
theorem mN_le : ∀ ci, ci < 10 → mN ci ≤ 3000 := by decide
theorem mdf_re {X : Nat → Nat} {z : Value} (t : FieldType) : mre X z (defaultValue t) = defaultValue t := by cases t <;> rfl
theorem mnew_V {X : Nat → Nat} {z : Value} (ci : Nat) : ∀ j, j < mN ci → defaultValue (mTy ci j) = vp_V (((List.range (mN ci)).map (fun k => defaultValue (mTy ci k))).map (mre X z)) j := by
  intro j hj
  simp only [vp_V, List.map_map, List.getD_eq_getElem?_getD, List.getElem?_map, List.getElem?_range hj, Option.map_some, Option.getD_some, Function.comp, mdf_re]
theorem mSl : ∀ i, i < 3 → (mS.map List.length).getD i 0 = (mS.getD i []).length := by decide
def mup (X : Nat → Nat) (n q : Nat) : Nat → Nat := fun k => if k = n then q else X k
theorem mup_old {X : Nat → Nat} {n q : Nat} (hn : n < 1000) : ∀ k, k < n ∨ 1000 ≤ k → mup X n q k = X k := by
  intro k hk
  unfold mup
  rw [if_neg (by omega)]
theorem mup_at {X : Nat → Nat} {n q : Nat} : mup X n q n = q := if_pos rfl
theorem m9 {a : Nat} (h : a < 900) : a ≠ 1002 := by omega
theorem m13 {a : Nat} (h : a < 3) : 1010 + a ≠ 1002 := by omega
theorem m10 {a : Nat} (h : 1010 ≤ a) : 1010 + (a - 1010) = a := by omega
theorem m11 {a : Nat} (h : 1010 ≤ a) : 1020 + (a - 1010) = a + 10 := by omega
theorem m20 {a : Nat} (h : 1020 ≤ a) : 1020 + (a - 1020) = a := by omega
theorem mnfw : nativeFrameWords "java/lang/System" "arraycopy" 5 = 7 := by decide
section SND
variable {p : Program} {l : Launch} {e : Env} {R : Room} {s : State} {m : MethodId} {args : Array Value} {below : List Frame} {meth : Method} {c : Code} {Q : State → Prop} {D : va_G} {A : Nat → Prop} {X0 : Nat → Nat} {z : Value} {n0 : Nat} {q : MI}
/-- a condition's two ways -/
theorem micmp_snd (hx : p.tables.exec = Jvm.exec) {cc : ByteArray} (hb : c.code = cc) {H : Heap} {locs : List Loc} {cells slots pc t : Nat} {ls : Array Slot} {rest : List Value} {cd : Jvm.ClassFile.Cond} {off : Int} {x y : Int32} (hd : decode cc pc = .ok (.if_icmp cd off, 3)) (ht : (pc : Int) + off = (t : Int))
    (K : W p l e R s m args below meth c H locs cells slots Q (F0 m (if mcond cd x y = true then t else pc + 3) ls rest)) : W p l e R s m args below meth c H locs cells slots Q (F0 m pc ls (.int y :: .int x :: rest)) := by
  have kt : mcond cd x y = true → W p l e R s m args below meth c H locs cells slots Q (F0 m t ls rest) := fun h => by rw [if_pos h] at K; exact K
  have kf : ¬ mcond cd x y = true → W p l e R s m args below meth c H locs cells slots Q (F0 m (pc + 3) ls rest) := fun h => by rw [if_neg h] at K; exact K
  cases cd with
  | eq => exact lv_icmp_eq hx hb hd ht (fun h => kt (decide_eq_true h)) (fun h => kf (fun h2 => h (of_decide_eq_true h2)))
  | ne => exact lv_icmp_ne hx hb hd ht (fun h => kt (decide_eq_true h)) (fun h => kf (fun h2 => (of_decide_eq_true h2) h))
  | lt => exact lv_icmp_lt hx hb hd ht (fun h => kt (decide_eq_true h)) (fun h => kf (fun h2 => h (of_decide_eq_true h2)))
  | ge => exact lv_icmp_ge hx hb hd ht (fun h => kt (decide_eq_true h)) (fun h => kf (fun h2 => h (of_decide_eq_true h2)))
  | gt => exact lv_icmp_gt hx hb hd ht (fun h => kt (decide_eq_true h)) (fun h => kf (fun h2 => h (of_decide_eq_true h2)))
  | le => exact lv_icmp_le hx hb hd ht (fun h => kt (decide_eq_true h)) (fun h => kf (fun h2 => h (of_decide_eq_true h2)))
theorem mif_snd (hx : p.tables.exec = Jvm.exec) {cc : ByteArray} (hb : c.code = cc) {H : Heap} {locs : List Loc} {cells slots pc t : Nat} {ls : Array Slot} {rest : List Value} {cd : Jvm.ClassFile.Cond} {off : Int} {x : Int32} (hd : decode cc pc = .ok (.ifCond cd off, 3)) (ht : (pc : Int) + off = (t : Int))
    (K : W p l e R s m args below meth c H locs cells slots Q (F0 m (if mcond cd x 0 = true then t else pc + 3) ls rest)) : W p l e R s m args below meth c H locs cells slots Q (F0 m pc ls (.int x :: rest)) := by
  have kt : mcond cd x 0 = true → W p l e R s m args below meth c H locs cells slots Q (F0 m t ls rest) := fun h => by rw [if_pos h] at K; exact K
  have kf : ¬ mcond cd x 0 = true → W p l e R s m args below meth c H locs cells slots Q (F0 m (pc + 3) ls rest) := fun h => by rw [if_neg h] at K; exact K
  cases cd with
  | eq => exact lv_if_eq hx hb hd ht (fun h => kt (decide_eq_true h)) (fun h => kf (fun h2 => h (of_decide_eq_true h2)))
  | ne => exact lv_if_ne hx hb hd ht (fun h => kt (decide_eq_true h)) (fun h => kf (fun h2 => (of_decide_eq_true h2) h))
  | lt => exact lv_if_lt hx hb hd ht (fun h => kt (decide_eq_true h)) (fun h => kf (fun h2 => h (of_decide_eq_true h2)))
  | ge => exact lv_if_ge hx hb hd ht (fun h => kt (decide_eq_true h)) (fun h => kf (fun h2 => h (of_decide_eq_true h2)))
  | gt => exact lv_if_gt hx hb hd ht (fun h => kt (decide_eq_true h)) (fun h => kf (fun h2 => h (of_decide_eq_true h2)))
  | le => exact lv_if_le hx hb hd ht (fun h => kt (decide_eq_true h)) (fun h => kf (fun h2 => h (of_decide_eq_true h2)))
set_option maxHeartbeats 4000000 in
theorem mstep_snd (C : mX0 p R s m args meth c q A X0 z) {i : Instr} {len pc pc' : Nat} {loc loc' : List (Option Value)} {st st' : List Value} {h h' : MH} (hh : mhok h) (hl : mlok h.length loc) (hs : ∀ v ∈ st, mvok h.length v)
    (hn0 : n0 ≤ h.length) (hdec : decode q.2.1 pc = .ok (i, len)) (hil : ilok i len = true) (hroom : h'.length ≤ n0 + R.cells) (E : mstep q.2.2.2.2.1 q.2.2.2.1 (mini1 q) i pc loc st h = some (.inl ((pc', loc', st'), h')))
    (kk : mAt p l e R s m args below meth c Q D A X0 z n0 q.2.2.1 pc' loc' st' h') : mAt p l e R s m args below meth c Q D A X0 z n0 q.2.2.1 pc loc st h := by
  obtain ⟨hx, hb, hml, hown, hts, hrt, hlk, hin, hC, hA, hfr, hlo, hsl⟩ := C
  have hz : mzok z := hC.2.2.2.2.1.2
  have hnest := hC.1
  intro X tys ws H locs ls cells hX hw hlr hc
  have hX1 : ∀ k, 1000 ≤ k → X k = X0 k := fun k hk => hX k (Or.inr hk)
  have hC' := mC_X hC hX1
  obtain ⟨hP, hD, hK, hS, hr⟩ := id hw
  cases i
  case iconst => cases mgo_inv E; exact lv_iconst hx hb (mdec_n hdec hil) rfl (kk X tys ws H locs ls cells hX hw hlr hc)
  case bipush => cases mgo_inv E; exact lv_bipush hx hb (mdec_n hdec hil) rfl (kk X tys ws H locs ls cells hX hw hlr hc)
  case sipush => cases mgo_inv E; exact lv_sipush hx hb (mdec_n hdec hil) rfl (kk X tys ws H locs ls cells hX hw hlr hc)
  case lconst => cases mgo_inv E; exact lv_lconst hx hb (mdec_n hdec hil) rfl (kk X tys ws H locs ls cells hX hw hlr hc)
  case aconst_null => cases mgo_inv E; exact lv_null hx hb (mdec_n hdec hil) (kk X tys ws H locs ls cells hX hw hlr hc)
  case iload_n => replace E := milo_inv E; obtain ⟨x, h1, E⟩ := E; cases E; exact lv_iload_n hx hb (mdec_n hdec hil) rfl (hlr.2.2.2 _ _ h1) (kk X tys ws H locs ls cells hX hw hlr hc)
  case iload => replace E := milo_inv E; obtain ⟨x, h1, E⟩ := E; cases E; exact lv_iload hx hb (mdec_n hdec hil) (hlr.2.2.2 _ _ h1) (kk X tys ws H locs ls cells hX hw hlr hc)
  case lload_n => replace E := mllo_inv E; obtain ⟨x, h1, E⟩ := E; cases E; exact lv_lload_n hx hb (mdec_n hdec hil) rfl (hlr.2.2.2 _ _ h1) (kk X tys ws H locs ls cells hX hw hlr hc)
  case lload => replace E := mllo_inv E; obtain ⟨x, h1, E⟩ := E; cases E; exact lv_lload hx hb (mdec_n hdec hil) (hlr.2.2.2 _ _ h1) (kk X tys ws H locs ls cells hX hw hlr hc)
  case aload_n =>
    replace E := malo_inv E; obtain ⟨v, h1, hv, E⟩ := E; cases E
    have K := kk X tys ws H locs ls cells hX hw hlr hc
    have hv1 := hlr.2.2.2 _ _ h1
    rw [List.map_cons] at K
    rcases mw_ref (X := X) hz hv with e1 | ⟨a, e1⟩ <;> rw [e1] at K hv1
    · exact lv_aload_nN hx hb (mdec_n hdec hil) rfl hv1 K
    · exact lv_aload_n hx hb (mdec_n hdec hil) rfl hv1 K
  case aload =>
    replace E := malo_inv E; obtain ⟨v, h1, hv, E⟩ := E; cases E
    have K := kk X tys ws H locs ls cells hX hw hlr hc
    have hv1 := hlr.2.2.2 _ _ h1
    rw [List.map_cons] at K
    rcases mw_ref (X := X) hz hv with e1 | ⟨a, e1⟩ <;> rw [e1] at K hv1
    · exact lv_aloadN hx hb (mdec_n hdec hil) hv1 K
    · exact lv_aload hx hb (mdec_n hdec hil) hv1 K
  case istore_n =>
    replace E := mi1_inv E; obtain ⟨x, r, rfl, E⟩ := E; obtain ⟨a1, a2, E⟩ := mst_inv E; cases mgo_inv E
    exact lv_istore_n hx hb (mdec_n hdec hil) rfl (mLR_has hlr) (by rw [← hlr.2.2.1]; exact a1) rfl (fun ls' h' => kk X tys ws H locs ls' cells hX hw (mLR_set hz hlr a2 h') hc)
  case istore =>
    replace E := mi1_inv E; obtain ⟨x, r, rfl, E⟩ := E; obtain ⟨a1, a2, E⟩ := mst_inv E; cases mgo_inv E
    exact lv_istore hx hb (mdec_n hdec hil) (mLR_has hlr) (by rw [← hlr.2.2.1]; exact a1) rfl (fun ls' h' => kk X tys ws H locs ls' cells hX hw (mLR_set hz hlr a2 h') hc)
  case lstore_n =>
    replace E := ml1_inv E; obtain ⟨x, r, rfl, E⟩ := E; obtain ⟨a1, a2, E⟩ := mst2_inv E; cases mgo_inv E
    exact lv_lstore_n hx hb (mdec_n hdec hil) rfl (mLR_has hlr) (by rw [← hlr.2.2.1]; exact a1) rfl (fun ls' h' => kk X tys ws H locs ls' cells hX hw (mLR_set2 hz hlr a2 h') hc)
  case lstore =>
    replace E := ml1_inv E; obtain ⟨x, r, rfl, E⟩ := E; obtain ⟨a1, a2, E⟩ := mst2_inv E; cases mgo_inv E
    exact lv_lstore hx hb (mdec_n hdec hil) (mLR_has hlr) (by rw [← hlr.2.2.1]; exact a1) rfl (fun ls' h' => kk X tys ws H locs ls' cells hX hw (mLR_set2 hz hlr a2 h') hc)
  case astore_n =>
    replace E := mast_inv E; obtain ⟨v, r, rfl, hv, a1, a2, E⟩ := E; cases E
    rw [List.map_cons]
    rcases mw_ref (X := X) hz hv with e1 | ⟨a, e1⟩ <;> rw [e1]
    · exact lv_astore_nN hx hb (mdec_n hdec hil) rfl (mLR_has hlr) (by rw [← hlr.2.2.1]; exact a1) rfl (fun ls' h' => kk X tys ws H locs ls' cells hX hw (mLR_set hz hlr a2 (by rw [e1]; exact h')) hc)
    · exact lv_astore_n hx hb (mdec_n hdec hil) rfl (mLR_has hlr) (by rw [← hlr.2.2.1]; exact a1) rfl (fun ls' h' => kk X tys ws H locs ls' cells hX hw (mLR_set hz hlr a2 (by rw [e1]; exact h')) hc)
  case astore =>
    replace E := mast_inv E; obtain ⟨v, r, rfl, hv, a1, a2, E⟩ := E; cases E
    rw [List.map_cons]
    rcases mw_ref (X := X) hz hv with e1 | ⟨a, e1⟩ <;> rw [e1]
    · exact lv_astoreN hx hb (mdec_n hdec hil) (mLR_has hlr) (by rw [← hlr.2.2.1]; exact a1) rfl (fun ls' h' => kk X tys ws H locs ls' cells hX hw (mLR_set hz hlr a2 (by rw [e1]; exact h')) hc)
    · exact lv_astore hx hb (mdec_n hdec hil) (mLR_has hlr) (by rw [← hlr.2.2.1]; exact a1) rfl (fun ls' h' => kk X tys ws H locs ls' cells hX hw (mLR_set hz hlr a2 (by rw [e1]; exact h')) hc)
  case iinc =>
    replace E := mld_inv E; obtain ⟨v, h1, E⟩ := E
    split at E
    · obtain ⟨a1, a2, E⟩ := mst_inv E; cases mgo_inv E
      obtain ⟨j, hj⟩ := List.getElem?_of_mem (mlv_in (X := X) (z := z) h1)
      exact lv_iinc hx hb (mdec_n hdec hil) (mLR_has hlr) hj rfl (by rw [← hlr.2.2.1]; exact a1) rfl (fun ls' h' => kk X tys ws H locs ls' cells hX hw (mLR_set hz hlr a2 h') hc)
    · cases E
  case iadd => replace E := mi2_inv E; obtain ⟨x, y, r, rfl, E⟩ := E; cases mgo_inv E; exact lv_iadd hx hb (mdec_n hdec hil) (kk X tys ws H locs ls cells hX hw hlr hc)
  case isub => replace E := mi2_inv E; obtain ⟨x, y, r, rfl, E⟩ := E; cases mgo_inv E; exact lv_isub hx hb (mdec_n hdec hil) (kk X tys ws H locs ls cells hX hw hlr hc)
  case imul => replace E := mi2_inv E; obtain ⟨x, y, r, rfl, E⟩ := E; cases mgo_inv E; exact lv_imul hx hb (mdec_n hdec hil) (kk X tys ws H locs ls cells hX hw hlr hc)
  case iand => replace E := mi2_inv E; obtain ⟨x, y, r, rfl, E⟩ := E; cases mgo_inv E; exact lv_iand hx hb (mdec_n hdec hil) (kk X tys ws H locs ls cells hX hw hlr hc)
  case ior => replace E := mi2_inv E; obtain ⟨x, y, r, rfl, E⟩ := E; cases mgo_inv E; exact lv_ior hx hb (mdec_n hdec hil) (kk X tys ws H locs ls cells hX hw hlr hc)
  case ishl => replace E := mi2_inv E; obtain ⟨x, y, r, rfl, E⟩ := E; cases mgo_inv E; exact lv_ishl hx hb (mdec_n hdec hil) (kk X tys ws H locs ls cells hX hw hlr hc)
  case ishr => replace E := mi2_inv E; obtain ⟨x, y, r, rfl, E⟩ := E; cases mgo_inv E; exact lv_ishr hx hb (mdec_n hdec hil) (kk X tys ws H locs ls cells hX hw hlr hc)
  case iushr => replace E := mi2_inv E; obtain ⟨x, y, r, rfl, E⟩ := E; cases mgo_inv E; exact lv_iushr hx hb (mdec_n hdec hil) rfl (kk X tys ws H locs ls cells hX hw hlr hc)
  case idiv =>
    replace E := mi2_inv E; obtain ⟨x, y, r, rfl, E⟩ := E
    split at E
    · cases E
    · cases mgo_inv E; exact lv_idiv hx hb (mdec_n hdec hil) (by assumption) (kk X tys ws H locs ls cells hX hw hlr hc)
  case irem =>
    replace E := mi2_inv E; obtain ⟨x, y, r, rfl, E⟩ := E
    split at E
    · cases E
    · cases mgo_inv E; exact lv_irem hx hb (mdec_n hdec hil) (by assumption) (kk X tys ws H locs ls cells hX hw hlr hc)
  case ineg => replace E := mi1_inv E; obtain ⟨x, r, rfl, E⟩ := E; cases mgo_inv E; exact lv_ineg hx hb (mdec_n hdec hil) (kk X tys ws H locs ls cells hX hw hlr hc)
  case i2b => replace E := mi1_inv E; obtain ⟨x, r, rfl, E⟩ := E; cases mgo_inv E; exact lv_i2b hx hb (mdec_n hdec hil) rfl (kk X tys ws H locs ls cells hX hw hlr hc)
  case i2s => replace E := mi1_inv E; obtain ⟨x, r, rfl, E⟩ := E; cases mgo_inv E; exact lv_i2s hx hb (mdec_n hdec hil) rfl (kk X tys ws H locs ls cells hX hw hlr hc)
  case i2c => replace E := mi1_inv E; obtain ⟨x, r, rfl, E⟩ := E; cases mgo_inv E; exact lv_i2c hx hb (mdec_n hdec hil) rfl (kk X tys ws H locs ls cells hX hw hlr hc)
  case i2l => replace E := mi1_inv E; obtain ⟨x, r, rfl, E⟩ := E; cases mgo_inv E; exact lv_i2l hx hb (mdec_n hdec hil) rfl (kk X tys ws H locs ls cells hX hw hlr hc)
  case l2i => replace E := ml1_inv E; obtain ⟨x, r, rfl, E⟩ := E; cases mgo_inv E; exact lv_l2i hx hb (mdec_n hdec hil) rfl (kk X tys ws H locs ls cells hX hw hlr hc)
  case ladd => replace E := ml2_inv E; obtain ⟨x, y, r, rfl, E⟩ := E; cases mgo_inv E; exact lv_ladd hx hb (mdec_n hdec hil) (kk X tys ws H locs ls cells hX hw hlr hc)
  case lsub => replace E := ml2_inv E; obtain ⟨x, y, r, rfl, E⟩ := E; cases mgo_inv E; exact lv_lsub hx hb (mdec_n hdec hil) (kk X tys ws H locs ls cells hX hw hlr hc)
  case lmul => replace E := ml2_inv E; obtain ⟨x, y, r, rfl, E⟩ := E; cases mgo_inv E; exact lv_lmul hx hb (mdec_n hdec hil) (kk X tys ws H locs ls cells hX hw hlr hc)
  case lcmp => replace E := ml2_inv E; obtain ⟨x, y, r, rfl, E⟩ := E; cases mgo_inv E; exact W.lcmp hx hb (mdec_n hdec hil) (kk X tys ws H locs ls cells hX hw hlr hc)
  case dup => replace E := mv1_inv E; obtain ⟨v, r, rfl, h1, E⟩ := E; cases mgo_inv E; exact lv_dup hx hb (mdec_n hdec hil) (by rw [mre_cat hz]; exact h1) (kk X tys ws H locs ls cells hX hw hlr hc)
  case pop => replace E := mv1_inv E; obtain ⟨v, r, rfl, h1, E⟩ := E; cases mgo_inv E; exact lv_pop hx hb (mdec_n hdec hil) (by rw [mre_cat hz]; exact h1) (kk X tys ws H locs ls cells hX hw hlr hc)
  case dup_x1 =>
    replace E := mv1_inv E; obtain ⟨v, r, rfl, h1, E⟩ := E
    replace E := mv1_inv E; obtain ⟨w, r, rfl, h2, E⟩ := E
    cases mgo_inv E; exact lv_dup_x1 hx hb (mdec_n hdec hil) (by rw [mre_cat hz]; exact h1) (by rw [mre_cat hz]; exact h2) (kk X tys ws H locs ls cells hX hw hlr hc)
  case dup2 =>
    replace E := mv1_inv E; obtain ⟨v, r, rfl, h1, E⟩ := E
    replace E := mv1_inv E; obtain ⟨w, r, rfl, h2, E⟩ := E
    cases mgo_inv E; exact lv_dup2_11 hx hb (mdec_n hdec hil) (by rw [mre_cat hz]; exact h1) (by rw [mre_cat hz]; exact h2) (kk X tys ws H locs ls cells hX hw hlr hc)
  case if_icmp =>
    replace E := mi2_inv E; obtain ⟨x, y, r, rfl, E⟩ := E; obtain ⟨t, ht, E⟩ := mif_inv E; cases E
    exact micmp_snd hx hb (mdec_n hdec hil) ht (kk X tys ws H locs ls cells hX hw hlr hc)
  case ifCond =>
    replace E := mi1_inv E; obtain ⟨x, r, rfl, E⟩ := E; obtain ⟨t, ht, E⟩ := mif_inv E; cases E
    exact mif_snd hx hb (mdec_n hdec hil) ht (kk X tys ws H locs ls cells hX hw hlr hc)
  case goto => simp only [mstep] at E; replace E := mj_inv E; obtain ⟨t, ht, E⟩ := E; cases mgo_inv E; exact lv_goto hx hb (mdec_n hdec hil) ht (kk X tys ws H locs ls cells hX hw hlr hc)
  case ifnull =>
    simp only [mstep] at E
    split at E
    · split at E
      · rename_i a r ha
        cases mgo_inv E
        have K := kk X tys ws H locs ls cells hX hw hlr hc
        rw [List.map_cons, mre_at (m9 ha)]
        exact lv_ifnull hx hb (mdec_n hdec hil) K
      · cases E
    · obtain ⟨t, ht, E⟩ := mj_inv E; cases mgo_inv E; exact lv_ifnullN hx hb (mdec_n hdec hil) ht (kk X tys ws H locs ls cells hX hw hlr hc)
    · cases E
  case ifnonnull =>
    simp only [mstep] at E
    split at E
    · split at E
      · rename_i a r ha
        obtain ⟨t, ht, E⟩ := mj_inv E; cases mgo_inv E
        have K := kk X tys ws H locs ls cells hX hw hlr hc
        rw [List.map_cons, mre_at (m9 ha)]
        exact lv_ifnonnull hx hb (mdec_n hdec hil) ht K
      · cases E
    · cases mgo_inv E; exact lv_ifnonnullN hx hb (mdec_n hdec hil) (kk X tys ws H locs ls cells hX hw hlr hc)
    · cases E
  case tableswitch =>
    replace E := mi1_inv E; obtain ⟨x, r, rfl, E⟩ := E
    split at E
    · obtain ⟨t, ht, E⟩ := mj_inv E; cases mgo_inv E; exact lv_tableOut hx hb hdec (by assumption) ht (kk X tys ws H locs ls cells hX hw hlr hc)
    · rename_i hn
      split at E
      · obtain ⟨t, ht, E⟩ := mj_inv E; cases mgo_inv E; exact lv_tableIn hx hb hdec (fun g => hn (Or.inl g)) (fun g => hn (Or.inr g)) (by assumption) ht (kk X tys ws H locs ls cells hX hw hlr hc)
      · cases E
  case lookupswitch =>
    replace E := mi1_inv E; obtain ⟨x, r, rfl, E⟩ := E
    split at E
    · obtain ⟨t, ht, E⟩ := mj_inv E; cases mgo_inv E; exact lv_lookup hx hb hdec (by assumption) rfl ht (kk X tys ws H locs ls cells hX hw hlr hc)
    · cases E
  case ldc =>
    simp only [mstep] at E
    split at E
    · rename_i q1 hq1
      obtain ⟨-, h2⟩ := mcI_in hq1
      cases mgo_inv E
      exact lv_ldc hx hb hown (hts _ h2) (mdec_n hdec hil) (kk X tys ws H locs ls cells hX hw hlr hc)
    · split at E
      · rename_i i1 a b hlk1
        split at E
        · rename_i ha
          cases mgo_inv E
          have K := kk X tys ws H locs ls cells hX hw hlr hc
          rw [List.map_cons, mre_at (m13 ha)] at K
          obtain ⟨k1, k2, k3⟩ := hC'.2.2.2.2.2.2.2.2.1
          rcases mlk9_of hlk1 with ⟨e1, e2, e3⟩ | ⟨e1, e2, e3⟩ | ⟨e1, e2, e3⟩
          · rw [e1] at hown; subst e2; subst e3; exact va_ldcS hx hb hown k1 (mdec_n hdec hil) K
          · rw [e1] at hown; subst e2; subst e3; exact va_ldcS hx hb hown k2 (mdec_n hdec hil) K
          · rw [e1] at hown; subst e2; subst e3; exact va_ldcS hx hb hown k3 (mdec_n hdec hil) K
        · cases E
      · cases E
  case ldc_w =>
    simp only [mstep] at E
    split at E
    · rename_i q1 hq1
      obtain ⟨-, h2⟩ := mcI_in hq1
      cases mgo_inv E
      exact lv_ldcw hx hb hown (hts _ h2) (mdec_n hdec hil) (kk X tys ws H locs ls cells hX hw hlr hc)
    · cases E
  case ldc2_w =>
    simp only [mstep] at E
    split at E
    · rename_i q1 hq1
      obtain ⟨-, h2⟩ := mcL_in hq1
      cases mgo_inv E
      exact lv_ldc2 hx hb hown (hts _ h2) (mdec_n hdec hil) (kk X tys ws H locs ls cells hX hw hlr hc)
    · cases E
  case getstatic k =>
    simp only [mstep] at E
    split at E
    · rename_i i1 a b hlk1
      have hi := mlk_i hlk1
      subst hi
      have hW := mlk_W hlk1
      split at E
      · rename_i ha
        subst ha
        cases mgo_inv E
        have K := kk X tys ws H locs ls cells hX hw hlr hc
        rw [List.map_cons, mre_at (k := 1000) (by omega)] at K
        exact va_gets hx hb hC'.2.1 hS hown (hts _ (hW _ List.mem_cons_self)) (fun _ h => h) (mdec_n hdec hil) K
      · split at E
        · rename_i _ ha
          subst ha
          cases mgo_inv E
          have K := kk X tys ws H locs ls cells hX hw hlr hc
          rw [List.map_cons, mre_at (k := 1001) (by omega)] at K
          exact va_gets hx hb hC'.2.2.1 hS hown (hts _ (hW _ List.mem_cons_self)) (fun _ h => h) (mdec_n hdec hil) K
        · split at E
          · rename_i _ _ ha
            subst ha
            cases mgo_inv E
            exact va_gets hx hb hC'.2.2.2.1 hS hown (hts _ (hW _ List.mem_cons_self)) (fun _ h => h) (mdec_n hdec hil) (kk X tys ws H locs ls cells hX hw hlr hc)
          · split at E
            · rename_i _ _ _ ha
              subst ha
              cases mgo_inv E
              have K := kk X tys ws H locs ls cells hX hw hlr hc
              rw [List.map_cons, show mre X z (.ref 1002) = z from by simp [mre]] at K
              exact va_gets hx hb hC'.2.2.2.2.1.1 hS hown (hts _ (hW _ List.mem_cons_self)) (fun _ h => h) (mdec_n hdec hil) K
            · cases E
    · cases E
  case getfield k =>
    replace E := mr1_inv E; obtain ⟨a, r, rfl, E⟩ := E
    split at E
    · rename_i i1 ci f hlk1
      obtain ⟨fs, v, h1, h2, E⟩ := mget_inv E
      cases mgo_inv E
      have hi := mlk_i hlk1
      subst hi
      have hW := mlk_W hlk1
      have hR := mlk_r hlk1
      simp only [mlkr, Bool.and_eq_true, decide_eq_true_eq] at hR
      have K := kk X tys ws H locs ls cells hX hw hlr hc
      rw [List.map_cons, mre_at (by have := (mhok_at hh h1).2.2; omega)]
      exact va_get hx hb hts (mcls_ws ci hR.1) hown hK hP a (mRel_obj hr h1) (mcls_at ci hR.1) f hR.2 (hts _ (hW _ List.mem_cons_self)) (by rw [mcls_dc ci hR.1 f hR.2]; exact fun _ h => h) (by rw [List.getElem?_map, h2]; rfl) (mdec_n hdec hil) K
    · rename_i i1 ci f hlk1
      obtain ⟨fs, v, h1, h2, E⟩ := mget_inv E
      cases mgo_inv E
      have hi := mlk_i hlk1
      subst hi
      have hW := mlk_N hlk1
      have hR := mlk_r hlk1
      simp only [mlkr, Bool.and_eq_true, decide_eq_true_eq] at hR
      have K := kk X tys ws H locs ls cells hX hw hlr hc
      rw [List.map_cons, mre_at (by have := (mhok_at hh h1).2.2; omega)]
      exact va_getN (host := mhost) hx hb hts (mcls_ws ci hR.1) hown hK hP a (mRel_obj hr h1) (mcls_at ci hR.1) f hR.2 ((hnest _ (hW _ List.mem_cons_self)).use rfl) (by rw [mcls_dc ci hR.1 f hR.2]; exact fun _ h => h) (by rw [List.getElem?_map, h2]; rfl) (mdec_n hdec hil) K
    · rename_i i1 b c1 hlk1
      split at E
      · rename_i ha
        have hi := mlk_i hlk1
        subst hi
        have hW := mlk_W hlk1
        have hv := hC'.2.2.2.2.2.2.2.1.1 (a - 1010) (by omega)
        dsimp only at hv
        rw [m10 ha.1, m11 ha.1] at hv
        rw [List.map_cons, mre_at (k := a) (by omega)]
        split at E
        · rename_i hb0
          subst hb0
          cases mgo_inv E
          have K := kk X tys ws H locs ls cells hX hw hlr hc
          rw [List.map_cons, mre_at (k := a + 10) (by omega)] at K
          exact vk_getf hx hb hv.2.2.1 hS hown (hts _ (hW _ List.mem_cons_self)) (fun _ h => h) (mdec_n hdec hil) K
        · split at E
          · rename_i hb0
            subst hb0
            cases mgo_inv E
            exact vk_getf hx hb hv.2.1 hS hown (hts _ (hW _ List.mem_cons_self)) (fun _ h => h) (mdec_n hdec hil) (kk X tys ws H locs ls cells hX hw hlr hc)
          · cases E
      · cases E
    · cases E
  case putfield k =>
    simp only [mstep] at E
    split at E
    · rename_i v a r
      split at E
      · rename_i i1 ci f hlk1
        have hi := mlk_i hlk1
        subst hi
        have hW := mlk_W hlk1
        have hR := mlk_r hlk1
        simp only [mlkr, Bool.and_eq_true, decide_eq_true_eq] at hR
        split at E
        · rename_i hfin
          obtain ⟨fs, h1, h2, h3, h4, h5, E⟩ := mput_inv E
          cases mgo_inv E
          rw [List.map_cons, List.map_cons, mre_at (k := a) (by have := (mhok_at hh h1).2.2; omega)]
          obtain ⟨g1, g2⟩ := mfit (X := X) hz h4 h5
          have key : ∀ (H1 : Heap) (locs1 : List Loc), va_P D vwCl (ws.set a (X a, .inr (ci, (fs.map (mre X z)).set f (mre X z v)))) H1 → va_D A (ws.set a (X a, .inr (ci, (fs.map (mre X z)).set f (mre X z v)))) → va_S A s.heap H1 locs1 → W p l e R s m args below meth c H1 locs1 cells (3000 * cells) Q (F0 m (pc + 3) ls (st'.map (mre X z))) := by
            intro H1 locs1 q1 q2 q3
            exact kk X tys _ H1 locs1 ls cells hX ⟨q1, q2, hK, q3, mRel_set hr (by simp only [mcr]; rw [List.map_set])⟩ hlr (by rw [List.length_set]; exact hc)
          by_cases hf : (mTab ci f).2.2.2 = false
          · exact va_put hx hb hts (mcls_ws ci hR.1) (mTy ci) (mcls_ty ci hR.1) (mcls_nm ci hR.1) hown hK hP hD hS a (mRel_obj hr h1) (mcls_at ci hR.1) f hR.2 (hts _ (hW _ List.mem_cons_self)) (by rw [mcls_dc ci hR.1 f hR.2]; exact fun _ h => h) hf (mcls_ty ci hR.1 f hR.2) g1 g2 (by rw [List.length_map]; exact h2) (mdec_n hdec hil) key
          · obtain ⟨j1, j2⟩ := hfin.resolve_left hf
            exact va_putF hx hb hts (mcls_ws ci hR.1) (mTy ci) (mcls_ty ci hR.1) (mcls_nm ci hR.1) hown hK hP hD hS a (mRel_obj hr h1) (mcls_at ci hR.1) f hR.2 (hts _ (hW _ List.mem_cons_self)) (by rw [mcls_dc ci hR.1 f hR.2]; exact fun _ h => h) (by simpa using hf) (hin j1) (by rw [mcls_dc ci hR.1 f hR.2, j2]) (mcls_ty ci hR.1 f hR.2) g1 g2 (by rw [List.length_map]; exact h2) (mdec_n hdec hil) key
        · cases E
      · rename_i i1 ci f hlk1
        have hi := mlk_i hlk1
        subst hi
        have hW := mlk_N hlk1
        have hR := mlk_r hlk1
        simp only [mlkr, Bool.and_eq_true, decide_eq_true_eq] at hR
        split at E
        · rename_i hf
          obtain ⟨fs, h1, h2, h3, h4, h5, E⟩ := mput_inv E
          cases mgo_inv E
          rw [List.map_cons, List.map_cons, mre_at (k := a) (by have := (mhok_at hh h1).2.2; omega)]
          obtain ⟨g1, g2⟩ := mfit (X := X) hz h4 h5
          exact va_putN (host := mhost) hx hb hts (mcls_ws ci hR.1) (mTy ci) (mcls_ty ci hR.1) (mcls_nm ci hR.1) hown hK hP hD hS a (mRel_obj hr h1) (mcls_at ci hR.1) f hR.2 ((hnest _ (hW _ List.mem_cons_self)).use rfl) (by rw [mcls_dc ci hR.1 f hR.2]; exact fun _ h => h) hf (mcls_ty ci hR.1 f hR.2) g1 g2 (by rw [List.length_map]; exact h2) (mdec_n hdec hil)
            (fun H1 locs1 q1 q2 q3 => kk X tys _ H1 locs1 ls cells hX ⟨q1, q2, hK, q3, mRel_set hr (by simp only [mcr]; rw [List.map_set])⟩ hlr (by rw [List.length_set]; exact hc))
        · cases E
      · cases E
    · cases E
  case iaload =>
    simp only [mstep] at E
    split at E
    · rename_i i1 a r
      replace E := mial_inv E
      rcases E with ⟨h1, h2, E⟩ | ⟨n, g, h1, h2, E⟩
      · cases mgo_inv E
        have K := kk X tys ws H locs ls cells hX hw hlr hc
        have ha : @Eq Nat a 1000 ∨ @Eq Nat a 1001 := by
          unfold mCI at h2
          split at h2
          · exact Or.inl rfl
          · exact Or.inr rfl
          · exact absurd (Or.inr (Nat.zero_le _)) h2
        rw [List.map_cons, List.map_cons, mre_at (k := a) (by omega)]
        rcases ha with rfl | rfl
        · exact va_ti hx hb hC'.2.2.2.2.2.1 hS h2 rfl (mdec_n hdec hil) K
        · exact va_ti hx hb hC'.2.2.2.2.2.2.1 hS h2 rfl (mdec_n hdec hil) K
      · cases mgo_inv E
        have K := kk X tys ws H locs ls cells hX hw hlr hc
        rw [List.map_cons, List.map_cons, mre_at (k := a) (by have := (mhok_at hh h1).2.2; omega)]
        obtain ⟨cA, t0, j1, j2⟩ := mRel_int hr h1
        exact va_iald hx hb hK hP a t0 j2 j1 h2 (mdec_n hdec hil) K
    · cases E
  case baload =>
    simp only [mstep] at E
    split at E
    · rename_i i1 a r
      replace E := mbal_inv E; obtain ⟨h1, h2, h3, E⟩ := E
      cases mgo_inv E
      have K := kk X tys ws H locs ls cells hX hw hlr hc
      rw [List.map_cons, List.map_cons, mre_at (k := a) (by omega)]
      have hv := (hC'.2.2.2.2.2.2.2.1.1 (a - 1020) (by omega)).2.2.2
      dsimp only at hv
      rw [m20 h1, mSl _ (by omega)] at hv
      exact va_tb hx hb hv hS h3 rfl (mdec_n hdec hil) K
    · cases E
  case iastore =>
    simp only [mstep] at E
    split at E
    · rename_i x i1 a r
      replace E := mias_inv E; obtain ⟨n, g, h1, h2, E⟩ := E
      cases mgo_inv E
      rw [List.map_cons, List.map_cons, List.map_cons, mre_at (k := a) (by have := (mhok_at hh h1).2.2; omega)]
      obtain ⟨cA, t0, j1, j2⟩ := mRel_int hr h1
      exact va_iast hx hb hK hP hD hS a t0 j2 j1 h2 (mdec_n hdec hil) (fun H1 locs1 q1 q2 q3 => kk X tys _ H1 locs1 ls cells hX ⟨q1, q2, hK, q3, mRel_set hr ⟨cA, t0, j1, rfl⟩⟩ hlr (by rw [List.length_set]; exact hc))
    · cases E
  case aaload =>
    simp only [mstep] at E
    split at E
    · rename_i i1 a r
      replace E := maal_inv E; obtain ⟨cc, n, g, h1, h2, E⟩ := E
      cases mgo_inv E
      have K := kk X tys ws H locs ls cells hX hw hlr hc
      rw [List.map_cons, List.map_cons, mre_at (k := a) (by have := (mhok_at hh h1).2.2; omega)]
      obtain ⟨cA, t0, j1, j2⟩ := mRel_row hr h1
      refine va_aldq hx hb hK hP a t0 j2 j1 h2 (mdec_n hdec hil) ?_
      have e1 : va_rf ((g i1.toNatClampNeg).map X) = mre X z (va_rf (g i1.toNatClampNeg)) := by
        cases hg : g i1.toNatClampNeg with
        | none => rfl
        | some k =>
          have := (mhok_at hh h1).1 _ k hg
          have h9 := hh.1
          exact (mre_at (by omega)).symm
      rw [e1]
      exact K
    · cases E
  case aastore =>
    simp only [mstep] at E
    split at E
    · rename_i v i1 a r
      replace E := maas_inv E; obtain ⟨cc, n, g, fs, h1, h2, hcc, h3, E⟩ := E
      cases mgo_inv E
      rw [List.map_cons, List.map_cons, List.map_cons, mre_at (k := a) (by have := (mhok_at hh h1).2.2; omega), mre_at (k := v) (by have := (mhok_at hh h2).2.2; omega)]
      obtain ⟨cA, t0, j1, j2⟩ := mRel_row hr h1
      refine va_astq hx hb hK hP hD hS a t0 v cc (r := (mcn.getD cc "", mTab cc, mN cc)) j2 j1 (mRel_obj hr h2) (mcls_at cc hcc) h3 (mdec_n hdec hil) (fun H1 locs1 q1 q2 q3 => ?_)
      refine kk X tys _ H1 locs1 ls cells hX ⟨q1, q2, hK, q3, mRel_set hr ⟨cA, t0, j1, ?_⟩⟩ hlr (by rw [List.length_set]; exact hc)
      have e1 : (fun j => (va_up g i1.toNatClampNeg (some v) j).map X) = va_up (fun j => (g j).map X) i1.toNatClampNeg (some (X v)) := by
        funext j
        unfold va_up
        split <;> rfl
      rw [e1]
    · cases E
  case arraylength =>
    replace E := mr1_inv E; obtain ⟨a, r, rfl, E⟩ := E
    replace E := malen_inv E
    rw [List.map_cons]
    rcases E with ⟨h1, h2, E⟩ | ⟨h1, E⟩ | ⟨n, g, h1, E⟩ | ⟨cc, n, g, h1, E⟩
    · cases mgo_inv E
      have K := kk X tys ws H locs ls cells hX hw hlr hc
      rw [mre_at (k := a) (by omega)]
      have hv := (hC'.2.2.2.2.2.2.2.1.1 (a - 1020) (by omega)).2.2.2
      dsimp only at hv
      rw [m20 h1, mSl _ (by omega)] at hv
      exact va_tlen hx hb hv hS rfl (mdec_n hdec hil) K
    · cases mgo_inv E
      have K := kk X tys ws H locs ls cells hX hw hlr hc
      rw [mre_at (k := a) (by omega)]
      rcases h1 with rfl | rfl
      · exact va_tlen hx hb hC'.2.2.2.2.2.1 hS rfl (mdec_n hdec hil) K
      · exact va_tlen hx hb hC'.2.2.2.2.2.2.1 hS rfl (mdec_n hdec hil) K
    · cases mgo_inv E
      have K := kk X tys ws H locs ls cells hX hw hlr hc
      rw [mre_at (k := a) (by have := (mhok_at hh h1).2.2; omega)]
      obtain ⟨cA, t0, j1, j2⟩ := mRel_int hr h1
      exact va_alen hx hb hK hP a t0 j2 j1 rfl (mdec_n hdec hil) K
    · cases mgo_inv E
      have K := kk X tys ws H locs ls cells hX hw hlr hc
      rw [mre_at (k := a) (by have := (mhok_at hh h1).2.2; omega)]
      obtain ⟨cA, t0, j1, j2⟩ := mRel_row hr h1
      exact va_alen hx hb hK hP a t0 j2 j1 rfl (mdec_n hdec hil) K
  case newarray t =>
    simp only [mstep] at E
    split at E
    · replace E := mi1_inv E; obtain ⟨n, r, rfl, E⟩ := E
      split at E
      · rename_i cnd
        cases mgo_inv E
        rw [List.length_append, List.length_singleton] at hroom
        have hr1 : cells + 1 ≤ R.cells := by omega
        have hr2 : 3000 * cells + n.toNatClampNeg ≤ R.slots := by rw [hsl]; omega
        refine va_newa (atype := .int) hx hb (hts _ mcls_ai) rfl hK hP hD hS hA (a0 := (n.toNatClampNeg, .inl (fun _ => 0))) (fun cA => rfl) cnd.1 rfl (by have := cnd.2.1; show n.toNatClampNeg * 4 ≤ 536870912; omega) hr1 hr2 (mdec_n hdec hil) (fun q1 cA H1 k1 k2 k3 k4 => ?_)
        refine W.widen (k := cells + 1) (n := 3000 * (cells + 1)) (Nat.le_refl _) (by omega) ?_
        have hold := mup_old (X := X) (n := h.length) (q := q1) (by omega)
        have K := kk (mup X h.length q1) _ _ H1 locs ls (cells + 1) (fun k hk => by rw [hold k (by omega)]; exact hX k hk)
          ⟨k2, k3, k1, k4, mRel_app hh hr hold mup_at ⟨cA, tys.length, by rw [List.getElem?_append_right (Nat.le_refl _), Nat.sub_self]; rfl, rfl⟩⟩ (mLR_X hold hl hlr) (by rw [List.length_append, List.length_singleton]; omega)
        rw [List.map_cons, mre_at (k := h.length) (by omega), mup_at, mres_eq hold (mst1 hs).2] at K
        exact K
      · cases E
    · cases E
  case anewarray k =>
    replace E := mi1_inv E; obtain ⟨n, r, rfl, E⟩ := E
    split at E
    · rename_i i1 ci b hlk1
      split at E
      · rename_i cnd
        have hi := mlk_i hlk1
        subst hi
        have hW := mlk_W hlk1
        cases mgo_inv E
        rw [List.length_append, List.length_singleton] at hroom
        have hr1 : cells + 1 ≤ R.cells := by omega
        have hr2 : 3000 * cells + n.toNatClampNeg ≤ R.slots := by rw [hsl]; omega
        refine va_newq hx hb hown (hts _ (hW _ List.mem_cons_self)) (hC.2.2.2.2.2.2.2.2.2 ci cnd.2.2.2) hK hP hD hS hA cnd.1 rfl (by have := cnd.2.1; omega) hr1 hr2 (mdec_n hdec hil) (fun q1 cA H1 k1 k2 k3 k4 => ?_)
        refine W.widen (k := cells + 1) (n := 3000 * (cells + 1)) (Nat.le_refl _) (by omega) ?_
        have hold := mup_old (X := X) (n := h.length) (q := q1) (by omega)
        have K := kk (mup X h.length q1) _ _ H1 locs ls (cells + 1) (fun k hk => by rw [hold k (by omega)]; exact hX k hk)
          ⟨k2, k3, k1, k4, mRel_app hh hr hold mup_at ⟨cA, tys.length, by rw [List.getElem?_append_right (Nat.le_refl _), Nat.sub_self]; rfl, rfl⟩⟩ (mLR_X hold hl hlr) (by rw [List.length_append, List.length_singleton]; omega)
        rw [List.map_cons, mre_at (k := h.length) (by omega), mup_at, mres_eq hold (mst1 hs).2] at K
        exact K
      · cases E
    · cases E
  case new k =>
    simp only [mstep] at E
    split at E
    · rename_i i1 ci b hlk1
      split at E
      · rename_i cnd
        have hi := mlk_i hlk1
        subst hi
        have hW := mlk_W hlk1
        have hN := mcls_new ci cnd.2
        cases mgo_inv E
        rw [List.length_append, List.length_singleton] at hroom
        have hr1 : cells + 1 ≤ R.cells := by omega
        have h3 := mN_le ci cnd.2
        have hr2 : 3000 * cells + mN ci ≤ R.slots := by rw [hsl]; omega
        refine va_new hx hb hts (mcls_ws ci cnd.2) (mTy ci) (mcls_ty ci cnd.2) hown (hts _ (hW _ List.mem_cons_self)) (hts _ (hN _ List.mem_cons_self)) (hts _ (hN _ (List.mem_cons_of_mem _ List.mem_cons_self))) hK hP hD hS hA (mcls_at ci cnd.2) (fs := ((List.range (mN ci)).map (fun k => defaultValue (mTy ci k))).map (mre X z)) (mnew_V ci) hr1 hr2 (mdec_n hdec hil) (fun q1 H1 k2 k3 k4 => ?_)
        refine W.widen (k := cells + 1) (n := 3000 * (cells + 1)) (Nat.le_refl _) (by omega) ?_
        have hold := mup_old (X := X) (n := h.length) (q := q1) (by omega)
        have K := kk (mup X h.length q1) (tys ++ []) _ H1 locs ls (cells + 1) (fun k hk => by rw [hold k (by omega)]; exact hX k hk)
          ⟨k2, k3, by rw [List.append_nil]; exact hK, k4, mRel_app (t2 := []) (c := mnew ci) hh hr hold mup_at (by
            simp only [mcr, mnew]
            rw [List.map_map, List.map_map]
            refine congrArg (fun f => (Sum.inr (ci, (List.range (mN ci)).map f) : va_E)) (funext fun j => ?_)
            simp only [Function.comp, mdf_re])⟩ (mLR_X hold hl hlr) (by rw [List.length_append, List.length_singleton]; omega)
        rw [List.map_cons, mre_at (k := h.length) (by omega), mup_at, mres_eq hold hs] at K
        exact K
      · cases E
    · cases E
  case invokevirtual =>
    simp only [mstep] at E
    split at E
    · split at E
      · obtain ⟨q1, as, rest, -, -, -, ⟨-, -, E⟩ | ⟨-, b, -, -, E⟩⟩ := minv_inv E <;> cases E
      · cases E
    · cases E
  case invokestatic k =>
    simp only [mstep] at E
    split at E
    · split at E
      · obtain ⟨q1, as, rest, -, -, -, ⟨-, -, E⟩ | ⟨-, b, -, -, E⟩⟩ := minv_inv E <;> cases E
      · cases E
    · rename_i i1 a1 b1 hlk1
      have hi := mlk_i hlk1
      subst hi
      have hW := mlk_W hlk1
      replace E := mcopy_inv E
      obtain ⟨n, dp, b, sp, a, rest, n1, f, n2, g, rfl, h1, h2, h3, h4, h5, h6, h7, h8, E⟩ := E
      cases E
      rw [List.map_cons, List.map_cons, List.map_cons, List.map_cons, List.map_cons, mre_at (k := a) (by have := (mhok_at hh h1).2.2; omega), mre_at (k := b) (by have := (mhok_at hh h2).2.2; omega)]
      obtain ⟨c1, t1, j1, j2⟩ := mRel_int hr h1
      obtain ⟨c2, t2, j3, j4⟩ := mRel_int hr h2
      exact va_copyi hx hb (by rw [hml, hlr.1]) hown (hts _ (hW _ List.mem_cons_self)) (hts _ (hW _ (List.mem_cons_of_mem _ List.mem_cons_self))) (hts _ (hW _ (List.mem_cons_of_mem _ (List.mem_cons_of_mem _ List.mem_cons_self)))) (hts _ (hW _ (List.mem_cons_of_mem _ (List.mem_cons_of_mem _ (List.mem_cons_of_mem _ List.mem_cons_self)))))
        hK hP hD hS a b t1 t2 j2 j4 j1 j3 rfl h3 h4 h5 h6 h7 (fun _ _ => rfl) hfr (by rw [mre_cats hz, mnfw]; omega) (mdec_n hdec hil)
        (fun H1 locs1 q1 q2 q3 => kk X tys _ H1 locs1 ls cells hX ⟨q1, q2, hK, q3, mRel_set hr ⟨c2, t2, j3, rfl⟩⟩ hlr (by rw [List.length_set]; exact hc))
    · rename_i i1 a1 b1 hlk1
      have hi := mlk_i hlk1
      subst hi
      have hW := mlk_W hlk1
      replace E := mi2_inv E; obtain ⟨x, y, r, rfl, E⟩ := E
      split at E
      · rename_i h8
        cases mgo_inv E
        have K := kk X tys ws H locs ls cells hX hw hlr hc
        exact va_mmax hx hb (by rw [hml, hlr.1]) hown (hts _ (hW _ List.mem_cons_self)) (hts _ (hW _ (List.mem_cons_of_mem _ List.mem_cons_self))) (hts _ (hW _ (List.mem_cons_of_mem _ (List.mem_cons_of_mem _ List.mem_cons_self)))) (hts _ (hW _ (List.mem_cons_of_mem _ (List.mem_cons_of_mem _ (List.mem_cons_of_mem _ List.mem_cons_self)))))
          hfr (by rw [mre_cats hz]; omega) (by omega) (by rw [hsl]; omega) (mdec_n hdec hil) K
      · cases E
    · rename_i i1 a1 b1 hlk1
      have hi := mlk_i hlk1
      subst hi
      have hW := mlk_W hlk1
      replace E := mi2_inv E; obtain ⟨x, y, r, rfl, E⟩ := E
      split at E
      · rename_i h8
        cases mgo_inv E
        have K := kk X tys ws H locs ls cells hX hw hlr hc
        exact va_mmin hx hb (by rw [hml, hlr.1]) hown (hts _ (hW _ List.mem_cons_self)) (hts _ (hW _ (List.mem_cons_of_mem _ List.mem_cons_self))) (hts _ (hW _ (List.mem_cons_of_mem _ (List.mem_cons_of_mem _ List.mem_cons_self)))) (hts _ (hW _ (List.mem_cons_of_mem _ (List.mem_cons_of_mem _ (List.mem_cons_of_mem _ List.mem_cons_self)))))
          hfr (by rw [mre_cats hz]; omega) (by omega) (by rw [hsl]; omega) (mdec_n hdec hil) K
      · cases E
    · cases E
  case invokespecial k =>
    simp only [mstep] at E
    split at E
    · split at E
      · obtain ⟨q1, as, rest, -, -, -, ⟨-, -, E⟩ | ⟨-, b, -, -, E⟩⟩ := minv_inv E <;> cases E
      · cases E
    · rename_i i1 a1 b1 hlk1
      have hi := mlk_i hlk1
      subst hi
      have hW := mlk_W hlk1
      replace E := mr1_inv E; obtain ⟨a, r, rfl, E⟩ := E
      split at E
      · rename_i h8
        cases mgo_inv E
        have K := kk X tys ws H locs ls cells hX hw hlr hc
        rw [List.map_cons, mre_at (k := a) (by omega)]
        refine W.objInit hx hb hown (hts _ (hW _ List.mem_cons_self)) (hts _ (hW _ (List.mem_cons_of_mem _ List.mem_cons_self))) (hts _ (hW _ (List.mem_cons_of_mem _ (List.mem_cons_of_mem _ List.mem_cons_self)))) rfl (by rw [hml]; exact hlr.1) rfl (mdec_n hdec hil) hfr ?_ K
        have h9 := lv_room (m := m) (pc := pc) (ls := ls) (rest := st'.map (mre X z)) (st := st'.map (mre X z)) (by rw [mre_cats hz]; exact h8.1)
        rw [mre_cats hz] at h9 ⊢
        have h10 : (F0 m pc ls (.ref (X a) :: st'.map (mre X z))).monitorRoom = (F0 m pc ls (st'.map (mre X z))).monitorRoom := rfl
        rw [h10]
        omega
      · cases E
    · cases E
  case ireturn =>
    simp only [mstep] at E
    split at E
    · split at E
      · cases mret_inv E
      · cases E
    · cases E
  case lreturn =>
    simp only [mstep] at E
    split at E
    · split at E
      · cases mret_inv E
      · cases E
    · cases E
  case areturn =>
    simp only [mstep] at E
    split at E
    · cases mret_inv E
    · cases mret_inv E
    · cases E
  case return_ =>
    simp only [mstep] at E
    split at E
    · split at E
      · cases mret_inv E
      · cases E
    · cases E
  all_goals cases E
end SND
