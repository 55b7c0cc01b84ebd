/-! a method of the small machine is the machine's: contracts out of runs -/
theorem m12 {b : Nat} (h : 1010 ≤ b ∧ b < 1013) : b ≠ 1002 := by omega
theorem m103 {b : Nat} (h : 1010 ≤ b ∧ b < 1013) : b - 1010 < 3 := by omega
def mroom (d mc : Nat) : Room := { frames := d, cells := mc, slots := 3000 * mc, locals := 60 * d }
def mWS (q : MI) : List Cond := .code q.1 q.2.1 q.2.2.1 q.2.2.2.1 :: lw_good
def mPc (D : va_G) (A : Nat → Prop) (X : Nat → Nat) (z : Value) (tys : List (ClassId × FieldType)) (ws : va_W) (sz : Nat) (as : List Value) : Array Value → State → Prop := fun a U =>
  a = (as.map (mre X z)).toArray ∧ U.heap.size = sz ∧ va_P D vwCl ws U.heap ∧ va_K D vwCl tys U ∧ va_D A ws ∧ mC A X z U U.heap ∧ ∀ q, sz ≤ q → A q
def mQc (D : va_G) (A : Nat → Prop) (X : Nat → Nat) (z : Value) (n : Nat) (h' : MH) (v : Option Value) : Array Value → State → Outcome → State → Prop := fun _ st o t =>
  (∃ (X' : Nat → Nat) (tys' : List (ClassId × FieldType)) (ws' : va_W), (∀ k, k < n ∨ 1000 ≤ k → X' k = X k) ∧ mRel X' z tys' h' ws' ∧ va_P D vwCl ws' t.heap ∧ va_K D vwCl tys' t ∧ va_D A ws' ∧ o = .returned (v.map (mre X' z))) ∧ va_F A st t
theorem mPc_blind {D : va_G} {A : Nat → Prop} {X : Nat → Nat} {z : Value} {tys : List (ClassId × FieldType)} {ws : va_W} {sz : Nat} {as : List Value} : FrameBlind (mPc D A X z tys ws sz as) := by
  intro a U g mk ⟨h1, h2, h3, h4, h5, h6, h7⟩
  have hW : U.WarmedH (U.calling g mk a).vm := State.WarmedH.refl U
  exact ⟨h1, h2, h3, va_K.moved (u := U) (U := U.calling g mk a) (Vm.Alike.refl U.vm) h4, h5, mC_to (U := U.calling g mk a) h6 hW (fun _ _ _ => rfl), h7⟩
def mSnd (d : Nat) : Prop := ∀ (n k : Nat) (as : List Value) (h : MH) (v : Option Value) (h' : MH) (q : MI), mcall d n k as h = some (v, h') → mtab[k]? = some q → mhok h → (∀ a ∈ as, mvok h.length a) →
  ∀ (l : Launch) (D : va_G) (A : Nat → Prop) (X : Nat → Nat) (z : Value) (tys : List (ClassId × FieldType)) (ws : va_W) (sz : Nat), mRel X z tys h ws →
    Met l q.1 (mWS q) (mroom d (h'.length - h.length)) (mPc D A X z tys ws sz as) (mQc D A X z h.length h' v) (h'.length - h.length) (3000 * (h'.length - h.length)) A
theorem mWS_warm {q : MI} {k : Nat} (hq : mtab[k]? = some q) {s : State} {args : Array Value} (hts : ∀ w ∈ lw_good, w.before args s = true) : ∀ w ∈ mWS q, ∀ (a' : Array Value) (U : State), s.WarmedH U.vm → w.before a' U = true := by
  intro w hw a' U hW
  have hg : w ∈ lw_good := by
    rcases List.mem_cons.mp hw with h | h
    · rw [h]; exact (mtab_in hq).2 _ List.mem_cons_self
    · exact h
  exact word_at hW (good_of_word (List.mem_filter.mp hg).2) (hts w hg)
theorem mtok_use {k : Nat} {q : MI} (h : mtab[k]? = some q) : q.1.cls = mcn.getD q.2.2.2.2.1 "" ∧ (q.1.cls ≠ "java/lang/invoke/MethodHandle" ∧ q.1.cls ≠ "java/lang/invoke/VarHandle") ∧ (parseMethodDescriptor q.1.desc).map (fun d => d.parameters.length) = some q.2.2.2.2.2 ∧ q.2.2.1 ≤ 40 ∧ plainName q.1.cls = true ∧ q.2.2.2.2.1 < 14 := by
  have h1 := (mtab_in h).1
  simp only [mtok, Bool.and_eq_true, decide_eq_true_eq] at h1
  obtain ⟨⟨⟨⟨⟨a1, a2⟩, a3⟩, a4⟩, a5⟩, a6⟩ := h1
  exact ⟨a1, a2, a3, a4, a5, a6⟩
theorem mInits : ∀ cn ∈ List.range 14, ∀ e ∈ mlk.getD cn [], e.2.1 = 6 → e.2.2.2 = 4 ∨ e.2.2.2 = 5 → (mMI e.2.2.1).1.name = "<init>" ∧ (mMI e.2.2.1).2.2.2.1 = none := by decide +kernel
theorem mInit_of {cn k i a b : Nat} (h : mlkf cn k = some (i, 6, a, b)) (hb : b = 4 ∨ b = 5) : (mMI a).1.name = "<init>" ∧ (mMI a).2.2.2.1 = none := by
  have h2 := List.mem_of_find?_eq_some h
  have hc : cn < 14 := by
    rcases Nat.lt_or_ge cn 14 with x | x
    · exact x
    · exact absurd h2 (by rw [List.getD_eq_getElem?_getD, List.getElem?_eq_none (by simpa [mlk] using x)]; exact List.not_mem_nil)
  exact mInits cn (List.mem_range.mpr hc) _ h2 rfl hb
section CALLS
variable {p : Program} {l : Launch} {e : Env} {R : Room} {s : State} {m : MethodId} {args : Array Value} {below : List Frame} {meth : Method} {c : Code} {Q : State → Prop} {D : va_G} {A : Nat → Prop} {X0 : Nat → Nat} {z : Value} {n0 : Nat} {q : MI}
theorem mret_snd (C : mX0 p R s m args meth c q A X0 z) {i : Instr} {len pc : Nat} {loc : List (Option Value)} {st : List Value} {h : MH} {v : Option Value} (hh : mhok h) (hs : ∀ v ∈ st, mvok h.length v)
    (hdec : decode q.2.1 pc = .ok (i, len)) (hil : ilok i len = true) (hr : mRetS i q.2.2.2.1 st v) :
    mAt p l e R s m args below meth c (MQ below (mQc D A X0 z n0 h v) args s (h.length - n0) (3000 * (h.length - n0)) A) D A X0 z n0 q.2.2.1 pc loc st h := by
  obtain ⟨hx, hb, hml, hown, hts, hrt, hlk, hin, hC, hA, hfr, hlo, hsl⟩ := C
  have hz : mzok z := hC.2.2.2.2.1.2
  intro X tys ws H locs ls cells hX hw hlr hc
  obtain ⟨hP, hD, hK, hS, hrl⟩ := hw
  have hcl : h.length - n0 = cells := by omega
  rw [hcl]
  have key : ∀ t : State, t.heap = H → s.WarmedH t.vm → mQc D A X0 z n0 h v args s (.returned (v.map (mre X z))) t := fun t ht hW => ⟨⟨X, tys, ws, hX, hrl, by rw [ht]; exact hP, va_K.moved hW.alike hK, hD, rfl⟩, hS.F ht⟩
  rcases hr with ⟨rfl, x, t, rfl, h1, h2, rfl⟩ | ⟨rfl, x, rfl, h1, rfl⟩ | ⟨rfl, w, t, rfl, h1, h2, rfl⟩ | ⟨rfl, rfl, h1, rfl⟩
  · exact W.zret hx hb (hrt.trans h1) h2 key hS.2.2 (mdec_n hdec hil)
  · exact W.lret hx hb (hrt.trans h1) key hS.2.2 (mdec_n hdec hil)
  · exact W.aret hx hb (hrt.trans h1) (Or.inl ⟨_, rfl⟩) (mw_ref hz h2) key hS.2.2 (mdec_n hdec hil)
  · exact W.vret hx hb (hrt.trans h1) key hS.2.2 (mdec_n hdec hil)
/-- behind a call -/
theorem mback {H : Heap} {locs : List Loc} {cells mc pc : Nat} {ls : Array Slot} {st0 : List Value} {tys : List (ClassId × FieldType)} {ws : va_W} {X : Nat → Nat} {h h' : MH} {v : Option Value} {rest : List Value} {loc : List (Option Value)} {nL : Nat} {a : Array Value}
    (hA : ∀ q, s.heap.size ≤ q → A q) (hX : ∀ k, k < n0 ∨ 1000 ≤ k → X k = X0 k) (hw : mWd D A s z X h tys ws H locs) (hlr : mLR X z ls nL loc) (hlok : mlok h.length loc) (hrok : ∀ v ∈ rest, mvok h.length v) (hn : n0 ≤ h.length)
    (hc : cells + n0 = h.length) (hle : h.length ≤ h'.length) (hmc : mc = h'.length - h.length)
    (hr : va_Run p l e R s m args below meth c H locs cells (3000 * cells) mc (3000 * mc) (F0 m pc ls st0) (rest.map (mre X z)) (mQc D A X z h.length h' v a) A)
    (kk : mAt p l e R s m args below meth c Q D A X0 z n0 nL (pc + 3) loc (v.toList ++ rest) h') : W p l e R s m args below meth c H locs cells (3000 * cells) Q (F0 m pc ls st0) := by
  obtain ⟨hP, hD, hK, hS, hrl⟩ := hw
  intro T hT Xs
  obtain ⟨v1, st₀, t, T', L, g0, X', hL, e1, e2, ⟨⟨X1, tys1, ws1, hX1, hrl1, hP1, hK1, hD1, ho⟩, hz, hk⟩, st⟩ := hr T hT Xs
  cases ho
  rw [g0] at hz hk
  have K := kk X1 tys1 ws1 T'.heap (locs ++ L) ls (cells + mc) (fun k hk => by rw [hX1 k (by omega)]; exact hX k hk)
    ⟨by rw [e1]; exact hP1, hD1, va_K.moved (by rw [← e2]; exact X'.warmed.alike.symm) hK1, ⟨Nat.le_trans hS.1 (by rw [e1]; exact hz), fun q h1 h2 => by rw [e1, hk q (Nat.lt_of_lt_of_le h1 hS.1) h2]; exact hS.2.1 q h1 h2, fun q hq => by
      rcases List.mem_append.mp hq with h | h
      · exact hS.2.2 q h
      · exact hL q h⟩, hrl1⟩ (mLR_X hX1 hlok hlr) (by omega)
  rw [show 3000 * (cells + mc) = 3000 * cells + 3000 * mc by omega] at K
  obtain ⟨t2, a1, b1⟩ := K T' rfl X'
  refine ⟨t2, st t2 ?_, b1⟩
  have e3 : (v.toList ++ rest).map (mre X1 z) = (v.map (mre X1 z)).toList ++ rest.map (mre X z) := by
    rw [List.map_append, mres_eq hX1 hrok]
    cases v <;> rfl
  rw [e3] at a1
  exact a1
theorem mcall_snd {d N : Nat} (IH : mSnd d) (C : mX0 p R s m args meth c q A X0 z) (hRd : d + 1 ≤ R.frames) (hRl : 60 * (d + 1) ≤ R.locals) {i : Instr} {len pc pc' : Nat} {loc loc' : List (Option Value)} {st rest : List Value} {h h' : MH} {k : Nat} {as : List Value} {v : Option Value}
    (hh : mhok h) (hl : mlok h.length loc) (hs : ∀ v ∈ st, mvok h.length v) (hn0 : n0 ≤ h.length) (hdec : decode q.2.1 pc = .ok (i, len)) (hil : ilok i len = true) (E : mstep q.2.2.2.2.1 q.2.2.2.1 (mini1 q) i pc loc st h = some (.inr (.inr (k, as, (pc', loc', rest)))))
    (hcl : mcall d N k as h = some (v, h')) (hroom : h'.length ≤ n0 + R.cells) (kk : mAt p l e R s m args below meth c Q D A X0 z n0 q.2.2.1 pc' loc' (v.toList ++ rest) h') : mAt p l e R s m args below meth c Q D A X0 z n0 q.2.2.1 pc loc st h := by
  obtain ⟨rfl, hasok, hrok⟩ := mstep_ok hh hl hs E
  obtain ⟨hx, hb, hml, hown, hts, hrt, hlk, hin, hC, hA, hfr, hlo, hsl⟩ := C
  have hz : mzok z := hC.2.2.2.2.1.2
  have hnest := hC.1
  intro X tys ws H locs ls cells hX hw hlr hc
  have hX1 : ∀ k, 1000 ≤ k → X k = X0 k := fun k hk => hX k (Or.inr hk)
  have hC' := mC_X hC hX1
  obtain ⟨hP, hD, hK, hS, hr⟩ := id hw
  obtain ⟨hle, -, -⟩ := mcall_ok d N _ _ _ _ _ hcl hh hasok
  rcases mstep_nr E with ⟨x, hx9⟩ | ⟨v9, hx9, -⟩ | ⟨idx, i0, id9, md, hlk1, hi, E2⟩
  · cases hx9
  · cases hx9
  have hi0 := mlk_i hlk1
  subst hi0
  have hWd := mlk_W hlk1
  have hNs := mlk_N hlk1
  obtain ⟨q1, as1, rest1, hq1, hlen, hcat, hcase⟩ := minv_inv E2
  have hM := mtab_d hq1
  obtain ⟨t1, t2, t3, t4, t5, t6⟩ := mtok_use hq1
  have hini : (Cond.initialized q1.1.cls).before args s = true := hts _ ((mtab_in hq1).2 _ (List.mem_cons_of_mem _ List.mem_cons_self))
  have hcode : (Cond.code q1.1 q1.2.1 q1.2.2.1 q1.2.2.2.1).before args s = true := hts _ ((mtab_in hq1).2 _ List.mem_cons_self)
  have hmet := fun (l : Launch) (as : List Value) (hcl : mcall d N id9 as h = some (v, h')) (hasok : ∀ a ∈ as, mvok h.length a) => IH N id9 as h v h' q1 hcl hq1 hh hasok l D A X z tys ws H.size hr
  have hrr : (mroom d (h'.length - h.length)).frames + 1 ≤ R.frames ∧ 8 + (q1.2.2.1 + 11) + (mroom d (h'.length - h.length)).locals ≤ R.locals := ⟨hRd, by show 8 + (q1.2.2.1 + 11) + 60 * d ≤ R.locals; omega⟩
  have hcs : cells + (h'.length - h.length) ≤ R.cells ∧ 3000 * cells + 3000 * (h'.length - h.length) ≤ R.slots := ⟨by omega, by rw [hsl]; omega⟩
  have hpar : ∀ sig, parseMethodDescriptor q1.1.desc = some sig → q1.2.2.2.2.2 = sig.parameters.length := fun sig hsig => by rw [hsig] at t3; simpa using t3.symm
  have hsz : s.heap.size ≤ H.size := hS.1
  have hpc : ∀ as : List Value, ∀ U : State, U.heap = H → s.WarmedH U.vm → mPc D A X z tys ws H.size as (as.map (mre X z)).toArray U := fun as U hU hW => ⟨rfl, by rw [hU], by rw [hU]; exact hP, va_K.moved hW.alike hK, hD, by rw [hU]; exact mC_to hC' hW hS.2.1, fun q hq => hA q (Nat.le_trans hsz hq)⟩
  have hfix : CallFix p m c q.2.1 q.2.2.1 s args lw_good (mcn.getD q.2.2.2.2.1 "") := ⟨hx, hb, hml, hown, hts⟩
  rcases hcase with ⟨hmd, rfl, Eo⟩ | ⟨hmd, b, rfl, hrcv, Eo⟩
  · cases Eo
    have hbase : (mroom d (h'.length - h.length)).cells = h'.length - h.length ∧ (mroom d (h'.length - h.length)).slots = 3000 * (h'.length - h.length) ∧ (mroom d (h'.length - h.length)).frames + 1 ≤ R.frames ∧ 8 + (q1.2.2.1 + 11) + (mroom d (h'.length - h.length)).locals ≤ R.locals ∧ (∀ w ∈ mWS q1, ∀ (a' : Array Value) (U : State), s.WarmedH U.vm → w.before a' U = true) ∧ Cond.code q1.1 q1.2.1 q1.2.2.1 q1.2.2.2.1 ∈ mWS q1 := ⟨rfl, rfl, hrr.1, hrr.2, mWS_warm hq1 hts, List.mem_cons_self⟩
    have hstk : (as.reverse ++ rest).map (mre X z) = (as.map (mre X z)).reverse ++ rest.map (mre X z) := by rw [List.map_append, List.map_reverse]
    rw [hstk]
    rcases hi with ⟨rfl, hmm⟩ | ⟨rfl, hmm⟩ | ⟨rfl, hmm⟩
    · exact absurd hmd (by omega)
    · rcases hmm with rfl | rfl
      · have hsta : (Cond.static q1.1).before args s = true := by have := hts _ (hWd _ (List.mem_cons_of_mem _ List.mem_cons_self)); rwa [hM] at this
        have hlnk : (Cond.methodLink (mcn.getD q.2.2.2.2.1 "") i0 q1.1).before args s = true := by have := hts _ (hWd _ List.mem_cons_self); rwa [hM] at this
        exact mback hA hX hw hlr hl hrok hn0 hc hle rfl (va_runS (n := q1.2.2.2.2.2) hfix (hmet l as hcl hasok) ⟨⟨hbase.1, hbase.2.1, hbase.2.2.1, hbase.2.2.2.1, hbase.2.2.2.2.1, hbase.2.2.2.2.2, hcode, hini, t2, hpar, hlnk⟩, hsta⟩ ⟨mPc_blind, hpc as⟩ rfl (by rw [List.length_map]; exact hlen) hlr.1 rfl (lv_room (by rw [mre_cats hz]; exact hcat)) (mdec_n hdec hil) hcs) kk
      · have hsta : (Cond.static q1.1).before args s = true := by have := hts _ (hWd _ List.mem_cons_self); rwa [hM] at this
        have hlnk : (Cond.methodLinkNest (mcn.getD q.2.2.2.2.1 "") i0 q1.1 mhost).before args s = true := by have := (hnest _ (hNs _ List.mem_cons_self)).use (A := args) rfl; rwa [hM] at this
        exact mback hA hX hw hlr hl hrok hn0 hc hle rfl (va_runSN (n := q1.2.2.2.2.2) (host := mhost) hfix (hmet l as hcl hasok) ⟨⟨hbase, hcode, hini, t2, hpar, hlnk⟩, hsta, trivial⟩ ⟨mPc_blind, hpc as⟩ rfl (by rw [List.length_map]; exact hlen) hlr.1 rfl (lv_room (by rw [mre_cats hz]; exact hcat)) (mdec_n hdec hil) hcs) kk
    · exact absurd hmd (by omega)
  · cases Eo
    have hbase : (mroom d (h'.length - h.length)).cells = h'.length - h.length ∧ (mroom d (h'.length - h.length)).slots = 3000 * (h'.length - h.length) ∧ (mroom d (h'.length - h.length)).frames + 1 ≤ R.frames ∧ 8 + (q1.2.2.1 + 11) + (mroom d (h'.length - h.length)).locals ≤ R.locals ∧ (∀ w ∈ mWS q1, ∀ (a' : Array Value) (U : State), s.WarmedH U.vm → w.before a' U = true) ∧ Cond.code q1.1 q1.2.1 q1.2.2.1 q1.2.2.2.1 ∈ mWS q1 := ⟨rfl, rfl, hrr.1, hrr.2, mWS_warm hq1 hts, List.mem_cons_self⟩
    -- the receiver
    have hrb : b ≠ 1002 ∧ ∃ cellB : Cell, H[X b]? = some cellB ∧ cellB.vm.isStatics = false ∧ s.vm.findClass q1.1.cls = some cellB.cls := by
      unfold mrcv at hrcv
      split at hrcv
      · rename_i hbk
        refine ⟨m12 hbk, ?_⟩
        have h10 : q1.2.2.2.2.1 = 10 := by simpa using hrcv
        have hv := vk_recv (i := b - 1010) hC'.2.2.2.2.2.2.2.1 (m103 hbk) hS
        rw [t1, h10]
        rw [m10 hbk.1] at hv
        exact hv
      · split at hrcv
        · rename_i cc fs hbh
          simp only [Bool.and_eq_true, beq_iff_eq, decide_eq_true_eq] at hrcv
          refine ⟨m9 (mhok_at hh hbh).2.2, ?_⟩
          have hv := va_recv hK hP (mcls_at cc (by rw [hrcv.1]; exact hrcv.2)) (mRel_obj hr hbh)
          rw [t1, ← hrcv.1]
          exact hv
        · cases hrcv
    obtain ⟨hb9, hrecv⟩ := hrb
    have hstk : (as1.reverse ++ Value.ref b :: rest).map (mre X z) = (as1.map (mre X z)).reverse ++ Value.ref (X b) :: rest.map (mre X z) := by rw [List.map_append, List.map_reverse, List.map_cons, mre_at hb9]
    rw [hstk]
    have hpb : ∀ U : State, U.heap = H → s.WarmedH U.vm → mPc D A X z tys ws H.size (.ref b :: as1) (Value.ref (X b) :: as1.map (mre X z)).toArray U := fun U hU hW => by
      have := hpc (.ref b :: as1) U hU hW
      rw [List.map_cons, mre_at hb9] at this
      exact this
    rcases hi with ⟨rfl, hmm⟩ | ⟨rfl, hmm⟩ | ⟨rfl, hmm⟩
    · rcases hmm with rfl | rfl
      · have hins : (Cond.instanceMethod q1.1).before args s = true := by have := hts _ (hWd _ (List.mem_cons_of_mem _ List.mem_cons_self)); rwa [hM] at this
        have hsel : (Cond.selects q1.1.cls q1.1 q1.1).before args s = true := by have := hts _ (hWd _ (List.mem_cons_of_mem _ (List.mem_cons_of_mem _ List.mem_cons_self))); rwa [hM] at this
        have hlnk : (Cond.methodLink (mcn.getD q.2.2.2.2.1 "") i0 q1.1).before args s = true := by have := hts _ (hWd _ List.mem_cons_self); rwa [hM] at this
        exact mback hA hX hw hlr hl hrok hn0 hc hle rfl (va_runV (n := q1.2.2.2.2.2) (C := q1.1.cls) hfix (hmet l _ hcl hasok) ⟨⟨hbase.1, hbase.2.1, hbase.2.2.1, hbase.2.2.2.1, hbase.2.2.2.2.1, hbase.2.2.2.2.2, hcode, hini, t2, hpar, hlnk⟩, hins, hsel⟩ ⟨mPc_blind, hrecv, hpb⟩ rfl (by rw [List.length_map]; exact hlen) hlr.1 rfl (lv_room (by rw [mre_cats hz]; exact hcat)) (mdec_n hdec hil) hcs) kk
      · have hins : (Cond.instanceMethod q1.1).before args s = true := by have := hts _ (hWd _ List.mem_cons_self); rwa [hM] at this
        have hsel : (Cond.selects q1.1.cls q1.1 q1.1).before args s = true := by have := hts _ (hWd _ (List.mem_cons_of_mem _ List.mem_cons_self)); rwa [hM] at this
        have hlnk : (Cond.methodLinkNest (mcn.getD q.2.2.2.2.1 "") i0 q1.1 mhost).before args s = true := by have := (hnest _ (hNs _ List.mem_cons_self)).use (A := args) rfl; rwa [hM] at this
        exact mback hA hX hw hlr hl hrok hn0 hc hle rfl (va_runVN (n := q1.2.2.2.2.2) (C := q1.1.cls) (host := mhost) hfix (hmet l _ hcl hasok) ⟨⟨hbase, hcode, hini, t2, hpar, hlnk⟩, hins, hsel⟩ ⟨mPc_blind, hrecv, hpb⟩ rfl (by rw [List.length_map]; exact hlen) hlr.1 rfl (lv_room (by rw [mre_cats hz]; exact hcat)) (mdec_n hdec hil) hcs) kk
    · exact absurd hmm hmd
    · have hin2 := mInit_of hlk1 hmm
      rw [hM] at hin2
      rw [hin2.2] at hcode
      have hbase6 : Cond.code q1.1 q1.2.1 q1.2.2.1 none ∈ mWS q1 := by have := hbase.2.2.2.2.2; rwa [hin2.2] at this
      rcases hmm with rfl | rfl
      · have hins : (Cond.instanceMethod q1.1).before args s = true := by have := hts _ (hWd _ (List.mem_cons_of_mem _ List.mem_cons_self)); rwa [hM] at this
        have hlnk : (Cond.methodLink (mcn.getD q.2.2.2.2.1 "") i0 q1.1).before args s = true := by have := hts _ (hWd _ List.mem_cons_self); rwa [hM] at this
        exact mback hA hX hw hlr hl hrok hn0 hc hle rfl (va_runI (n := q1.2.2.2.2.2) hfix (hmet l _ hcl hasok) ⟨⟨hbase.1, hbase.2.1, hbase.2.2.1, hbase.2.2.2.1, hbase.2.2.2.2.1, hbase6, hcode, hini, t2, hpar, hlnk⟩, hin2.1, hins⟩ ⟨mPc_blind, hpb⟩ rfl (by rw [List.length_map]; exact hlen) hlr.1 rfl (lv_room (by rw [mre_cats hz]; exact hcat)) (mdec_n hdec hil) hcs) kk
      · have hins : (Cond.instanceMethod q1.1).before args s = true := by have := hts _ (hWd _ List.mem_cons_self); rwa [hM] at this
        have hlnk : (Cond.methodLinkNest (mcn.getD q.2.2.2.2.1 "") i0 q1.1 mhost).before args s = true := by have := (hnest _ (hNs _ List.mem_cons_self)).use (A := args) rfl; rwa [hM] at this
        exact mback hA hX hw hlr hl hrok hn0 hc hle rfl (va_runIN (n := q1.2.2.2.2.2) (host := mhost) hfix (hmet l _ hcl hasok) ⟨⟨⟨hbase.1, hbase.2.1, hbase.2.2.1, hbase.2.2.2.1, hbase.2.2.2.2.1, hbase6⟩, hcode, hini, t2, hpar, hlnk⟩, hin2.1, hins⟩ ⟨mPc_blind, hpb⟩ rfl (by rw [List.length_map]; exact hlen) hlr.1 rfl (lv_room (by rw [mre_cats hz]; exact hcat)) (mdec_n hdec hil) hcs) kk
theorem mloop_snd {d N : Nat} (IH : mSnd d) (C : mX0 p R s m args meth c q A X0 z) (hRd : d + 1 ≤ R.frames) (hRl : 60 * (d + 1) ≤ R.locals) : ∀ (n pc : Nat) (loc : List (Option Value)) (st : List Value) (h : MH) (v : Option Value) (h' : MH), mloop (mcall d N) q n (pc, loc, st) h = some (v, h') → mhok h → mlok h.length loc → (∀ a ∈ st, mvok h.length a) → n0 ≤ h.length → h'.length ≤ n0 + R.cells →
    mAt p l e R s m args below meth c (MQ below (mQc D A X0 z n0 h' v) args s (h'.length - n0) (3000 * (h'.length - n0)) A) D A X0 z n0 q.2.2.1 pc loc st h := by
  intro n
  induction n with
  | zero => intro pc loc st h v h' E; cases E
  | succ n ih =>
    intro pc loc st h v h' E hh hl hs hn hroom
    simp only [mloop] at E
    split at E
    · cases E
    · rename_i i hf
      have hdec : ∃ len, decode q.2.1 pc = .ok (i, len) ∧ ilok i len = true := by
        unfold mfetch at hf
        split at hf
        · split at hf
          · cases hf; exact ⟨_, by assumption, by assumption⟩
          · cases hf
        · cases hf
      obtain ⟨len, hdec, hil⟩ := hdec
      split at E
      · cases E
      · rename_i fr' h1 hst
        obtain ⟨pc', loc', st'⟩ := fr'
        obtain ⟨k1, k2, k3, k4⟩ := mstep_ok hh hl hs hst
        have k5 := (mloop_ok (mcall_ok d N) _ _ _ _ _ _ _ E k2 k3 k4).1
        exact mstep_snd C hh hl hs hn hdec hil (Nat.le_trans k5 hroom) hst (ih _ _ _ _ _ _ E k2 k3 k4 (Nat.le_trans hn k1) hroom)
      · rename_i r hst
        rcases mstep_nr hst with ⟨x, hx9⟩ | ⟨v9, hx9, hret⟩ | ⟨idx, i0, id9, md, hlk1, hi, E2⟩
        · cases hx9
        · cases hx9
          cases E
          exact mret_snd C hh hs hdec hil hret
        · obtain ⟨q1, as1, rest1, hq1, hlen, hcat, ⟨-, -, Eo⟩ | ⟨-, b, -, -, Eo⟩⟩ := minv_inv E2 <;> cases Eo
      · rename_i k as pc' loc' rest hst
        obtain ⟨h1, h2, h3⟩ := mstep_ok hh hl hs hst
        subst h1
        split at E
        · cases E
        · rename_i v1 h1 hcl
          obtain ⟨c1, c2, c3⟩ := mcall_ok d N _ _ _ _ _ hcl hh h2
          have g1 : mlok h1.length loc' := fun v hv => mvok_le (hl v hv) c1
          have g2 : ∀ a ∈ v1.toList ++ rest, mvok h1.length a := fun a ha => by
            rcases List.mem_append.mp ha with x | x
            · cases v1 with
              | none => cases x
              | some w => rw [List.mem_singleton.mp x]; exact c3 w rfl
            · exact mvok_le (h3 a x) c1
          have k5 := (mloop_ok (mcall_ok d N) _ _ _ _ _ _ _ E c2 g1 g2).1
          exact mcall_snd IH C hRd hRl hh hl hs hn hdec hil hst hcl (Nat.le_trans k5 hroom) (ih _ _ _ _ _ _ E c2 g1 g2 (Nat.le_trans hn c1) hroom)
end CALLS
theorem mlg_len {X : Nat → Nat} {z : Value} (hz : mzok z) (as : List Value) : (lg_sl (as.map (mre X z))).length = (lg_sl as).length := by
  induction as with
  | nil => rfl
  | cons v r ih =>
    simp only [lg_sl, List.map_cons, List.flatMap_cons, List.length_append, mre_cat hz] at ih ⊢
    rw [ih]
    split <;> rfl
theorem mentry_args {X : Nat → Nat} {z : Value} (hz : mzok z) (n : Nat) : ∀ (as : List Value) (i j : Nat) (v : Value), ((as.flatMap fun v => if v.category = 2 then [some v, none] else [some v]) ++ List.replicate n none)[i]? = some (some v) → (i + j, mre X z v) ∈ lv_args j (as.map (mre X z)) := by
  intro as
  induction as with
  | nil =>
    intro i j v h
    simp only [List.flatMap_nil, List.nil_append] at h
    exact absurd (List.eq_of_mem_replicate (List.mem_of_getElem? h)) (by simp)
  | cons w r ih =>
    intro i j v h
    simp only [List.flatMap_cons, List.map_cons, lv_args, mre_cat hz] at h ⊢
    by_cases hw : w.category = 2
    · rw [if_pos hw] at h ⊢
      match i, h with
      | 0, h => simp at h; subst h; simp
      | 1, h => simp at h
      | i + 2, h =>
        have h2 := ih i (j + 2) v (by simpa using h)
        rw [show i + (j + 2) = i + 2 + j by omega] at h2
        exact List.mem_cons_of_mem _ h2
    · rw [if_neg hw] at h ⊢
      match i, h with
      | 0, h => simp at h; subst h; simp
      | i + 1, h =>
        have h2 := ih i (j + 1) v (by simpa using h)
        rw [show i + (j + 1) = i + 1 + j by omega] at h2
        exact List.mem_cons_of_mem _ h2
theorem mentry_len (as : List Value) (n : Nat) (h : (lg_sl as).length ≤ n) : (mentry as n).length = n := by
  have e : ∀ as : List Value, (as.flatMap fun v => if v.category = 2 then [some v, none] else [some v]).length = (lg_sl as).length := by
    intro as
    induction as with
    | nil => rfl
    | cons v r ih =>
      simp only [lg_sl, List.flatMap_cons, List.length_append] at ih ⊢
      rw [ih]
      split <;> rfl
  rw [mentry, List.length_append, e, List.length_replicate]
  omega
theorem mSnd_all : ∀ d, mSnd d := by
  intro d
  induction d with
  | zero => intro n k as h v h' q E; cases E
  | succ d IH =>
    intro n k as h v h' q E hq hh has l D A X z tys ws sz hrl
    simp only [mcall, hq] at E
    split at E
    · rename_i hfit
      obtain ⟨t1, t2, t3, t4, t5, t6⟩ := mtok_use hq
      refine Met.ofW (cc := q.2.1) (maxL := q.2.2.1) (ret := q.2.2.2.1) t5 rfl ?_
      intro p e s m args below meth c s₁ B hml hv
      obtain ⟨rfl, hsz, hP, hK, hD, hC, hA⟩ := hv
      have hz : mzok z := hC.2.2.2.2.1.2
      subst hsz
      have hts : ∀ w ∈ lw_good, w.before ((as.map (mre X z)).toArray) s = true := fun w hw => atoms_spec (ws := mWS q) B.pre w (List.mem_cons_of_mem _ hw)
      have hown : s.vm.findClass (mcn.getD q.2.2.2.2.1 "") = some m.cls := by rw [← t1]; exact findClass_of_methodNamed B.named
      have hctx : mX0 p (mroom (d + 1) (h'.length - h.length)) s m (as.map (mre X z)).toArray meth c q A X z :=
        ⟨B.exec, B.bytes, hml, hown, hts, B.returns, B.notSynchronized, fun hi => by rw [(name_of_methodNamed B.named B.method).1]; simpa [mini1] using hi, hC, hA, by show 1 ≤ d + 1; omega, by show 60 ≤ 60 * (d + 1); omega, rfl⟩
      rw [lg_entry_eq]
      have hl0 := lv_entry (as.map (mre X z)) (n := q.2.2.1) (by rw [mlg_len hz]; exact hfit)
      generalize (lg_sl (as.map (mre X z)) ++ List.replicate (q.2.2.1 - (lg_sl (as.map (mre X z))).length) Slot.unset).toArray = ls at hl0 ⊢
      have hlr : mLR X z ls q.2.2.1 (mentry as q.2.2.1) := ⟨hl0.1, hl0.2.1, mentry_len as _ hfit, fun i v hv => hl0.2.2 (i, _) (by have := mentry_args (X := X) hz _ as i 0 v hv; rwa [Nat.add_zero] at this)⟩
      have hle := (mloop_ok (mcall_ok d n) _ _ _ _ _ _ _ E hh (mentry_ok has) (fun _ h => by cases h)).1
      have K := mloop_snd (p := p) (l := l) (e := e) (below := below) (D := D) (n0 := h.length) IH hctx (Nat.le_refl _) (Nat.le_refl _) _ _ _ _ _ _ _ E hh (mentry_ok has) (fun _ h => by cases h) (Nat.le_refl _) (by show h'.length ≤ h.length + (h'.length - h.length); omega)
      have K2 := K X tys ws s.heap [] ls 0 (fun _ _ => rfl) ⟨hP, hD, hK, va_S.rf, hrl⟩ hlr (Nat.zero_add _)
      exact K2
    · cases E
