/-! the law's world: the class's heap and the reference's, side by side on the machine -/
theorem mC_narrow {A B : Nat → Prop} {X : Nat → Nat} {z : Value} {U : State} {H : Heap} (h : mC A X z U H) (hAB : ∀ q, B q → A q) : mC B X z U H := by
  obtain ⟨h1, h2, h3, h4, ⟨h5, h5'⟩, h6, h7, h8, h9, h12⟩ := h
  exact ⟨h1, h2.narrow hAB, h3.narrow hAB, h4.narrow hAB, ⟨h5.narrow hAB, h5'⟩, h6.narrow hAB, h7.narrow hAB, h8.narrow hAB, h9, h12⟩
def LWd (D : va_G) (A : Nat → Prop) (s : State) (z : Value) (K : Nat → Nat) (q0 q1 : Nat) (h h2 : MH) (H : Heap) (locs : List Loc) : Prop :=
  ∃ (X X2 : Nat → Nat) (tys tys2 : List (ClassId × FieldType)) (ws ws2 : va_W),
    (mRel X z tys h ws ∧ mRel X2 z tys2 h2 ws2) ∧ (X 0 = q0 ∧ X2 0 = q1) ∧ ((∀ k, 1000 ≤ k → X k = K k) ∧ ∀ k, 1000 ≤ k → X2 k = K k) ∧ (va_P D vwCl ws H ∧ va_P D vwCl ws2 H) ∧ (va_D A ws ∧ va_D A ws2) ∧
    (∀ (i j : Nat) (p q : Nat × va_E), ws[i]? = some p → ws2[j]? = some q → p.1 ≠ q.1) ∧ (va_K D vwCl tys s ∧ va_K D vwCl tys2 s) ∧ va_S A s.heap H locs
section LAW
variable {p : Program} {l : Launch} {e : Env} {R : Room} {s : State} {m : MethodId} {args : Array Value} {below : List Frame} {meth : Method} {c : Code} {Q : State → Prop} {D : va_G} {A : Nat → Prop} {K : Nat → Nat} {z : Value} {q0 q1 : Nat} {h h' h2 : MH} {H : Heap} {locs : List Loc} {cells slots : Nat}
theorem LWd_swap (w : LWd D A s z K q0 q1 h h2 H locs) : LWd D A s z K q1 q0 h2 h H locs := by
  obtain ⟨X, X2, tys, tys2, ws, ws2, a1, a2, a3, a4, a5, a6, a7, a8⟩ := w
  exact ⟨X2, X, tys2, tys, ws2, ws, a1.symm, a2.symm, a3.symm, a4.symm, a5.symm, fun i j p q h1 h2 e => a6 j i q p h2 h1 e.symm, a7.symm, a8⟩
/-- behind a call -/
theorem lw_back {mc ms pc : Nat} {ls : Array Slot} {st0 rest : List Value} {v : Option Value} {a : Array Value} {X X2 : Nat → Nat} {tys2 : List (ClassId × FieldType)} {ws ws2 : va_W}
    (hA : ∀ q, s.heap.size ≤ q → A q) (hv : ∀ X : Nat → Nat, v.map (mre X z) = v) (hle : 0 < h.length)
    (hr2 : mRel X2 z tys2 h2 ws2) (h0 : X 0 = q0 ∧ X2 0 = q1) (hk1 : ∀ k, 1000 ≤ k → X k = K k) (hk2 : ∀ k, 1000 ≤ k → X2 k = K k) (hP2 : va_P D vwCl ws2 H) (hD : va_D A ws ∧ va_D A ws2)
    (hx : ∀ (i j : Nat) (p q : Nat × va_E), ws[i]? = some p → ws2[j]? = some q → p.1 ≠ q.1) (hK2 : va_K D vwCl tys2 s) (hS : va_S A s.heap H locs)
    (hr : va_Run p l e R s m args below meth c H locs cells slots mc ms (F0 m pc ls st0) rest (mQc D (va_A ws H.size) X z h.length h' v a) (va_A ws H.size))
    (kk : ∀ (H1 : Heap) (locs1 : List Loc), LWd D A s z K q0 q1 h' h2 H1 locs1 → W p l e R s m args below meth c H1 locs1 (cells + mc) (slots + ms) Q (F0 m (pc + 3) ls (v.toList ++ rest))) :
    W p l e R s m args below meth c H locs cells slots Q (F0 m pc ls st0) := by
  have hAA : ∀ q, va_A ws H.size q → A q := by
    intro q hq
    rcases hq with ⟨k, e, hk⟩ | hq
    · exact hD.1.2 k _ hk
    · exact hA q (Nat.le_trans hS.1 hq)
  have hAd : ∀ (j : Nat) (q : Nat × va_E), ws2[j]? = some q → ¬ va_A ws H.size q.1 := by
    intro j q hj hq
    rcases hq with ⟨k, e, hk⟩ | hq
    · exact hx k j _ q hk hj rfl
    · exact absurd (hP2 j q hj).lt (Nat.not_lt.mpr hq)
  intro T hT Xs
  obtain ⟨v1, st₀, t, T', L, g0, X', hL, e1, e2, ⟨⟨X1, tys1, ws1, hX1, hrl1, hP1, hK1, hD1, ho⟩, hz, hk⟩, st⟩ := hr T hT Xs
  rw [hv X1] at ho
  cases ho
  rw [g0] at hz hk
  have K1 := kk T'.heap (locs ++ L) ⟨X1, X2, tys1, tys2, ws1, ws2, ⟨hrl1, hr2⟩, ⟨(hX1 0 (Or.inl hle)).trans h0.1, h0.2⟩, ⟨fun k hk => (hX1 k (Or.inr hk)).trans (hk1 k hk), hk2⟩,
    ⟨by rw [e1]; exact hP1, by rw [e1]; exact hP2.kept (fun k q hq => hk q.1 (hP2 k q hq).lt (hAd k q hq))⟩, ⟨hD1.weaken (fun k q _ ha => hAA _ ha), hD.2⟩,
    fun i j p q h1 h2 ee => hAd j q h2 (ee ▸ hD1.2 i p h1), ⟨va_K.moved (by rw [← e2]; exact X'.warmed.alike.symm) hK1, hK2⟩,
    ⟨Nat.le_trans hS.1 (by rw [e1]; exact hz), fun q h1 h2 => by rw [e1, hk q (Nat.lt_of_lt_of_le h1 hS.1) (fun ha => h2 (hAA q ha))]; exact hS.2.1 q h1 h2, fun q hq => by
      rcases List.mem_append.mp hq with h | h
      · exact hS.2.2 q h
      · exact hAA _ (hL q h)⟩⟩
  obtain ⟨t2, a1, b1⟩ := K1 T' rfl X'
  exact ⟨t2, st t2 a1, b1⟩
theorem lw_goodIn (hts : ∀ w ∈ lw_tbl, w.before args s = true) : ∀ w ∈ lw_good, w.before args s = true := fun w hw => hts w (List.mem_filter.mp hw).1
theorem mre_list {X : Nat → Nat} {z : Value} {as : List Value} (has : ∀ a ∈ as, ∃ x, a = .int x) : as.map (mre X z) = as := by
  induction as with
  | nil => rfl
  | cons a r ih =>
    obtain ⟨x, rfl⟩ := has a List.mem_cons_self
    rw [List.map_cons, ih (fun b hb => has b (List.mem_cons_of_mem _ hb))]
    rfl
/-- what a call of the law's stands on -/
theorem lw_pre {q : MI} {as : List Value} {X : Nat → Nat} {tys : List (ClassId × FieldType)} {ws : va_W} (hC : mC A K z s s.heap) (hA : ∀ q, s.heap.size ≤ q → A q) (h0 : X 0 = q0) (hk1 : ∀ k, 1000 ≤ k → X k = K k) (hP : va_P D vwCl ws H) (hD : va_D A ws) (hK : va_K D vwCl tys s) (hS : va_S A s.heap H locs) (has : ∀ a ∈ as, ∃ x, a = .int x) :
    ∀ U : State, U.heap = H → s.WarmedH U.vm → mPc D (va_A ws H.size) X z tys ws H.size (.ref 0 :: as) (Value.ref q0 :: as).toArray U := by
  intro U hU hW
  have hAA : ∀ q, va_A ws H.size q → A q := by
    intro q hq
    rcases hq with ⟨k, e, hk⟩ | hq
    · exact hD.2 k _ hk
    · exact hA q (Nat.le_trans hS.1 hq)
  refine ⟨?_, by rw [hU], by rw [hU]; exact hP, va_K.moved hW.alike hK, hD.self, mC_narrow (by rw [hU]; exact mC_to (mC_X hC hk1) hW hS.2.1) hAA, fun q hq => Or.inr hq⟩
  rw [List.map_cons, mre_list has, mre_at (by decide), h0]
theorem lw_callV {d n k pc idx ci : Nat} {as fs : List Value} {ls : Array Slot} {rest : List Value} {v : Option Value} {q : MI} {own : String} (hf : CallFix p m c code 4 s args lw_tbl own)
    (hC : mC A K z s s.heap) (hA : ∀ q, s.heap.size ≤ q → A q) (hw : LWd D A s z K q0 q1 h h2 H locs) (E : mcall d n k (.ref 0 :: as) h = some (v, h')) (hq : mtab[k]? = some q) (hh : mhok h)
    (hr0 : h[0]? = some (.inl (ci, fs))) (hci : ci < 10 ∧ q.2.2.2.2.1 = ci) (has : ∀ a ∈ as, ∃ x, a = .int x) (hv : ∀ X : Nat → Nat, v.map (mre X z) = v) (hn : as.length = q.2.2.2.2.2)
    (hlnk : Cond.methodLink own idx q.1 ∈ lw_tbl) (hins : Cond.instanceMethod q.1 ∈ lw_tbl) (hsel : Cond.selects q.1.cls q.1 q.1 ∈ lw_tbl) (hfr : d + 1 ≤ R.frames ∧ 60 * (d + 1) ≤ R.locals) (hd : decode code pc = .ok (.invokevirtual idx, 3))
    (hcat : (rest.map fun v => v.category).sum ≤ 8) (hls : ls.size = 4) (hlen : h'.length = h.length) (hroom : cells ≤ R.cells ∧ slots ≤ R.slots)
    (kk : ∀ (H1 : Heap) (locs1 : List Loc), LWd D A s z K q0 q1 h' h2 H1 locs1 → W p l e R s m args below meth c H1 locs1 cells slots Q (F0 m (pc + 3) ls (v.toList ++ rest))) :
    W p l e R s m args below meth c H locs cells slots Q (F0 m pc ls (as.reverse ++ .ref q0 :: rest)) := by
  obtain ⟨X, X2, tys, tys2, ws, ws2, a1, a2, a3, a4, a5, a6, a7, a8⟩ := hw
  have h0 : 0 < h.length := (List.getElem?_eq_some_iff.mp hr0).1
  have hts := hf.2.2.2.2
  have htg := lw_goodIn hts
  obtain ⟨t1, t2, t3, t4, t5, t6⟩ := mtok_use hq
  have hok : ∀ a ∈ Value.ref 0 :: as, mvok h.length a := by
    intro a ha
    rcases List.mem_cons.mp ha with rfl | ha
    · exact mvok_lt h0
    · obtain ⟨x, rfl⟩ := has a ha
      exact mvok_int
  have hmet := mSnd_all d n k (.ref 0 :: as) h v h' q E hq hh hok l D (va_A ws H.size) X z tys ws H.size a1.1
  have hz0 : h'.length - h.length = 0 := by omega
  rw [hz0] at hmet
  have hpar : ∀ sig, parseMethodDescriptor q.1.desc = some sig → q.2.2.2.2.2 = sig.parameters.length := fun sig hsig => by rw [hsig] at t3; simpa using t3.symm
  have hrecv : ∃ cellB : Cell, H[q0]? = some cellB ∧ cellB.vm.isStatics = false ∧ s.vm.findClass q.1.cls = some cellB.cls := by
    have hv := va_recv a7.1 a4.1 (mcls_at ci hci.1) (mRel_obj a1.1 hr0)
    rw [t1, hci.2, ← a2.1]
    exact hv
  have hrun := va_runV (p := p) (l := l) (e := e) (R := R) (below := below) (meth := meth) (locs := locs) (cells := cells) (slots := slots) (g := F0 m pc ls (as.reverse ++ .ref q0 :: rest)) (n := q.2.2.2.2.2) (C := q.1.cls) (b := q0) (rest := rest) hf hmet
    ⟨⟨rfl, rfl, hfr.1, by show 8 + (q.2.2.1 + 11) + 60 * d ≤ R.locals; omega, mWS_warm hq htg, List.mem_cons_self, htg _ ((mtab_in hq).2 _ List.mem_cons_self), htg _ ((mtab_in hq).2 _ (List.mem_cons_of_mem _ List.mem_cons_self)), t2, hpar, hts _ hlnk⟩, hts _ hins, hts _ hsel⟩
    ⟨mPc_blind, hrecv, lw_pre (q := q) hC hA a2.1 a3.1 a4.1 a5.1 a7.1 a8 has⟩ rfl hn hls rfl (lv_room hcat) hd ⟨by omega, by omega⟩
  exact lw_back hA hv h0 a1.2 a2 a3.1 a3.2 a4.2 a5 a6 a7.2 a8 hrun kk
theorem lw_callI {d n k pc idx ci : Nat} {fs : List Value} {ls : Array Slot} {rest : List Value} {q : MI} {own : String} (hf : CallFix p m c code 4 s args lw_tbl own)
    (hC : mC A K z s s.heap) (hA : ∀ q, s.heap.size ≤ q → A q) (hw : LWd D A s z K q0 q1 h h2 H locs) (E : mcall d n k [.ref 0] h = some (none, h')) (hq : mtab[k]? = some q) (hh : mhok h)
    (hr0 : h[0]? = some (.inl (ci, fs))) (hret : q.2.2.2.1 = none ∧ q.1.name = "<init>") (hn : 0 = q.2.2.2.2.2)
    (hlnk : Cond.methodLink own idx q.1 ∈ lw_tbl) (hins : Cond.instanceMethod q.1 ∈ lw_tbl) (hfr : d + 1 ≤ R.frames ∧ 60 * (d + 1) ≤ R.locals) (hd : decode code pc = .ok (.invokespecial idx, 3))
    (hcat : (rest.map fun v => v.category).sum ≤ 8) (hls : ls.size = 4) {mc : Nat} (hlen : h'.length - h.length = mc) (hroom : cells + mc ≤ R.cells ∧ slots + 3000 * mc ≤ R.slots)
    (kk : ∀ (H1 : Heap) (locs1 : List Loc), LWd D A s z K q0 q1 h' h2 H1 locs1 → W p l e R s m args below meth c H1 locs1 (cells + mc) (slots + 3000 * mc) Q (F0 m (pc + 3) ls rest)) :
    W p l e R s m args below meth c H locs cells slots Q (F0 m pc ls (.ref q0 :: rest)) := by
  obtain ⟨X, X2, tys, tys2, ws, ws2, a1, a2, a3, a4, a5, a6, a7, a8⟩ := hw
  have h0 : 0 < h.length := (List.getElem?_eq_some_iff.mp hr0).1
  have hts := hf.2.2.2.2
  have htg := lw_goodIn hts
  obtain ⟨t1, t2, t3, t4, t5, t6⟩ := mtok_use hq
  have hok : ∀ a ∈ [Value.ref 0], mvok h.length a := by
    intro a ha
    rw [List.mem_singleton.mp ha]
    exact mvok_lt h0
  have hmet := mSnd_all d n k [.ref 0] h none h' q E hq hh hok l D (va_A ws H.size) X z tys ws H.size a1.1
  rw [hlen] at hmet
  have hpar : ∀ sig, parseMethodDescriptor q.1.desc = some sig → q.2.2.2.2.2 = sig.parameters.length := fun sig hsig => by rw [hsig] at t3; simpa using t3.symm
  have hcode := htg _ ((mtab_in hq).2 _ List.mem_cons_self)
  have hmem : Cond.code q.1 q.2.1 q.2.2.1 q.2.2.2.1 ∈ mWS q := List.mem_cons_self
  rw [hret.1] at hcode hmem
  have hrun := va_runI (p := p) (l := l) (e := e) (R := R) (below := below) (meth := meth) (locs := locs) (cells := cells) (slots := slots) (g := F0 m pc ls (.ref q0 :: rest)) (n := q.2.2.2.2.2) (b := q0) (As := []) (rest := rest) hf hmet
    ⟨⟨rfl, rfl, hfr.1, by show 8 + (q.2.2.1 + 11) + 60 * d ≤ R.locals; omega, mWS_warm hq htg, hmem, hcode, htg _ ((mtab_in hq).2 _ (List.mem_cons_of_mem _ List.mem_cons_self)), t2, hpar, hts _ hlnk⟩, hret.2, hts _ hins⟩
    ⟨mPc_blind, lw_pre (q := q) (as := []) hC hA a2.1 a3.1 a4.1 a5.1 a7.1 a8 (fun _ h => by cases h)⟩ rfl hn hls rfl (lv_room hcat) hd hroom
  exact lw_back (v := none) hA (fun _ => rfl) h0 a1.2 a2 a3.1 a3.2 a4.2 a5 a6 a7.2 a8 hrun kk
end LAW
