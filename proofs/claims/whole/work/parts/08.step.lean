/-! a step of the small machine is a step of the machine -/
def mcr (X : Nat → Nat) (z : Value) (tys : List (ClassId × FieldType)) (c : MC) (e : va_E) : Prop := match c with
  | .inl (ci, fs) => e = .inr (ci, fs.map (mre X z))
  | .inr (.inl (n, f)) => ∃ (cA : ClassId) (t0 : Nat), tys[t0]? = some (cA, .int) ∧ e = .inl (cA, n, .inl f)
  | .inr (.inr (ci, n, f)) => ∃ (cA : ClassId) (t0 : Nat), tys[t0]? = some (cA, .object (mcn.getD ci "")) ∧ e = .inl (cA, n, .inr (.inr (.inr (.inr (fun j => (f j).map X)))))
def mRel (X : Nat → Nat) (z : Value) (tys : List (ClassId × FieldType)) (h : MH) (ws : va_W) : Prop := ws.length = h.length ∧ ∀ (k : Nat) (c : MC), h[k]? = some c → ∃ e : va_E, ws[k]? = some (X k, e) ∧ mcr X z tys c e
/-- what never changes, as the machine holds it -/
def mC (A : Nat → Prop) (X : Nat → Nat) (z : Value) (U : State) (H : Heap) : Prop :=
  (∀ w ∈ lw_nest, va_Nw w U) ∧ va_Z "PuncturesAreViews" "MOST_OF" "[I" (.ref (X 1000)) A U H ∧ va_Z "PuncturesAreViews" "UNDER" "[I" (.ref (X 1001)) A U H ∧ va_Z "java/lang/String" "COMPACT_STRINGS" "Z" (.int 1) A U H ∧
  (va_Z "jdk/internal/util/Preconditions" "SIOOBE_FORMATTER" "Ljava/util/function/BiFunction;" z A U H ∧ mzok z) ∧
  va_T .int (X 1000) 6 (fun j => .int ((mCI 1000).getD j 0)) A U H ∧ va_T .int (X 1001) 6 (fun j => .int ((mCI 1001).getD j 0)) A U H ∧
  vk_S 3 (mS.map List.length) mS (fun i => X (1010 + i)) (fun i => X (1020 + i)) A U H ∧
  (vk_R "PuncturesAreViews" 68 "lets thought * 7 ; holds 40 ; pumps 1 ;" (X 1010) U ∧ vk_R "PuncturesAreViews$Tokens" 65 "thought air     number  at      patches day     lets    holds   pumps   or      and     not     " (X 1011) U ∧ vk_R "PuncturesAreViews$Tokens" 81 "();+-*<=" (X 1012) U) ∧
  ∀ ci, ci = 1 ∨ ci = 3 ∨ ci = 5 → va_AO (mcn.getD ci "") U
theorem mnest_shape : ∀ w ∈ lw_nest, (∃ a i y h, w = .methodLinkNest a i y h) ∨ ∃ a i b n d h, w = .fieldLinkNest a i b n d h := by
  intro w hw
  have h := (List.mem_filter.mp hw).2
  cases w <;> first | exact Or.inl ⟨_, _, _, _, rfl⟩ | exact Or.inr ⟨_, _, _, _, _, _, rfl⟩ | (simp [mm_isNest] at h)
theorem mC_to {A : Nat → Prop} {X : Nat → Nat} {z : Value} {s U : State} {H0 H : Heap} (h : mC A X z s H0) (hW : s.WarmedH U.vm) (hq : ∀ a : Nat, a < H0.size → ¬ A a → H[a]? = H0[a]?) : mC A X z U H := by
  obtain ⟨h1, h2, h3, h4, ⟨h5, h5'⟩, h6, h7, h8, ⟨h9, h10, h11⟩, h12⟩ := h
  have hv := hW.alike
  refine ⟨fun w hw => ?_, (h2.moved hv).kept hq, (h3.moved hv).kept hq, (h4.moved hv).kept hq, ⟨(h5.moved hv).kept hq, h5'⟩, (h6.moved hv).kept hq, (h7.moved hv).kept hq, (h8.moved hv).kept hq, ⟨h9.warm hW, h10.warm hW, h11.warm hW⟩, fun ci hci => (h12 ci hci).moved hv⟩
  rcases mnest_shape w hw with ⟨a, i, y, h, rfl⟩ | ⟨a, i, b, n, d, h, rfl⟩
  · exact va_Nw.warmM hW (h1 _ hw)
  · exact va_Nw.warmF hW (h1 _ hw)
theorem mC_X {A : Nat → Prop} {X X' : Nat → Nat} {z : Value} {U : State} {H : Heap} (h : mC A X z U H) (hX : ∀ k, 1000 ≤ k → X' k = X k) : mC A X' z U H := by
  obtain ⟨h1, h2, h3, h4, h5, h6, h7, h8, ⟨h9, h10, h11⟩, h12⟩ := h
  refine ⟨h1, by rw [hX _ (by omega)]; exact h2, by rw [hX _ (by omega)]; exact h3, h4, h5, by rw [hX _ (by omega)]; exact h6, by rw [hX _ (by omega)]; exact h7, ?_, ⟨by rw [hX _ (by omega)]; exact h9, by rw [hX _ (by omega)]; exact h10, by rw [hX _ (by omega)]; exact h11⟩, h12⟩
  have e1 : (fun i => X' (1010 + i)) = fun i => X (1010 + i) := funext fun i => hX _ (by omega)
  have e2 : (fun i => X' (1020 + i)) = fun i => X (1020 + i) := funext fun i => hX _ (by omega)
  rw [e1, e2]
  exact h8
/-- locals -/
def mLR (X : Nat → Nat) (z : Value) (ls : Array Slot) (nL : Nat) (loc : List (Option Value)) : Prop := ls.size = nL ∧ lv_wf ls ∧ loc.length = nL ∧ ∀ (i : Nat) (v : Value), loc[i]? = some (some v) → ls[i]? = some (.val (mre X z v))
def mlv (X : Nat → Nat) (z : Value) (loc : List (Option Value)) : List (Nat × Value) := (List.range loc.length).filterMap (fun i => match loc[i]? with
  | some (some v) => some (i, mre X z v)
  | _ => none)
theorem mlv_in {X : Nat → Nat} {z : Value} {loc : List (Option Value)} {i : Nat} {v : Value} (h : loc[i]? = some (some v)) : (i, mre X z v) ∈ mlv X z loc := by
  refine List.mem_filterMap.mpr ⟨i, List.mem_range.mpr (List.getElem?_eq_some_iff.mp h).1, ?_⟩
  rw [h]
theorem mlv_of {X : Nat → Nat} {z : Value} {loc : List (Option Value)} {q : Nat × Value} (h : q ∈ mlv X z loc) : ∃ v, loc[q.1]? = some (some v) ∧ q.2 = mre X z v := by
  obtain ⟨i, -, hi⟩ := List.mem_filterMap.mp h
  split at hi
  · cases hi; exact ⟨_, by assumption, rfl⟩
  · cases hi
theorem mLR_has {X : Nat → Nat} {z : Value} {ls : Array Slot} {nL : Nat} {loc : List (Option Value)} (h : mLR X z ls nL loc) : lv_has ls nL (mlv X z loc) := by
  refine ⟨h.1, h.2.1, fun q hq => ?_⟩
  obtain ⟨v, h1, h2⟩ := mlv_of hq
  rw [h2]
  exact h.2.2.2 _ _ h1
theorem mLR_set {X : Nat → Nat} {z : Value} (hz : mzok z) {ls ls' : Array Slot} {nL : Nat} {loc : List (Option Value)} (h : mLR X z ls nL loc) {i : Nat} {v : Value} (hp : mprev loc i = true)
    (h' : lv_has ls' nL ((i, mre X z v) :: (mlv X z loc).filter (fun q => !(q.1 == i) && !(q.1 + 1 == i && q.2.category == 2)))) : mLR X z ls' nL (loc.set i (some v)) := by
  refine ⟨h'.1, h'.2.1, by rw [List.length_set]; exact h.2.2.1, fun j w hj => ?_⟩
  by_cases e : i = j
  · subst e
    rw [List.getElem?_set_self' ] at hj
    have hw : v = w := by
      cases hq : loc[i]? with
      | none => rw [hq] at hj; cases hj
      | some x => rw [hq] at hj; cases hj; rfl
    subst hw
    exact h'.2.2 (i, _) List.mem_cons_self
  · rw [List.getElem?_set_ne e] at hj
    refine h'.2.2 (j, _) (List.mem_cons_of_mem _ (List.mem_filter.mpr ⟨mlv_in hj, ?_⟩))
    simp only [Bool.and_eq_true, Bool.not_eq_true', beq_eq_false_iff_ne, ne_eq, Bool.and_eq_false_imp, beq_iff_eq]
    refine ⟨fun e2 => e e2.symm, fun e2 => ?_⟩
    subst e2
    simp only [mprev, hj, mnl] at hp
    show ¬ (mre X z w).category = 2
    rw [mre_cat hz]
    simpa using hp
theorem mLR_set2 {X : Nat → Nat} {z : Value} (hz : mzok z) {ls ls' : Array Slot} {nL : Nat} {loc : List (Option Value)} (h : mLR X z ls nL loc) {i : Nat} {v : Value} (hp : mprev loc i = true)
    (h' : lv_has ls' nL ((i, mre X z v) :: (mlv X z loc).filter (fun q => !(q.1 == i) && (!(q.1 == i + 1) && !(q.1 + 1 == i && q.2.category == 2))))) : mLR X z ls' nL ((loc.set i (some v)).set (i + 1) none) := by
  refine ⟨h'.1, h'.2.1, by rw [List.length_set, List.length_set]; exact h.2.2.1, fun j w hj => ?_⟩
  by_cases e1 : i + 1 = j
  · subst e1
    rw [List.getElem?_set_self'] at hj
    cases hq : (loc.set i (some v))[i + 1]? with
    | none => rw [hq] at hj; cases hj
    | some x => rw [hq] at hj; cases hj
  rw [List.getElem?_set_ne e1] at hj
  by_cases e : i = j
  · subst e
    rw [List.getElem?_set_self' ] at hj
    have hw : v = w := by
      cases hq : loc[i]? with
      | none => rw [hq] at hj; cases hj
      | some x => rw [hq] at hj; cases hj; rfl
    subst hw
    exact h'.2.2 (i, _) List.mem_cons_self
  · rw [List.getElem?_set_ne e] at hj
    refine h'.2.2 (j, _) (List.mem_cons_of_mem _ (List.mem_filter.mpr ⟨mlv_in hj, ?_⟩))
    simp only [Bool.and_eq_true, Bool.not_eq_true', beq_eq_false_iff_ne, ne_eq, Bool.and_eq_false_imp, beq_iff_eq]
    refine ⟨fun e2 => e e2.symm, fun e2 => e1 e2.symm, fun e2 => ?_⟩
    subst e2
    simp only [mprev, hj, mnl] at hp
    show ¬ (mre X z w).category = 2
    rw [mre_cat hz]
    simpa using hp
theorem mre_eq {X X' : Nat → Nat} {z : Value} {n : Nat} (hX : ∀ k, k < n ∨ 1000 ≤ k → X' k = X k) {v : Value} (hv : mvok n v) : mre X' z v = mre X z v := by
  cases v with
  | ref k => simp only [mre, hX k (hv k rfl)]
  | _ => rfl
theorem mres_eq {X X' : Nat → Nat} {z : Value} {n : Nat} (hX : ∀ k, k < n ∨ 1000 ≤ k → X' k = X k) {st : List Value} (hv : ∀ v ∈ st, mvok n v) : st.map (mre X' z) = st.map (mre X z) := List.map_congr_left fun v h => mre_eq hX (hv v h)
theorem mLR_X {X X' : Nat → Nat} {z : Value} {n : Nat} (hX : ∀ k, k < n ∨ 1000 ≤ k → X' k = X k) {ls : Array Slot} {nL : Nat} {loc : List (Option Value)} (hl : mlok n loc) (h : mLR X z ls nL loc) : mLR X' z ls nL loc :=
  ⟨h.1, h.2.1, h.2.2.1, fun i v e => by rw [mre_eq hX (mlok_at hl e)]; exact h.2.2.2 i v e⟩
theorem mcr_X {X X' : Nat → Nat} {z : Value} {n : Nat} (hX : ∀ k, k < n ∨ 1000 ≤ k → X' k = X k) {tys : List (ClassId × FieldType)} {c : MC} {e : va_E} (hc : mcok n c) (h : mcr X z tys c e) : mcr X' z tys c e := by
  match c, hc, h with
  | .inl (ci, fs), hc, h => simp only [mcr] at h ⊢; rw [mres_eq hX hc]; exact h
  | .inr (.inl (_, _)), _, h => exact h
  | .inr (.inr (ci, m, f)), hc, h =>
    obtain ⟨cA, t0, h1, h2⟩ := h
    refine ⟨cA, t0, h1, ?_⟩
    have e : (fun j => (f j).map X') = fun j => (f j).map X := by
      funext j
      cases hf : f j with
      | none => rfl
      | some k => simp only [Option.map_some, hX k (Or.inl (hc j k hf))]
    rw [e]; exact h2
theorem mcr_tys {X : Nat → Nat} {z : Value} {tys : List (ClassId × FieldType)} {c : MC} {e : va_E} (t2 : List (ClassId × FieldType)) (h : mcr X z tys c e) : mcr X z (tys ++ t2) c e := by
  match c, h with
  | .inl (ci, fs), h => exact h
  | .inr (.inl (_, _)), ⟨cA, t0, h1, h2⟩ => exact ⟨cA, t0, by rw [List.getElem?_append_left (List.getElem?_eq_some_iff.mp h1).1]; exact h1, h2⟩
  | .inr (.inr (ci, m, f)), ⟨cA, t0, h1, h2⟩ => exact ⟨cA, t0, by rw [List.getElem?_append_left (List.getElem?_eq_some_iff.mp h1).1]; exact h1, h2⟩
theorem mRel_set {X : Nat → Nat} {z : Value} {tys : List (ClassId × FieldType)} {h : MH} {ws : va_W} (hr : mRel X z tys h ws) {a : Nat} {c : MC} {e : va_E} (hc : mcr X z tys c e) : mRel X z tys (h.set a c) (ws.set a (X a, e)) := by
  refine ⟨by rw [List.length_set, List.length_set]; exact hr.1, fun k c' hk => ?_⟩
  by_cases hka : a = k
  · subst hka
    have hlt : a < h.length := by
      have := (List.getElem?_eq_some_iff.mp hk).1
      rwa [List.length_set] at this
    rw [List.getElem?_set_self hlt] at hk
    cases hk
    exact ⟨e, List.getElem?_set_self (by rw [hr.1]; exact hlt), hc⟩
  · rw [List.getElem?_set_ne hka] at hk ⊢
    exact hr.2 k c' hk
theorem mRel_app {X X' : Nat → Nat} {z : Value} {tys t2 : List (ClassId × FieldType)} {h : MH} {ws : va_W} (hh : mhok h) (hr : mRel X z tys h ws) (hX : ∀ k, k < h.length ∨ 1000 ≤ k → X' k = X k) {c : MC} {e : va_E} {q : Nat} (hq : X' h.length = q) (hc : mcr X' z (tys ++ t2) c e) : mRel X' z (tys ++ t2) (h ++ [c]) (ws ++ [(q, e)]) := by
  refine ⟨by simp [hr.1], fun k c' hk => ?_⟩
  rcases Nat.lt_trichotomy k h.length with h1 | h1 | h1
  · rw [List.getElem?_append_left h1] at hk
    obtain ⟨e', a1, a2⟩ := hr.2 k c' hk
    exact ⟨e', by rw [List.getElem?_append_left (by rw [hr.1]; exact h1), hX k (Or.inl h1)]; exact a1, mcr_X hX (mhok_at hh hk).1 (mcr_tys _ a2)⟩
  · subst h1
    simp at hk
    subst hk
    refine ⟨e, ?_, hc⟩
    rw [← hr.1, List.getElem?_append_right (Nat.le_refl _), Nat.sub_self, hr.1, hq]
    rfl
  · rw [List.getElem?_eq_none (by simp; omega)] at hk
    cases hk
theorem mRel_obj {X : Nat → Nat} {z : Value} {tys : List (ClassId × FieldType)} {h : MH} {ws : va_W} (hr : mRel X z tys h ws) {a ci : Nat} {fs : List Value} (e : h[a]? = some (.inl (ci, fs))) : ws[a]? = some (X a, .inr (ci, fs.map (mre X z))) := by
  obtain ⟨e', h1, h2⟩ := hr.2 _ _ e
  rw [h1]; exact congrArg (fun q => some (X a, q)) h2
theorem mRel_int {X : Nat → Nat} {z : Value} {tys : List (ClassId × FieldType)} {h : MH} {ws : va_W} (hr : mRel X z tys h ws) {a n : Nat} {f : Nat → Int32} (e : h[a]? = some (.inr (.inl (n, f)))) : ∃ (cA : ClassId) (t0 : Nat), tys[t0]? = some (cA, .int) ∧ ws[a]? = some (X a, .inl (cA, n, .inl f)) := by
  obtain ⟨e', h1, cA, t0, h2, h3⟩ := hr.2 _ _ e
  exact ⟨cA, t0, h2, by rw [h1, h3]⟩
theorem mRel_row {X : Nat → Nat} {z : Value} {tys : List (ClassId × FieldType)} {h : MH} {ws : va_W} (hr : mRel X z tys h ws) {a ci n : Nat} {f : Nat → Option Nat} (e : h[a]? = some (.inr (.inr (ci, n, f)))) : ∃ (cA : ClassId) (t0 : Nat), tys[t0]? = some (cA, .object (mcn.getD ci "")) ∧ ws[a]? = some (X a, .inl (cA, n, .inr (.inr (.inr (.inr (fun j => (f j).map X)))))) := by
  obtain ⟨e', h1, cA, t0, h2, h3⟩ := hr.2 _ _ e
  exact ⟨cA, t0, h2, by rw [h1, h3]⟩
/-- the world at a heap -/
def mWd (D : va_G) (A : Nat → Prop) (s : State) (z : Value) (X : Nat → Nat) (h : MH) (tys : List (ClassId × FieldType)) (ws : va_W) (H : Heap) (locs : List Loc) : Prop :=
  va_P D vwCl ws H ∧ va_D A ws ∧ va_K D vwCl tys s ∧ va_S A s.heap H locs ∧ mRel X z tys h ws
/-- what a frame's method has at hand: its place, its words, its constants -/
def mX0 (p : Program) (R : Room) (s : State) (m : MethodId) (args : Array Value) (meth : Method) (c : Code) (q : MI) (A : Nat → Prop) (X0 : Nat → Nat) (z : Value) : Prop :=
  p.tables.exec = Jvm.exec ∧ c.code = q.2.1 ∧ c.maxLocals = q.2.2.1 ∧ s.vm.findClass (mcn.getD q.2.2.2.2.1 "") = some m.cls ∧ (∀ w ∈ lw_good, w.before args s = true) ∧ meth.sig.returnType = q.2.2.2.1 ∧ meth.locks = false ∧ (mini1 q = true → meth.name = "<init>") ∧ mC A X0 z s s.heap ∧ (∀ a, s.heap.size ≤ a → A a) ∧
  1 ≤ R.frames ∧ 60 ≤ R.locals ∧ R.slots = 3000 * R.cells
/-- from any machine that is at this state of the small one, Q comes -/
def mAt (p : Program) (l : Launch) (e : Env) (R : Room) (s : State) (m : MethodId) (args : Array Value) (below : List Frame) (meth : Method) (c : Code) (Q : State → Prop) (D : va_G) (A : Nat → Prop) (X0 : Nat → Nat) (z : Value) (n0 nL : Nat) (pc : Nat) (loc : List (Option Value)) (st : List Value) (h : MH) : Prop :=
  ∀ (X : Nat → Nat) (tys : List (ClassId × FieldType)) (ws : va_W) (H : Heap) (locs : List Loc) (ls : Array Slot) (cells : Nat), (∀ k, k < n0 ∨ 1000 ≤ k → X k = X0 k) → mWd D A s z X h tys ws H locs → mLR X z ls nL loc → cells + n0 = h.length → W p l e R s m args below meth c H locs cells (3000 * cells) Q (F0 m pc ls (st.map (mre X z)))
