/-! runs of the small machine, as predicates: mRun d k as h P: method k, called with as at h, ends with an answer and a heap of P, at most d methods deep; mFr: the same from within a frame -/
theorem mloop_mono {call call' : MCall} (hc : ∀ k as h r, call k as h = some r → call' k as h = some r) {q : MI} : ∀ (n n' : Nat) (fr : MF) (h : MH) (r : Option Value × MH), n ≤ n' → mloop call q n fr h = some r → mloop call' q n' fr h = some r := by
  intro n
  induction n with
  | zero => intro n' fr h r _ e; cases e
  | succ n ih =>
    intro n' fr h r hn e
    obtain ⟨m, rfl⟩ : ∃ m, n' = m + 1 := ⟨n' - 1, by omega⟩
    simp only [mloop] at e ⊢
    split at e
    · cases e
    · rename_i i hf
      split at e
      · cases e
      · rename_i fr' h' hs
        exact ih m _ _ _ (by omega) e
      · rename_i r' hs
        exact e
      · rename_i k as pc loc rest hs
        split at e
        · cases e
        · rename_i v h' hcl
          simp only [hc _ _ _ _ hcl]
          exact ih m _ _ _ (by omega) e
theorem mcall_mono : ∀ (d n n' : Nat), n ≤ n' → ∀ k as h r, mcall d n k as h = some r → mcall d n' k as h = some r := by
  intro d
  induction d with
  | zero => intro n n' _ k as h r e; cases e
  | succ d ih =>
    intro n n' hn k as h r e
    simp only [mcall] at e ⊢
    split at e
    · cases e
    · split at e
      · rename_i hf
        simp only [hf, if_true]
        exact mloop_mono (ih n n' hn) _ _ _ _ _ hn e
      · cases e
abbrev MP : Type := Option Value → MH → Prop
def mRun (d k : Nat) (as : List Value) (h : MH) (P : MP) : Prop := ∃ n v h', mcall d n k as h = some (v, h') ∧ P v h'
def mFr (d k : Nat) (pc : Nat) (loc : List (Option Value)) (st : List Value) (h : MH) (P : MP) : Prop := ∃ q n v h', mtab[k]? = some q ∧ mloop (mcall d n) q n (pc, loc, st) h = some (v, h') ∧ P v h'
theorem mRun_mono {d k : Nat} {as : List Value} {h : MH} {P P' : MP} (hr : mRun d k as h P) (hp : ∀ v h', P v h' → P' v h') : mRun d k as h P' := by
  obtain ⟨n, v, h', e, p⟩ := hr
  exact ⟨n, v, h', e, hp v h' p⟩
theorem mRun_S {d k : Nat} {as : List Value} {h : MH} {P : MP} {q : MI} (hq : mtab[k]? = some q) (hl : (lg_sl as).length ≤ q.2.2.1) : mRun (d + 1) k as h P = mFr d k 0 (mentry as q.2.2.1) [] h P := by
  refine propext ⟨fun ⟨n, v, h', e, p⟩ => ?_, fun ⟨q', n, v, h', e1, e, p⟩ => ?_⟩
  · simp only [mcall, hq, if_pos hl] at e
    exact ⟨q, n, v, h', hq, e, p⟩
  · cases hq.symm.trans e1
    refine ⟨n, v, h', ?_, p⟩
    simp only [mcall, hq, if_pos hl]
    exact e
/-- what a step gives -/
def mres (d k : Nat) (h : MH) (P : MP) : MR → Prop
  | none => False
  | some (.inl ((pc, loc, st), h')) => mFr d k pc loc st h' P
  | some (.inr (.inl (v, h'))) => P v h'
  | some (.inr (.inr (id, as, (pc, loc, rest)))) => mRun d id as h (fun v h' => mFr d k pc loc (v.toList ++ rest) h' P)
theorem mFr_S {d k pc : Nat} {loc : List (Option Value)} {st : List Value} {h : MH} {P : MP} {q : MI} {i : Instr} (hq : mtab[k]? = some q) (hf : mfetch q.2.1 pc = some i) :
    mFr d k pc loc st h P = mres d k h P (mstep q.2.2.2.2.1 q.2.2.2.1 (mini1 q) i pc loc st h) := by
  refine propext ⟨fun ⟨q', n, v, h', e1, e, p⟩ => ?_, fun hr => ?_⟩
  · cases hq.symm.trans e1
    cases n with
    | zero => cases e
    | succ n =>
      simp only [mloop, hf] at e
      split at e
      · cases e
      · rename_i fr' h1 hs
        obtain ⟨pc', loc', st'⟩ := fr'
        rw [hs]
        exact ⟨q, n + 1, v, h', hq, mloop_mono (fun _ _ _ _ x => x) _ _ _ _ _ (Nat.le_succ n) e, p⟩
      · rename_i r hs
        rw [hs]
        cases e
        exact p
      · rename_i id as pc' loc' rest hs
        rw [hs]
        split at e
        · cases e
        · rename_i v1 h1 hcl
          exact ⟨n + 1, v1, h1, hcl, q, n + 1, v, h', hq, mloop_mono (fun _ _ _ _ x => x) _ _ _ _ _ (Nat.le_succ n) e, p⟩
  · revert hr
    generalize hs : mstep q.2.2.2.2.1 q.2.2.2.1 (mini1 q) i pc loc st h = o
    intro hr
    match o, hs, hr with
    | some (.inl ((pc', loc', st'), h1)), hs, ⟨q', n, v, h', e1, e, p⟩ =>
      cases hq.symm.trans e1
      refine ⟨q, n + 1, v, h', hq, ?_, p⟩
      simp only [mloop, hf, hs]
      exact mloop_mono (mcall_mono d n (n + 1) (Nat.le_succ n)) _ _ _ _ _ (Nat.le_refl n) e
    | some (.inr (.inl (v, h1))), hs, p =>
      refine ⟨q, 1, v, h1, hq, ?_, p⟩
      simp only [mloop, hf, hs]
    | some (.inr (.inr (id, as, (pc', loc', rest)))), hs, ⟨n1, v1, h1, hcl, q', n, v, h', e1, e, p⟩ =>
      cases hq.symm.trans e1
      refine ⟨q, n1 + n + 1, v, h', hq, ?_, p⟩
      simp only [mloop, hf, hs]
      rw [mcall_mono d n1 (n1 + n + 1) (by omega) _ _ _ _ hcl]
      exact mloop_mono (mcall_mono d n (n1 + n + 1) (by omega)) _ _ _ _ _ (by omega) e
/-! the steps as equations, one a kind of instruction -/
/-- a field -/
def pget (h : MH) (a ci f : Nat) (K : Value → Prop) : Prop := match h[a]? with
  | some (.inl (c, fs)) => if c = ci then (match fs[f]? with
    | some v => K v
    | none => False) else False
  | _ => False
def pput (h : MH) (a ci f : Nat) (v : Value) (K : MH → Prop) : Prop := match h[a]? with
  | some (.inl (c, fs)) => if c = ci ∧ f < fs.length ∧ f < mN ci ∧ narrow (mTy ci f) v = v ∧ fits (mTy ci f) v = true then K (h.set a (.inl (c, fs.set f v))) else False
  | _ => False
def pix (i : Int32) (n : Nat) (K : Nat → Prop) : Prop := if i < 0 ∨ n ≤ i.toNatClampNeg then False else K i.toNatClampNeg
def pial (h : MH) (a : Nat) (i : Int32) (K : Int32 → Prop) : Prop := if 1000 ≤ a then pix i (mCI a).length (fun j => K ((mCI a).getD j 0)) else match h[a]? with
  | some (.inr (.inl (n, g))) => pix i n (fun j => K (g j))
  | _ => False
def pias (h : MH) (a : Nat) (i x : Int32) (K : MH → Prop) : Prop := match h[a]? with
  | some (.inr (.inl (n, g))) => pix i n (fun j => K (h.set a (.inr (.inl (n, upd g j x)))))
  | _ => False
def paal (h : MH) (a : Nat) (i : Int32) (K : Value → Prop) : Prop := match h[a]? with
  | some (.inr (.inr (_, n, g))) => pix i n (fun j => K (va_rf (g j)))
  | _ => False
def palen (h : MH) (a : Nat) (K : Nat → Prop) : Prop := if 1020 ≤ a ∧ a < 1023 then K (mS.getD (a - 1020) []).length else if 1000 ≤ a then (if a = 1000 ∨ a = 1001 then K 6 else False) else match h[a]? with
  | some (.inr (.inl (n, _))) => K n
  | some (.inr (.inr (_, n, _))) => K n
  | _ => False
def pbal (a : Nat) (i : Int32) (K : Int32 → Prop) : Prop := if 1020 ≤ a ∧ a < 1023 then pix i (mS.getD (a - 1020) []).length (fun j => K ((mS.getD (a - 1020) []).getD j 0)) else False
def pcopy (h : MH) (a : Nat) (sp : Int32) (b : Nat) (dp n : Int32) (K : MH → Prop) : Prop := match h[a]?, h[b]? with
  | some (.inr (.inl (n0, f))), some (.inr (.inl (n1, g))) => if ¬ sp < 0 ∧ ¬ dp < 0 ∧ ¬ n < 0 ∧ sp.toNatClampNeg + n.toNatClampNeg ≤ n0 ∧ dp.toNatClampNeg + n.toNatClampNeg ≤ n1 then K (h.set b (.inr (.inl (n1, va_cpy f g sp.toNatClampNeg dp.toNatClampNeg n.toNatClampNeg)))) else False
  | _, _ => False
/-- a switch: value, target -/
def psw (x : Int32) (K : Nat → Prop) (dflt : Nat) : List (Int32 × Nat) → Prop
  | [] => K dflt
  | (c, t) :: r => if x = c then K t else psw x K dflt r
def pswT (x : Int32) (dflt : Nat) : List (Int32 × Nat) → Nat
  | [] => dflt
  | (c, t) :: r => if x = c then t else pswT x dflt r
theorem psw_T {x : Int32} {K : Nat → Prop} {dflt : Nat} : ∀ l : List (Int32 × Nat), psw x K dflt l = K (pswT x dflt l) := by
  intro l
  induction l with
  | nil => rfl
  | cons q r ih => 
    simp only [psw, pswT]
    split
    · rfl
    · exact ih
section FS
variable {d k pc : Nat} {loc : List (Option Value)} {st : List Value} {h : MH} {P : MP} {q : MI}
theorem mres_ite {c : Prop} [Decidable c] {a b : MR} : mres d k h P (if c then a else b) = if c then mres d k h P a else mres d k h P b := by split <;> rfl
theorem mres_j {off : Int} {t : Nat} {f : Nat → MR} (ht : (pc : Int) + off = (t : Int)) : mj pc off f = f t := by
  unfold mj
  rw [ht, if_pos (Int.natCast_nonneg t)]
  rfl
theorem F_icmp {c : Jvm.ClassFile.Cond} {off : Int} (t : Nat) {x y : Int32} (hq : mtab[k]? = some q) (hf : mfetch q.2.1 pc = some (.if_icmp c off)) (ht : (pc : Int) + off = (t : Int)) :
    mFr d k pc loc (.int y :: .int x :: st) h P = if mcond c x y = true then mFr d k t loc st h P else mFr d k (pc + 3) loc st h P := by
  rw [mFr_S hq hf]
  show mres d k h P (mif _ pc off loc st h) = _
  unfold mif
  rw [mres_j ht, mres_ite]
  rfl
theorem F_ifz {c : Jvm.ClassFile.Cond} {off : Int} (t : Nat) {x : Int32} (hq : mtab[k]? = some q) (hf : mfetch q.2.1 pc = some (.ifCond c off)) (ht : (pc : Int) + off = (t : Int)) :
    mFr d k pc loc (.int x :: st) h P = if mcond c x 0 = true then mFr d k t loc st h P else mFr d k (pc + 3) loc st h P := by
  rw [mFr_S hq hf]
  show mres d k h P (mif _ pc off loc st h) = _
  unfold mif
  rw [mres_j ht, mres_ite]
  rfl
theorem mif_eq {x y : Int32} {A B : Prop} : (if mcond .eq x y = true then A else B) = if x = y then A else B := by by_cases e : x = y <;> simp [mcond, e]
theorem mif_ne {x y : Int32} {A B : Prop} : (if mcond .ne x y = true then A else B) = if x = y then B else A := by
  by_cases e : x = y
  · rw [if_neg (by simp [mcond, e]), if_pos e]
  · rw [if_pos (by simp [mcond, e]), if_neg e]
theorem mif_lt {x y : Int32} {A B : Prop} : (if mcond .lt x y = true then A else B) = if x < y then A else B := by by_cases e : x < y <;> simp [mcond, e]
theorem mif_ge {x y : Int32} {A B : Prop} : (if mcond .ge x y = true then A else B) = if x < y then B else A := by
  by_cases e : x < y
  · rw [if_neg (by simp [mcond, e]), if_pos e]
  · rw [if_pos (by simpa [mcond] using e), if_neg e]
theorem mif_gt {x y : Int32} {A B : Prop} : (if mcond .gt x y = true then A else B) = if y < x then A else B := by by_cases e : y < x <;> simp [mcond, e]
theorem mif_le {x y : Int32} {A B : Prop} : (if mcond .le x y = true then A else B) = if y < x then B else A := by
  by_cases e : y < x
  · rw [if_neg (by simp [mcond, e]), if_pos e]
  · rw [if_pos (by simpa [mcond] using e), if_neg e]
theorem F_div {x y : Int32} (hq : mtab[k]? = some q) (hf : mfetch q.2.1 pc = some .idiv) : mFr d k pc loc (.int y :: .int x :: st) h P = if y = 0 then False else mFr d k (pc + 1) loc (.int (x / y) :: st) h P := by
  rw [mFr_S hq hf]
  exact mres_ite
theorem F_rem {x y : Int32} (hq : mtab[k]? = some q) (hf : mfetch q.2.1 pc = some .irem) : mFr d k pc loc (.int y :: .int x :: st) h P = if y = 0 then False else mFr d k (pc + 1) loc (.int (x - x / y * y) :: st) h P := by
  rw [mFr_S hq hf]
  exact mres_ite
theorem F_goto {off : Int} (t : Nat) (hq : mtab[k]? = some q) (hf : mfetch q.2.1 pc = some (.goto off)) (ht : (pc : Int) + off = (t : Int)) : mFr d k pc loc st h P = mFr d k t loc st h P := by
  rw [mFr_S hq hf]
  simp only [mstep, mr1]
  rw [mres_j ht]
  rfl
theorem F_ifnullR {off : Int} {a : Nat} (hq : mtab[k]? = some q) (hf : mfetch q.2.1 pc = some (.ifnull off)) : mFr d k pc loc (.ref a :: st) h P = if a < 900 then mFr d k (pc + 3) loc st h P else False := by
  rw [mFr_S hq hf]
  exact mres_ite
theorem F_ifnullN {off : Int} (t : Nat) (hq : mtab[k]? = some q) (hf : mfetch q.2.1 pc = some (.ifnull off)) (ht : (pc : Int) + off = (t : Int)) : mFr d k pc loc (.null :: st) h P = mFr d k t loc st h P := by
  rw [mFr_S hq hf]
  simp only [mstep, mr1]
  rw [mres_j ht]
  rfl
theorem F_ifnonnullR {off : Int} {a : Nat} (t : Nat) (hq : mtab[k]? = some q) (hf : mfetch q.2.1 pc = some (.ifnonnull off)) (ht : (pc : Int) + off = (t : Int)) : mFr d k pc loc (.ref a :: st) h P = if a < 900 then mFr d k t loc st h P else False := by
  rw [mFr_S hq hf]
  simp only [mstep]
  rw [mres_j ht]
  exact mres_ite
theorem F_get {idx i0 ci f a : Nat} (hq : mtab[k]? = some q) (hf : mfetch q.2.1 pc = some (.getfield idx)) (hl : mlkf q.2.2.2.2.1 idx = some (i0, 0, ci, f) ∨ mlkf q.2.2.2.2.1 idx = some (i0, 1, ci, f)) : mFr d k pc loc (.ref a :: st) h P = pget h a ci f (fun v => mFr d k (pc + 3) loc (v :: st) h P) := by
  have e : mFr d k pc loc (.ref a :: st) h P = mres d k h P (mget h a ci f (fun v => mgo (pc + 3) loc (v :: st) h)) := by
    rw [mFr_S hq hf]
    rcases hl with hl | hl <;> simp only [mstep, mr1, hl]
  rw [e]
  unfold mget pget
  generalize h[a]? = x
  rcases x with _ | ⟨c, fs⟩ | _
  · rfl
  · by_cases e : c = ci
    · simp only [if_pos e]; cases fs[f]? <;> rfl
    · simp only [if_neg e]; rfl
  · rfl
theorem F_put {idx i0 ci f a : Nat} {v : Value} (hq : mtab[k]? = some q) (hf : mfetch q.2.1 pc = some (.putfield idx)) (hl : (mlkf q.2.2.2.2.1 idx = some (i0, 0, ci, f) ∧ ((mTab ci f).2.2.2 = false ∨ (mini1 q = true ∧ ci = q.2.2.2.2.1))) ∨ (mlkf q.2.2.2.2.1 idx = some (i0, 1, ci, f) ∧ (mTab ci f).2.2.2 = false)) : mFr d k pc loc (v :: .ref a :: st) h P = pput h a ci f v (fun h' => mFr d k (pc + 3) loc st h' P) := by
  have e : mFr d k pc loc (v :: .ref a :: st) h P = mres d k h P (mput h a ci f v (fun h' => mgo (pc + 3) loc st h')) := by
    rw [mFr_S hq hf]
    rcases hl with ⟨hl, hl2⟩ | ⟨hl, hl2⟩ <;> simp only [mstep, hl, hl2, if_true]
  rw [e]
  unfold mput pput
  generalize h[a]? = x
  rcases x with _ | ⟨c, fs⟩ | _
  · rfl
  · by_cases e : c = ci ∧ f < fs.length ∧ f < mN ci ∧ narrow (mTy ci f) v = v ∧ fits (mTy ci f) v = true
    · simp only [if_pos e]; rfl
    · simp only [if_neg e]; rfl
  · rfl
theorem mres_ix {i : Int32} {n : Nat} {g : Nat → MR} : mres d k h P (mix i n g) = pix i n (fun j => mres d k h P (g j)) := by
  unfold mix pix
  by_cases e : i < 0 ∨ n ≤ i.toNatClampNeg
  · rw [if_pos e, if_pos e]; rfl
  · rw [if_neg e, if_neg e]
theorem F_iald {a : Nat} {i : Int32} (hq : mtab[k]? = some q) (hf : mfetch q.2.1 pc = some .iaload) : mFr d k pc loc (.int i :: .ref a :: st) h P = pial h a i (fun x => mFr d k (pc + 1) loc (.int x :: st) h P) := by
  rw [mFr_S hq hf]
  simp only [mstep, mr1]
  unfold mial pial
  by_cases e : 1000 ≤ a
  · rw [if_pos e, if_pos e, mres_ix]; rfl
  · rw [if_neg e, if_neg e]
    generalize h[a]? = x
    rcases x with _ | _ | ⟨n, g⟩ | _
    · rfl
    · rfl
    · exact mres_ix
    · rfl
theorem F_bald {a : Nat} {i : Int32} (hq : mtab[k]? = some q) (hf : mfetch q.2.1 pc = some .baload) : mFr d k pc loc (.int i :: .ref a :: st) h P = pbal a i (fun x => mFr d k (pc + 1) loc (.int x :: st) h P) := by
  rw [mFr_S hq hf]
  simp only [mstep, mr1]
  unfold mbal pbal
  rw [mres_ite, mres_ix]
  rfl
theorem F_iast {a : Nat} {i x : Int32} (hq : mtab[k]? = some q) (hf : mfetch q.2.1 pc = some .iastore) : mFr d k pc loc (.int x :: .int i :: .ref a :: st) h P = pias h a i x (fun h' => mFr d k (pc + 1) loc st h' P) := by
  rw [mFr_S hq hf]
  simp only [mstep, mr1]
  unfold mias pias
  generalize h[a]? = x
  rcases x with _ | _ | ⟨n, g⟩ | _
  · rfl
  · rfl
  · exact mres_ix
  · rfl
theorem F_aald {a : Nat} {i : Int32} (hq : mtab[k]? = some q) (hf : mfetch q.2.1 pc = some .aaload) : mFr d k pc loc (.int i :: .ref a :: st) h P = paal h a i (fun v => mFr d k (pc + 1) loc (v :: st) h P) := by
  rw [mFr_S hq hf]
  simp only [mstep, mr1]
  unfold maal paal
  generalize h[a]? = x
  rcases x with _ | _ | _ | ⟨c, n, g⟩
  · rfl
  · rfl
  · rfl
  · exact mres_ix
theorem F_alen {a : Nat} (hq : mtab[k]? = some q) (hf : mfetch q.2.1 pc = some .arraylength) : mFr d k pc loc (.ref a :: st) h P = palen h a (fun n => mFr d k (pc + 1) loc (.int (Int32.ofNat n) :: st) h P) := by
  rw [mFr_S hq hf]
  simp only [mstep, mr1]
  unfold malen palen
  rw [mres_ite, mres_ite, mres_ite]
  generalize h[a]? = x
  rcases x with _ | _ | ⟨n, g⟩ | ⟨c, n, g⟩ <;> rfl
theorem F_copy {idx i0 a1 b1 a b : Nat} {sp dp n : Int32} (hq : mtab[k]? = some q) (hf : mfetch q.2.1 pc = some (.invokestatic idx)) (hl : mlkf q.2.2.2.2.1 idx = some (i0, 8, a1, b1)) (hc : mcat st ≤ 8) : mFr d k pc loc (.int n :: .int dp :: .ref b :: .int sp :: .ref a :: st) h P = pcopy h a sp b dp n (fun h' => mFr d k (pc + 3) loc st h' P) := by
  have e : mFr d k pc loc (.int n :: .int dp :: .ref b :: .int sp :: .ref a :: st) h P = mres d k h P (mcopy h pc loc (.int n :: .int dp :: .ref b :: .int sp :: .ref a :: st)) := by
    rw [mFr_S hq hf]
    simp only [mstep, hl]
  rw [e]
  unfold mcopy pcopy
  dsimp only
  generalize h[a]? = x
  generalize h[b]? = y
  rcases x with _ | _ | ⟨n0, f⟩ | _ <;> rcases y with _ | _ | ⟨n1, g⟩ | _ <;> try rfl
  simp only [hc, and_true]
  exact mres_ite
theorem F_max {idx i0 a1 b1 : Nat} {x y : Int32} (hq : mtab[k]? = some q) (hf : mfetch q.2.1 pc = some (.invokestatic idx)) (hl : mlkf q.2.2.2.2.1 idx = some (i0, 10, a1, b1)) (hc : mcat st ≤ 8) : mFr d k pc loc (.int y :: .int x :: st) h P = mFr d k (pc + 3) loc (.int (if x < y then y else x) :: st) h P := by
  rw [mFr_S hq hf]
  simp only [mstep, hl, mi2, hc, if_true]
  rfl
theorem F_min {idx i0 a1 b1 : Nat} {x y : Int32} (hq : mtab[k]? = some q) (hf : mfetch q.2.1 pc = some (.invokestatic idx)) (hl : mlkf q.2.2.2.2.1 idx = some (i0, 11, a1, b1)) (hc : mcat st ≤ 8) : mFr d k pc loc (.int y :: .int x :: st) h P = mFr d k (pc + 3) loc (.int (if y < x then y else x) :: st) h P := by
  rw [mFr_S hq hf]
  simp only [mstep, hl, mi2, hc, if_true]
  rfl
theorem F_ret {x : Int32} {t : FieldType} (hq : mtab[k]? = some q) (hf : mfetch q.2.1 pc = some .ireturn) (ht : q.2.2.2.1 = some t) (hn : narrow t (.int x) = .int x) : mFr d k pc loc [.int x] h P = P (some (.int x)) h := by
  rw [mFr_S hq hf]
  simp only [mstep, ht, hn, if_true]
  rfl
theorem F_obj {idx i0 a1 b1 a : Nat} (hq : mtab[k]? = some q) (hf : mfetch q.2.1 pc = some (.invokespecial idx)) (hl : mlkf q.2.2.2.2.1 idx = some (i0, 7, a1, b1)) (hc : mcat st ≤ 8) : mFr d k pc loc (.ref a :: st) h P = if a < 900 then mFr d k (pc + 3) loc st h P else False := by
  rw [mFr_S hq hf]
  simp only [mstep, hl, mr1, hc, true_and]
  exact mres_ite
/-- calls: with a receiver, without -/
theorem F_callV {idx i0 id md b : Nat} {as rest : List Value} {q1 : MI} (hq : mtab[k]? = some q) (hf : mfetch q.2.1 pc = some (.invokevirtual idx) ∨ mfetch q.2.1 pc = some (.invokespecial idx)) (hl : mlkf q.2.2.2.2.1 idx = some (i0, 6, id, md)) (hm : (mfetch q.2.1 pc = some (.invokevirtual idx) ∧ (md = 0 ∨ md = 1)) ∨ (mfetch q.2.1 pc = some (.invokespecial idx) ∧ (md = 4 ∨ md = 5)))
    (hq1 : mtab[id]? = some q1) (hn : as.length = q1.2.2.2.2.2) (hst : st = as.reverse ++ .ref b :: rest) (hc : mcat rest ≤ 8) : mFr d k pc loc st h P = if mrcv h b q1.2.2.2.2.1 = true then mRun d id (.ref b :: as) h (fun v h' => mFr d k (pc + 3) loc (v.toList ++ rest) h' P) else False := by
  have e : mFr d k pc loc st h P = mres d k h P (minv h md id pc loc st) := by
    rcases hm with ⟨hf, hm⟩ | ⟨hf, hm⟩ <;> rw [mFr_S hq hf] <;> simp only [mstep, hl, if_pos hm]
  have hmd : ¬ (md = 2 ∨ md = 3) := by rcases hm with ⟨-, hm⟩ | ⟨-, hm⟩ <;> omega
  have h1 : st.drop q1.2.2.2.2.2 = .ref b :: rest := by rw [hst, ← hn, ← List.length_reverse, List.drop_left]
  have h2 : (st.take q1.2.2.2.2.2).reverse = as := by rw [hst, ← hn, ← List.length_reverse, List.take_left, List.reverse_reverse]
  have h3 : ¬ st.length < q1.2.2.2.2.2 := by rw [hst, List.length_append, List.length_reverse]; omega
  rw [e]
  simp only [minv, hq1, if_neg h3, if_neg hmd, h1, h2, hc, true_and]
  exact mres_ite
theorem F_callS {idx i0 id md : Nat} {as rest : List Value} {q1 : MI} (hq : mtab[k]? = some q) (hf : mfetch q.2.1 pc = some (.invokestatic idx)) (hl : mlkf q.2.2.2.2.1 idx = some (i0, 6, id, md)) (hm : md = 2 ∨ md = 3)
    (hq1 : mtab[id]? = some q1) (hn : as.length = q1.2.2.2.2.2) (hst : st = as.reverse ++ rest) (hc : mcat rest ≤ 8) : mFr d k pc loc st h P = mRun d id as h (fun v h' => mFr d k (pc + 3) loc (v.toList ++ rest) h' P) := by
  have e : mFr d k pc loc st h P = mres d k h P (minv h md id pc loc st) := by
    rw [mFr_S hq hf]; simp only [mstep, hl, if_pos hm]
  have h1 : st.drop q1.2.2.2.2.2 = rest := by rw [hst, ← hn, ← List.length_reverse, List.drop_left]
  have h2 : (st.take q1.2.2.2.2.2).reverse = as := by rw [hst, ← hn, ← List.length_reverse, List.take_left, List.reverse_reverse]
  have h3 : ¬ st.length < q1.2.2.2.2.2 := by rw [hst, List.length_append, List.length_reverse]; omega
  rw [e]
  simp only [minv, hq1, if_neg h3, if_pos hm, h1, h2, if_pos hc]
  rfl
theorem i32_toInt {x y : Int32} (h : x.toInt = y.toInt) : x = y := Int32.toInt_inj.mp h
theorem F_table {dflt lo hi : Int} {offs : Array Int} {x : Int32} (td : Nat) (ps : List (Int32 × Nat)) (hq : mtab[k]? = some q) (hf : mfetch q.2.1 pc = some (.tableswitch dflt lo hi offs)) (ht : (pc : Int) + dflt = (td : Int))
    (hps : ∀ j ∈ List.range ps.length, ((ps.getD j (0, 0)).1.toInt = lo + j) ∧ (offs[j]?).map (fun o => (pc : Int) + o) = some ((ps.getD j (0, 0)).2 : Int)) (hhi : hi = lo + ps.length - 1) : mFr d k pc loc (.int x :: st) h P = psw x (fun t => mFr d k t loc st h P) td ps := by
  have key : ∀ (l : List (Int32 × Nat)) (lo' : Int), (∀ j, j < l.length → (l.getD j (0, 0)).1.toInt = lo' + j) → (∀ j, j < l.length → x.toInt = lo' + j → pswT x td l = (l.getD j (0, 0)).2) ∧ ((x.toInt < lo' ∨ lo' + l.length ≤ x.toInt) → pswT x td l = td) := by
    intro l
    induction l with
    | nil => intro lo' _; exact ⟨fun j hj => absurd hj (Nat.not_lt_zero _), fun _ => rfl⟩
    | cons p r ih =>
      intro lo' hl
      obtain ⟨c, t⟩ := p
      have h0 : c.toInt = lo' := by have := hl 0 (Nat.succ_pos _); simpa using this
      obtain ⟨i1, i2⟩ := ih (lo' + 1) (fun j hj => by
        have h9 := hl (j + 1) (Nat.succ_lt_succ hj)
        rw [List.getD_cons_succ] at h9
        rw [h9]; push_cast; omega)
      refine ⟨fun j hj hx => ?_, fun hx => ?_⟩
      · cases j with
        | zero =>
          have e : x = c := i32_toInt (by rw [hx, h0]; simp)
          simp only [pswT, if_pos e, List.getD_cons_zero]
        | succ j =>
          have e : x ≠ c := fun e => by rw [e, h0] at hx; push_cast at hx; omega
          simp only [pswT, if_neg e, List.getD_cons_succ]
          exact i1 j (Nat.lt_of_succ_lt_succ hj) (by rw [hx]; push_cast; omega)
      · have e : x ≠ c := fun e => by rw [e, h0] at hx; simp only [List.length_cons] at hx; push_cast at hx; omega
        simp only [pswT, if_neg e]
        exact i2 (by simp only [List.length_cons] at hx; push_cast at hx; omega)
  obtain ⟨k1, k2⟩ := key ps lo (fun j hj => (hps j (List.mem_range.mpr hj)).1)
  rw [psw_T, mFr_S hq hf]
  simp only [mstep, mi1]
  by_cases hx : x.toInt < lo ∨ hi < x.toInt
  · rw [if_pos hx, mres_j ht, k2 (by omega)]
    rfl
  · rw [if_neg hx]
    have hj : (x.toInt - lo).toNat < ps.length := by omega
    have hxj : x.toInt = lo + ((x.toInt - lo).toNat : Nat) := by omega
    have h2 := (hps _ (List.mem_range.mpr hj)).2
    rw [k1 _ hj hxj]
    cases ho : offs[(x.toInt - lo).toNat]? with
    | none => rw [ho] at h2; cases h2
    | some off =>
      rw [ho] at h2
      dsimp only
      rw [mres_j (Option.some.inj h2)]
      rfl
end FS
