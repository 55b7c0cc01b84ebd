/-! the constructors, run by the kernel: the same machine with each instruction read beforehand -/
abbrev FSt : Type := List (Option Value) → List Value → MH → MR
abbrev FTb : Type := List (Nat × FSt)
/-- a row of the table: at this place the machine does this -/
def frow (q : MI) (e : Nat × FSt) : Prop := ∃ i, mfetch q.2.1 e.1 = some i ∧ ∀ loc st h, mstep q.2.2.2.2.1 q.2.2.2.1 (mini1 q) i e.1 loc st h = e.2 loc st h
def fbr (b : Bool) (x y : MR) : MR := match b with
  | true => x
  | false => y
theorem fbr_eq {b : Bool} {x y : MR} : (if b = true then x else y) = fbr b x y := by cases b <;> rfl
def fIret (t : FieldType) (st : List Value) (h : MH) : MR := match st with
  | [.int x] => if narrow t (.int x) = .int x then mret (some (.int x)) h else none
  | _ => none
def fRet (st : List Value) (h : MH) : MR := match st with
  | [] => mret none h
  | _ => none
def fIal (pc : Nat) (loc : List (Option Value)) (st : List Value) (h : MH) : MR := match st with
  | .int i :: .ref a :: r => mial h a i (fun x => mgo pc loc (.int x :: r) h)
  | _ => none
def fBal (pc : Nat) (loc : List (Option Value)) (st : List Value) (h : MH) : MR := match st with
  | .int i :: .ref a :: r => mbal a i (fun x => mgo pc loc (.int x :: r) h)
  | _ => none
def fIas (pc : Nat) (loc : List (Option Value)) (st : List Value) (h : MH) : MR := match st with
  | .int x :: .int i :: .ref a :: r => mias h a i x (fun h => mgo pc loc r h)
  | _ => none
def fAal (pc : Nat) (loc : List (Option Value)) (st : List Value) (h : MH) : MR := match st with
  | .int i :: .ref a :: r => maal h a i (fun v => mgo pc loc (v :: r) h)
  | _ => none
def fAas (pc : Nat) (loc : List (Option Value)) (st : List Value) (h : MH) : MR := match st with
  | .ref v :: .int i :: .ref a :: r => maas h a i v (fun h => mgo pc loc r h)
  | _ => none
def fInc (k : Nat) (n : Int32) (pc : Nat) (loc : List (Option Value)) (st : List Value) (h : MH) : MR := mld loc k (fun v => match v with
  | .int x => mst loc k (.int (x + n)) (fun l => mgo pc l st h)
  | _ => none)
def fGet (ci f pc : Nat) (loc : List (Option Value)) (st : List Value) (h : MH) : MR := mr1 st (fun a r => mget h a ci f (fun v => mgo pc loc (v :: r) h))
def fGeS (b pc : Nat) (loc : List (Option Value)) (st : List Value) (h : MH) : MR := mr1 st (fun a r => if 1010 ≤ a ∧ a < 1013 then (if b = 0 then mgo pc loc (.ref (a + 10) :: r) h else if b = 1 then mgo pc loc (.int 0 :: r) h else none) else none)
def fPut (ci f pc : Nat) (loc : List (Option Value)) (st : List Value) (h : MH) : MR := match st with
  | v :: .ref a :: r => mput h a ci f v (fun h => mgo pc loc r h)
  | _ => none
def fTs (x : Int32) (lo hi : Int) (offs : Array Int) (pc : Nat) (dflt : Int) (f : Nat → MR) : MR := if x.toInt < lo ∨ hi < x.toInt then mj pc dflt f else match offs[(x.toInt - lo).toNat]? with
  | some off => mj pc off f
  | none => none
def fArI (pc : Nat) (loc : List (Option Value)) (st : List Value) (h : MH) : MR := mi1 st (fun n r => if ¬ n < 0 ∧ n.toNatClampNeg ≤ 3000 ∧ h.length < 900 then mgo pc loc (.ref h.length :: r) (h ++ [.inr (.inl (n.toNatClampNeg, fun _ => 0))]) else none)
def fArR (ci pc : Nat) (loc : List (Option Value)) (st : List Value) (h : MH) : MR := mi1 st (fun n r => if ¬ n < 0 ∧ n.toNatClampNeg ≤ 3000 ∧ h.length < 900 ∧ (ci = 1 ∨ ci = 3 ∨ ci = 5) then mgo pc loc (.ref h.length :: r) (h ++ [.inr (.inr (ci, n.toNatClampNeg, fun _ => none))]) else none)
def fNew (ci pc : Nat) (loc : List (Option Value)) (st : List Value) (h : MH) : MR := if h.length < 900 ∧ ci < 10 then mgo pc loc (.ref h.length :: st) (h ++ [mnew ci]) else none
def fInS (na id pc : Nat) (loc : List (Option Value)) (st : List Value) : MR := if st.length < na then none else if mcat (st.drop na) ≤ 8 then some (.inr (.inr (id, (st.take na).reverse, (pc, loc, st.drop na)))) else none
def fInV (na cl id pc : Nat) (loc : List (Option Value)) (st : List Value) (h : MH) : MR := if st.length < na then none else match st.drop na with
  | .ref b :: rest => if mcat rest ≤ 8 ∧ mrcv h b cl = true then some (.inr (.inr (id, .ref b :: (st.take na).reverse, (pc, loc, rest)))) else none
  | _ => none
def fObj (pc : Nat) (loc : List (Option Value)) (st : List Value) (h : MH) : MR := mr1 st (fun a r => if mcat r ≤ 8 ∧ a < 900 then mgo pc loc r h else none)
section FR
variable {q : MI} {pc : Nat}
theorem fr_of {i : Instr} {f : FSt} (hf : mfetch q.2.1 pc = some i) (he : ∀ loc st h, mstep q.2.2.2.2.1 q.2.2.2.1 (mini1 q) i pc loc st h = f loc st h) : frow q (pc, f) := ⟨i, hf, he⟩
theorem fr_icmp {c : Jvm.ClassFile.Cond} {off : Int} (t : Nat) (hf : mfetch q.2.1 pc = some (.if_icmp c off)) (ht : (pc : Int) + off = (t : Int)) : frow q (pc, fun loc st h => mi2 st (fun x y r => fbr (mcond c x y) (mgo t loc r h) (mgo (pc + 3) loc r h))) :=
  fr_of hf (fun loc st h => by
    show mi2 st (fun x y r => mif (mcond c x y = true) pc off loc r h) = _
    refine congrArg (mi2 st) (funext fun x => funext fun y => funext fun r => ?_)
    unfold mif
    rw [mres_j ht, fbr_eq])
theorem fr_ifc {c : Jvm.ClassFile.Cond} {off : Int} (t : Nat) (hf : mfetch q.2.1 pc = some (.ifCond c off)) (ht : (pc : Int) + off = (t : Int)) : frow q (pc, fun loc st h => mi1 st (fun x r => fbr (mcond c x 0) (mgo t loc r h) (mgo (pc + 3) loc r h))) :=
  fr_of hf (fun loc st h => by
    show mi1 st (fun x r => mif (mcond c x 0 = true) pc off loc r h) = _
    refine congrArg (mi1 st) (funext fun x => funext fun r => ?_)
    unfold mif
    rw [mres_j ht, fbr_eq])
theorem fr_goto {off : Int} (t : Nat) (hf : mfetch q.2.1 pc = some (.goto off)) (ht : (pc : Int) + off = (t : Int)) : frow q (pc, fun loc st h => mgo t loc st h) :=
  fr_of hf (fun loc st h => by
    show mj pc off (fun t => mgo t loc st h) = _
    rw [mres_j ht])
theorem fr_iret {t : FieldType} (hf : mfetch q.2.1 pc = some .ireturn) (hr : q.2.2.2.1 = some t) : frow q (pc, fun _ st h => fIret t st h) :=
  fr_of hf (fun loc st h => by
    simp only [mstep, hr]
    rcases st with _ | ⟨v, _ | ⟨w, r⟩⟩
    · rfl
    · cases v <;> rfl
    · cases v <;> rfl)
theorem fr_ret (hf : mfetch q.2.1 pc = some .return_) (hr : q.2.2.2.1 = none) : frow q (pc, fun _ st h => fRet st h) :=
  fr_of hf (fun loc st h => by
    simp only [mstep, hr, if_true]
    rcases st with _ | ⟨v, r⟩ <;> rfl)
theorem fr_iald (hf : mfetch q.2.1 pc = some .iaload) : frow q (pc, fun loc st h => fIal (pc + 1) loc st h) :=
  fr_of hf (fun loc st h => by first | rfl | (rcases st with _ | ⟨v, _ | ⟨w, r⟩⟩ <;> first | rfl | (cases v <;> first | rfl | (cases w <;> rfl))))
theorem fr_bald (hf : mfetch q.2.1 pc = some .baload) : frow q (pc, fun loc st h => fBal (pc + 1) loc st h) :=
  fr_of hf (fun loc st h => by first | rfl | (rcases st with _ | ⟨v, _ | ⟨w, r⟩⟩ <;> first | rfl | (cases v <;> first | rfl | (cases w <;> rfl))))
theorem fr_aald (hf : mfetch q.2.1 pc = some .aaload) : frow q (pc, fun loc st h => fAal (pc + 1) loc st h) :=
  fr_of hf (fun loc st h => by first | rfl | (rcases st with _ | ⟨v, _ | ⟨w, r⟩⟩ <;> first | rfl | (cases v <;> first | rfl | (cases w <;> rfl))))
theorem fr_iast (hf : mfetch q.2.1 pc = some .iastore) : frow q (pc, fun loc st h => fIas (pc + 1) loc st h) :=
  fr_of hf (fun loc st h => by first | rfl | (rcases st with _ | ⟨v, _ | ⟨w, _ | ⟨u, r⟩⟩⟩ <;> first | rfl | (cases v <;> first | rfl | (cases w <;> first | rfl | (cases u <;> rfl)))))
theorem fr_aast (hf : mfetch q.2.1 pc = some .aastore) : frow q (pc, fun loc st h => fAas (pc + 1) loc st h) :=
  fr_of hf (fun loc st h => by first | rfl | (rcases st with _ | ⟨v, _ | ⟨w, _ | ⟨u, r⟩⟩⟩ <;> first | rfl | (cases v <;> first | rfl | (cases w <;> first | rfl | (cases u <;> rfl)))))
theorem fr_inc {k : Nat} {n : Int} (hf : mfetch q.2.1 pc = some (.iinc k n)) : frow q (pc, fun loc st h => fInc k (Int32.ofInt n) (pc + 3) loc st h) :=
  fr_of hf (fun loc st h => by
    first | rfl | (unfold fInc; refine congrArg (mld loc k) (funext fun v => ?_); cases v <;> rfl))
theorem fr_get {idx i0 ci f : Nat} (hf : mfetch q.2.1 pc = some (.getfield idx)) (hl : mlkf q.2.2.2.2.1 idx = some (i0, 0, ci, f) ∨ mlkf q.2.2.2.2.1 idx = some (i0, 1, ci, f)) : frow q (pc, fun loc st h => fGet ci f (pc + 3) loc st h) :=
  fr_of hf (fun loc st h => by
    rcases hl with hl | hl <;> simp only [mstep, hl] <;> rfl)
theorem fr_geS {idx i0 b x : Nat} (hf : mfetch q.2.1 pc = some (.getfield idx)) (hl : mlkf q.2.2.2.2.1 idx = some (i0, 2, b, x)) : frow q (pc, fun loc st h => fGeS b (pc + 3) loc st h) :=
  fr_of hf (fun loc st h => by
    simp only [mstep, hl] <;> rfl)
theorem fr_put {idx i0 ci f : Nat} (hf : mfetch q.2.1 pc = some (.putfield idx)) (hl : (mlkf q.2.2.2.2.1 idx = some (i0, 0, ci, f) ∧ ((mTab ci f).2.2.2 = false ∨ (mini1 q = true ∧ ci = q.2.2.2.2.1))) ∨ (mlkf q.2.2.2.2.1 idx = some (i0, 1, ci, f) ∧ (mTab ci f).2.2.2 = false)) : frow q (pc, fun loc st h => fPut ci f (pc + 3) loc st h) :=
  fr_of hf (fun loc st h => by
    unfold fPut
    rcases hl with ⟨hl, hl2⟩ | ⟨hl, hl2⟩ <;> simp only [mstep, hl, if_pos hl2] <;> first | rfl | (rcases st with _ | ⟨v, _ | ⟨w, r⟩⟩ <;> first | rfl | (cases w <;> rfl)))
theorem fr_ts {dflt lo hi : Int} {offs : Array Int} (hf : mfetch q.2.1 pc = some (.tableswitch dflt lo hi offs)) : frow q (pc, fun loc st h => mi1 st (fun x r => fTs x lo hi offs pc dflt (fun t => mgo t loc r h))) :=
  fr_of hf (fun loc st h => by
    simp only [mstep]
    refine congrArg (mi1 st) (funext fun x => funext fun r => ?_)
    unfold fTs
    first | rfl | (split; rfl; split <;> simp_all))
theorem fr_arI (hf : mfetch q.2.1 pc = some (.newarray .int)) : frow q (pc, fun loc st h => fArI (pc + 2) loc st h) := fr_of hf (fun _ _ _ => rfl)
theorem fr_arR {idx i0 ci x : Nat} (hf : mfetch q.2.1 pc = some (.anewarray idx)) (hl : mlkf q.2.2.2.2.1 idx = some (i0, 4, ci, x)) : frow q (pc, fun loc st h => fArR ci (pc + 3) loc st h) :=
  fr_of hf (fun loc st h => by
    unfold fArR
    simp only [mstep, hl])
theorem fr_new {idx i0 ci x : Nat} (hf : mfetch q.2.1 pc = some (.new idx)) (hl : mlkf q.2.2.2.2.1 idx = some (i0, 4, ci, x)) : frow q (pc, fun loc st h => fNew ci (pc + 3) loc st h) :=
  fr_of hf (fun loc st h => by
    unfold fNew
    simp only [mstep, hl])
theorem fr_inS {idx i0 id md : Nat} {q1 : MI} (hf : mfetch q.2.1 pc = some (.invokestatic idx)) (hl : mlkf q.2.2.2.2.1 idx = some (i0, 6, id, md)) (hm : md = 2 ∨ md = 3) (hq : mtab[id]? = some q1) : frow q (pc, fun loc st _ => fInS q1.2.2.2.2.2 id (pc + 3) loc st) :=
  fr_of hf (fun loc st h => by
    unfold fInS
    simp only [mstep, hl, if_pos hm, minv, hq])
theorem fr_inV {i : Instr} {idx i0 id md : Nat} {q1 : MI} (hf : mfetch q.2.1 pc = some i) (hl : mlkf q.2.2.2.2.1 idx = some (i0, 6, id, md)) (hm : (i = .invokevirtual idx ∧ (md = 0 ∨ md = 1)) ∨ (i = .invokespecial idx ∧ (md = 4 ∨ md = 5))) (hq : mtab[id]? = some q1) : frow q (pc, fun loc st h => fInV q1.2.2.2.2.2 q1.2.2.2.2.1 id (pc + 3) loc st h) :=
  fr_of hf (fun loc st h => by
    have hmd : ¬ (md = 2 ∨ md = 3) := by rcases hm with ⟨-, hm⟩ | ⟨-, hm⟩ <;> omega
    unfold fInV
    rcases hm with ⟨rfl, hm⟩ | ⟨rfl, hm⟩ <;> simp only [mstep, hl, if_pos hm, minv, hq, if_neg hmd] <;> first | rfl | (split; rfl; split <;> simp_all))
theorem fr_obj {idx i0 a b : Nat} (hf : mfetch q.2.1 pc = some (.invokespecial idx)) (hl : mlkf q.2.2.2.2.1 idx = some (i0, 7, a, b)) : frow q (pc, fun loc st h => fObj (pc + 3) loc st h) :=
  fr_of hf (fun loc st h => by
    unfold fObj
    simp only [mstep, hl])
theorem fr_max {idx i0 a b : Nat} (hf : mfetch q.2.1 pc = some (.invokestatic idx)) (hl : mlkf q.2.2.2.2.1 idx = some (i0, 10, a, b)) : frow q (pc, fun loc st h => mi2 st (fun x y r => if mcat r ≤ 8 then mgo (pc + 3) loc (.int (if x < y then y else x) :: r) h else none)) :=
  fr_of hf (fun loc st h => by simp only [mstep, hl])
theorem fr_min {idx i0 a b : Nat} (hf : mfetch q.2.1 pc = some (.invokestatic idx)) (hl : mlkf q.2.2.2.2.1 idx = some (i0, 11, a, b)) : frow q (pc, fun loc st h => mi2 st (fun x y r => if mcat r ≤ 8 then mgo (pc + 3) loc (.int (if y < x then y else x) :: r) h else none)) :=
  fr_of hf (fun loc st h => by simp only [mstep, hl])
theorem fr_ldS {k i0 a x : Nat} (hf : mfetch q.2.1 pc = some (.ldc k)) (hn : (mcI.getD q.2.2.2.2.1 []).find? (fun q => q.1 == k) = none) (hl : mlkf q.2.2.2.2.1 k = some (i0, 9, a, x)) (ha : a < 3) : frow q (pc, fun loc st h => mgo (pc + 2) loc (.ref (1010 + a) :: st) h) :=
  fr_of hf (fun loc st h => by simp only [mstep, hn, hl, if_pos ha])
theorem fr_gsC {k i0 x : Nat} (hf : mfetch q.2.1 pc = some (.getstatic k)) (hl : mlkf q.2.2.2.2.1 k = some (i0, 3, 2, x)) : frow q (pc, fun loc st h => mgo (pc + 3) loc (.int 1 :: st) h) :=
  fr_of hf (fun loc st h => by simp only [mstep, hl]; rfl)
theorem fr_gsF {k i0 x : Nat} (hf : mfetch q.2.1 pc = some (.getstatic k)) (hl : mlkf q.2.2.2.2.1 k = some (i0, 3, 3, x)) : frow q (pc, fun loc st h => mgo (pc + 3) loc (.ref 1002 :: st) h) :=
  fr_of hf (fun loc st h => by simp only [mstep, hl]; rfl)
theorem fr_gsU {k i0 x : Nat} (hf : mfetch q.2.1 pc = some (.getstatic k)) (hl : mlkf q.2.2.2.2.1 k = some (i0, 3, 1, x)) : frow q (pc, fun loc st h => mgo (pc + 3) loc (.ref 1001 :: st) h) :=
  fr_of hf (fun loc st h => by simp only [mstep, hl]; rfl)
end FR
theorem frow_nil {q : MI} : ∀ e ∈ ([] : FTb), frow q e := fun _ h => by cases h
theorem frow_cons {q : MI} {e : Nat × FSt} {l : FTb} (h : frow q e) (r : ∀ x ∈ l, frow q x) : ∀ x ∈ e :: l, frow q x := List.forall_mem_cons.mpr ⟨h, r⟩
/-- the machine by tables -/
def flook : FTb → Nat → Option FSt
  | [], _ => none
  | (k, f) :: r, pc => bif k == pc then some f else flook r pc
theorem flook_mem : ∀ {l : FTb} {pc : Nat} {f : FSt}, flook l pc = some f → (pc, f) ∈ l := by
  intro l
  induction l with
  | nil => intro pc f h; cases h
  | cons e r ih =>
    obtain ⟨k, g⟩ := e
    intro pc f h
    unfold flook at h
    cases hk : (k == pc)
    · rw [hk] at h
      exact List.mem_cons_of_mem _ (ih h)
    · rw [hk] at h
      have e2 : k = pc := by simpa using hk
      cases h
      rw [e2]
      exact List.mem_cons_self
def floop (call : MCall) (tb : FTb) : Nat → MF → MH → Option (Option Value × MH)
  | 0, _, _ => none
  | n + 1, fr, h => match flook tb fr.1 with
    | none => none
    | some f => match f fr.2.1 fr.2.2 h with
      | none => none
      | some (.inl (fr', h')) => floop call tb n fr' h'
      | some (.inr (.inl r)) => some r
      | some (.inr (.inr (k, as, (pc, loc, rest)))) => match call k as h with
        | none => none
        | some (v, h') => floop call tb n (pc, loc, v.toList ++ rest) h'
def fcall (ft : Nat → Option (Nat × FTb)) : Nat → Nat → MCall
  | 0, _ => fun _ _ _ => none
  | d + 1, n => fun k as h => match ft k with
    | none => none
    | some (mx, tb) => if (lg_sl as).length ≤ mx then floop (fcall ft d n) tb n (0, mentry as mx, []) h else none
def fok (ft : Nat → Option (Nat × FTb)) : Prop := ∀ k mx tb, ft k = some (mx, tb) → ∃ q, mtab[k]? = some q ∧ q.2.2.1 = mx ∧ ∀ e ∈ tb, frow q e
theorem floop_ok {call call' : MCall} (hc : ∀ k as h r, call k as h = some r → call' k as h = some r) {q : MI} {tb : FTb} (ht : ∀ e ∈ tb, frow q e) : ∀ (n : Nat) (fr : MF) (h : MH) (r : Option Value × MH), floop call tb n fr h = some r → mloop call' q n fr h = some r := by
  intro n
  induction n with
  | zero => intro fr h r e; cases e
  | succ n ih =>
    intro fr h r e
    simp only [floop] at e
    split at e
    · cases e
    · rename_i f hf
      obtain ⟨i, h1, h2⟩ := ht _ (flook_mem hf)
      have h1' : mfetch q.2.1 fr.1 = some i := h1
      have h2' : mstep q.2.2.2.2.1 q.2.2.2.1 (mini1 q) i fr.1 fr.2.1 fr.2.2 h = f fr.2.1 fr.2.2 h := h2 _ _ _
      simp only [mloop, h1', h2']
      split at e
      · cases e
      · rename_i fr' h' hs
        rw [hs]
        exact ih _ _ _ e
      · rename_i r' hs
        rw [hs]
        exact e
      · rename_i k as pc loc rest hs
        rw [hs]
        split at e
        · cases e
        · rename_i v h' hcl
          simp only [hc _ _ _ _ hcl]
          exact ih _ _ _ e
theorem fcall_ok {ft : Nat → Option (Nat × FTb)} (hk : fok ft) : ∀ (d n : Nat) (k : Nat) (as : List Value) (h : MH) (r : Option Value × MH), fcall ft d n k as h = some r → mcall d n k as h = some r := by
  intro d
  induction d with
  | zero => intro n k as h r e; cases e
  | succ d ih =>
    intro n k as h r e
    simp only [fcall] at e
    split at e
    · cases e
    · rename_i mx tb hf
      obtain ⟨q, h1, h2, h3⟩ := hk _ _ _ hf
      split at e
      · rename_i hl
        simp only [mcall, h1]
        rw [if_pos (by rw [h2]; exact hl), h2]
        exact floop_ok (ih n) h3 _ _ _ _ e
      · cases e
/-- the tables by methods -/
def fl2 : List (Nat × Nat × FTb) → Nat → Option (Nat × FTb)
  | [], _ => none
  | (k, m, t) :: r, x => bif k == x then some (m, t) else fl2 r x
def f2ok (e : Nat × Nat × FTb) : Prop := ∃ q, mtab[e.1]? = some q ∧ q.2.2.1 = e.2.1 ∧ ∀ x ∈ e.2.2, frow q x
theorem f2_of {k m : Nat} {t : FTb} {q : MI} (h1 : mtab[k]? = some q) (h2 : q.2.2.1 = m) (h3 : ∀ x ∈ t, frow q x) : f2ok (k, m, t) := ⟨q, h1, h2, h3⟩
theorem fl2_ok : ∀ {l : List (Nat × Nat × FTb)}, (∀ e ∈ l, f2ok e) → fok (fl2 l) := by
  intro l
  induction l with
  | nil => intro _ k m t h; cases h
  | cons e r ih =>
    obtain ⟨a, b, c⟩ := e
    intro hl k m t h
    unfold fl2 at h
    cases hk : (a == k)
    · rw [hk] at h
      exact ih (fun e he => hl e (List.mem_cons_of_mem _ he)) k m t h
    · rw [hk] at h
      have e2 : a = k := by simpa using hk
      cases h
      subst e2
      exact hl _ List.mem_cons_self
theorem f2_nil : ∀ e ∈ ([] : List (Nat × Nat × FTb)), f2ok e := fun _ h => by cases h
theorem f2_cons {e : Nat × Nat × FTb} {l : List (Nat × Nat × FTb)} (h : f2ok e) (r : ∀ x ∈ l, f2ok x) : ∀ x ∈ e :: l, f2ok x := List.forall_mem_cons.mpr ⟨h, r⟩
