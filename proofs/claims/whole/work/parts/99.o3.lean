/-! rows hold nothing behind their length -/
def cz : MC → Prop
  | .inl _ => True
  | .inr (.inl (n, f)) => ∀ j, n ≤ j → f j = 0
  | .inr (.inr (_, n, f)) => ∀ j, n ≤ j → f j = none
theorem cz_o {x : Nat × List Value} : cz (.inl x) := trivial
theorem cz_i {n : Nat} {f : Nat → Int32} (h : ∀ j, n ≤ j → f j = 0) : cz (.inr (.inl (n, f))) := h
theorem cz_r {c n : Nat} {f : Nat → Option Nat} (h : ∀ j, n ≤ j → f j = none) : cz (.inr (.inr (c, n, f))) := h
def mz (h : MH) : Prop := ∀ c ∈ h, cz c
theorem mz_at {h : MH} (hz : mz h) {a : Nat} {c : MC} (e : h[a]? = some c) : cz c := hz c (List.mem_of_getElem? e)
theorem mz_set {h : MH} (hz : mz h) {a : Nat} {c : MC} (hc : cz c) : mz (h.set a c) := fun x hx => by
  rcases List.mem_or_eq_of_mem_set hx with h1 | h1
  · exact hz x h1
  · rw [h1]; exact hc
theorem mz_app {h : MH} (hz : mz h) {c : MC} (hc : cz c) : mz (h ++ [c]) := fun x hx => by
  rcases List.mem_append.mp hx with h1 | h1
  · exact hz x h1
  · rw [List.mem_singleton.mp h1]; exact hc
def zR : ((MF × MH) ⊕ ((Option Value × MH) ⊕ (Nat × List Value × MF))) → Prop
  | .inl (_, h') => mz h'
  | .inr (.inl (_, h')) => mz h'
  | .inr (.inr _) => True
def mZ (o : MR) : Prop := ∀ r, o = some r → zR r
section ZZ
variable {h : MH} {pc : Nat} {loc : List (Option Value)} {st : List Value}
theorem z_none : mZ none := fun _ h => by cases h
theorem z_go (hz : mz h) : mZ (mgo pc loc st h) := fun _ e => by rw [mgo_inv e]; exact hz
theorem z_ret (hz : mz h) {v : Option Value} : mZ (mret v h) := fun _ e => by rw [mret_inv e]; exact hz
theorem z_i1 {f : Int32 → List Value → MR} (h : ∀ x r, mZ (f x r)) : mZ (mi1 st f) := fun _ e => by obtain ⟨x, r, -, e2⟩ := mi1_inv e; exact h _ _ _ e2
theorem z_i2 {f : Int32 → Int32 → List Value → MR} (h : ∀ x y r, mZ (f x y r)) : mZ (mi2 st f) := fun _ e => by obtain ⟨x, y, r, -, e2⟩ := mi2_inv e; exact h _ _ _ _ e2
theorem z_l1 {f : Int64 → List Value → MR} (h : ∀ x r, mZ (f x r)) : mZ (ml1 st f) := fun _ e => by obtain ⟨x, r, -, e2⟩ := ml1_inv e; exact h _ _ _ e2
theorem z_l2 {f : Int64 → Int64 → List Value → MR} (h : ∀ x y r, mZ (f x y r)) : mZ (ml2 st f) := fun _ e => by obtain ⟨x, y, r, -, e2⟩ := ml2_inv e; exact h _ _ _ _ e2
theorem z_r1 {f : Nat → List Value → MR} (h : ∀ x r, mZ (f x r)) : mZ (mr1 st f) := fun _ e => by obtain ⟨x, r, -, e2⟩ := mr1_inv e; exact h _ _ _ e2
theorem z_v1 {f : Value → List Value → MR} (h : ∀ x r, mZ (f x r)) : mZ (mv1 st f) := fun _ e => by obtain ⟨x, r, -, -, e2⟩ := mv1_inv e; exact h _ _ _ e2
theorem z_j {off : Int} {f : Nat → MR} (h : ∀ t, mZ (f t)) : mZ (mj pc off f) := fun _ e => by obtain ⟨t, -, e2⟩ := mj_inv e; exact h _ _ e2
theorem z_if (hz : mz h) {c : Prop} [Decidable c] {off : Int} : mZ (mif c pc off loc st h) := fun _ e => by obtain ⟨t, -, e2⟩ := mif_inv e; rw [e2]; exact hz
theorem z_ld {i : Nat} {f : Value → MR} (h : ∀ v, mZ (f v)) : mZ (mld loc i f) := fun _ e => by obtain ⟨v, -, e2⟩ := mld_inv e; exact h _ _ e2
theorem z_st {i : Nat} {v : Value} {f : List (Option Value) → MR} (h : ∀ l, mZ (f l)) : mZ (mst loc i v f) := fun _ e => h _ _ (mst_inv e).2.2
theorem z_st2 {i : Nat} {v : Value} {f : List (Option Value) → MR} (h : ∀ l, mZ (f l)) : mZ (mst2 loc i v f) := fun _ e => h _ _ (mst2_inv e).2.2
theorem z_ilo (hz : mz h) {i : Nat} : mZ (milo loc i pc st h) := fun _ e => by obtain ⟨x, -, e2⟩ := milo_inv e; rw [e2]; exact hz
theorem z_llo (hz : mz h) {i : Nat} : mZ (mllo loc i pc st h) := fun _ e => by obtain ⟨x, -, e2⟩ := mllo_inv e; rw [e2]; exact hz
theorem z_alo (hz : mz h) {i : Nat} : mZ (malo loc i pc st h) := fun _ e => by obtain ⟨x, -, -, e2⟩ := malo_inv e; rw [e2]; exact hz
theorem z_ast (hz : mz h) {i : Nat} : mZ (mast loc i pc st h) := fun _ e => by obtain ⟨x, r, -, -, -, -, e2⟩ := mast_inv e; rw [e2]; exact hz
theorem z_get {a ci k : Nat} {f : Value → MR} (hf : ∀ v, mZ (f v)) : mZ (mget h a ci k f) := fun _ e => by obtain ⟨fs, v, -, -, e2⟩ := mget_inv e; exact hf _ _ e2
theorem z_put (hz : mz h) {a ci k : Nat} {v : Value} {f : MH → MR} (hf : ∀ h', mz h' → mZ (f h')) : mZ (mput h a ci k v f) := fun _ e => by
  obtain ⟨fs, -, -, -, -, -, e2⟩ := mput_inv e
  exact hf _ (mz_set hz cz_o) _ e2
theorem z_ial {a : Nat} {i : Int32} {f : Int32 → MR} (hf : ∀ v, mZ (f v)) : mZ (mial h a i f) := fun _ e => by rcases mial_inv e with ⟨-, -, e2⟩ | ⟨n, g, -, -, e2⟩ <;> exact hf _ _ e2
theorem z_ias (hz : mz h) {a : Nat} {i x : Int32} {f : MH → MR} (hf : ∀ h', mz h' → mZ (f h')) : mZ (mias h a i x f) := fun _ e => by
  obtain ⟨n, g, h1, h2, e2⟩ := mias_inv e
  refine hf _ (mz_set hz (cz_i (fun j hj => ?_))) _ e2
  have h3 := mz_at hz h1
  unfold vp_in at h2
  show (if j = i.toNatClampNeg then x else g j) = 0
  rw [if_neg (fun z => h2 (Or.inr (by omega)))]
  exact h3 j hj
theorem z_bal {a : Nat} {i : Int32} {f : Int32 → MR} (hf : ∀ v, mZ (f v)) : mZ (mbal a i f) := fun _ e => hf _ _ (mbal_inv e).2.2.2
theorem z_aal {a : Nat} {i : Int32} {f : Value → MR} (hf : ∀ v, mZ (f v)) : mZ (maal h a i f) := fun _ e => by obtain ⟨c, n, g, -, -, e2⟩ := maal_inv e; exact hf _ _ e2
theorem z_aas (hz : mz h) {a : Nat} {i : Int32} {v : Nat} {f : MH → MR} (hf : ∀ h', mz h' → mZ (f h')) : mZ (maas h a i v f) := fun _ e => by
  obtain ⟨c, n, g, fs, h1, -, -, h2, e2⟩ := maas_inv e
  refine hf _ (mz_set hz (cz_r (fun j hj => ?_))) _ e2
  have h3 := mz_at hz h1
  unfold vp_in at h2
  show (if j = i.toNatClampNeg then some v else g j) = none
  rw [if_neg (fun z => h2 (Or.inr (by omega)))]
  exact h3 j hj
theorem z_aln {a : Nat} {f : Nat → MR} (hf : ∀ v, mZ (f v)) : mZ (malen h a f) := fun _ e => by rcases malen_inv e with ⟨-, -, e2⟩ | ⟨-, e2⟩ | ⟨n, g, -, e2⟩ | ⟨c, n, g, -, e2⟩ <;> exact hf _ _ e2
theorem z_cpy (hz : mz h) : mZ (mcopy h pc loc st) := fun _ e => by
  obtain ⟨n, dp, b, sp, a, rest, n0, f, n1, g, -, h1, h2, -, -, -, -, h3, -, e2⟩ := mcopy_inv e
  rw [e2]
  refine mz_set hz (cz_i (fun j hj => ?_))
  have h4 := mz_at hz h2
  show (if dp.toNatClampNeg ≤ j ∧ j < dp.toNatClampNeg + n.toNatClampNeg then f (sp.toNatClampNeg + (j - dp.toNatClampNeg)) else g j) = 0
  rw [if_neg (by omega)]
  exact h4 j hj
theorem z_inv {mode k : Nat} : mZ (minv h mode k pc loc st) := fun _ e => by
  obtain ⟨q, as, rest, -, -, -, ⟨-, -, e2⟩ | ⟨-, b, -, -, e2⟩⟩ := minv_inv e <;> rw [e2] <;> trivial
theorem z_ite {c : Prop} [Decidable c] {a b : MR} (ha : mZ a) (hb : mZ b) : mZ (if c then a else b) := by split <;> assumption
theorem z_arI (hz : mz h) {n : Nat} {v : List Value} : mZ (mgo pc loc v (h ++ [.inr (.inl (n, fun _ => 0))])) := z_go (mz_app hz (fun _ _ => rfl))
theorem z_arR (hz : mz h) {ci n : Nat} {v : List Value} : mZ (mgo pc loc v (h ++ [.inr (.inr (ci, n, fun _ => none))])) := z_go (mz_app hz (fun _ _ => rfl))
theorem z_new (hz : mz h) {ci : Nat} {v : List Value} : mZ (mgo pc loc v (h ++ [mnew ci])) := z_go (mz_app hz trivial)
end ZZ
set_option maxHeartbeats 2000000 in
theorem mstep_z {cn : Nat} {rt : Option FieldType} {ini : Bool} {i : Instr} {pc : Nat} {loc : List (Option Value)} {st : List Value} {h : MH} (hz : mz h) : mZ (mstep cn rt ini i pc loc st h) := by
  cases i
  all_goals simp only [mstep]
  all_goals repeat' (first | exact z_go hz | exact z_none | exact z_ret hz | exact z_if hz | exact z_ilo hz | exact z_llo hz | exact z_alo hz | exact z_ast hz | exact z_cpy hz | exact z_inv | exact z_arI hz | exact z_arR hz | exact z_new hz | exact z_go (by assumption) | (apply z_i1; intro _ _) | (apply z_i2; intro _ _ _) | (apply z_l1; intro _ _) | (apply z_l2; intro _ _ _) | (apply z_r1; intro _ _) | (apply z_v1; intro _ _) | (apply z_j; intro _) | (apply z_ld; intro _) | (apply z_st; intro _) | (apply z_st2; intro _) | (apply z_get; intro _) | (refine z_put hz (fun _ _ => ?_)) | (apply z_ial; intro _) | (refine z_ias hz (fun _ _ => ?_)) | (apply z_bal; intro _) | (apply z_aal; intro _) | (refine z_aas hz (fun _ _ => ?_)) | (apply z_aln; intro _) | apply z_ite | split)
def zcall (call : MCall) : Prop := ∀ k as h v h', call k as h = some (v, h') → mz h → mz h'
theorem mloop_z {call : MCall} (hc : zcall call) {q : MI} : ∀ (n : Nat) (fr : MF) (h : MH) (v : Option Value) (h' : MH), mloop call q n fr h = some (v, h') → mz h → mz h' := by
  intro n
  induction n with
  | zero => intro fr h v h' e; cases e
  | succ n ih =>
    intro fr h v h' e hz
    simp only [mloop] at e
    split at e
    · cases e
    · split at e
      · cases e
      · rename_i fr' h1 hst
        exact ih _ _ _ _ e (mstep_z hz _ hst)
      · rename_i r hst
        obtain ⟨v1, h1⟩ := r
        cases e
        exact mstep_z hz _ hst
      · rename_i k as pc' loc' rest hst
        split at e
        · cases e
        · rename_i v1 h1 hcl
          exact ih _ _ _ _ e (hc _ _ _ _ _ hcl hz)
theorem mcall_z : ∀ (d n : Nat), zcall (mcall d n) := by
  intro d
  induction d with
  | zero => intro n k as h v h' e; cases e
  | succ d ih =>
    intro n k as h v h' e hz
    simp only [mcall] at e
    split at e
    · cases e
    · split at e
      · exact mloop_z (ih n) _ _ _ _ _ e hz
      · cases e
/-! a heap that is like another one, as far as one can ask, is it -/
def cchk : MC → MC → Bool
  | .inl (c, fs), .inl (c', fs') => c == c' && decide (fs = fs')
  | .inr (.inl (n, f)), .inr (.inl (n', f')) => n == n' && (List.range n).all (fun j => f j == f' j)
  | .inr (.inr (c, n, f)), .inr (.inr (c', n', f')) => c == c' && (n == n' && (List.range n).all (fun j => f j == f' j))
  | _, _ => false
def hchk : MH → MH → Bool
  | [], [] => true
  | c :: h, c' :: h' => cchk c c' && hchk h h'
  | _, _ => false
theorem cchk_eq {c c' : MC} (h : cchk c c' = true) (z : cz c) (z' : cz c') : c = c' := by
  match c, c', h, z, z' with
  | .inl (c, fs), .inl (c', fs'), h, _, _ =>
    simp only [cchk, Bool.and_eq_true, beq_iff_eq, decide_eq_true_eq] at h
    rw [h.1, h.2]
  | .inr (.inl (n, f)), .inr (.inl (n', f')), h, z, z' =>
    simp only [cchk, Bool.and_eq_true, beq_iff_eq, List.all_eq_true] at h
    obtain ⟨rfl, h2⟩ := h
    have e : f = f' := funext fun j => by
      rcases Nat.lt_or_ge j n with x | x
      · exact h2 j (List.mem_range.mpr x)
      · rw [z j x, z' j x]
    rw [e]
  | .inr (.inr (c, n, f)), .inr (.inr (c', n', f')), h, z, z' =>
    simp only [cchk, Bool.and_eq_true, beq_iff_eq, List.all_eq_true] at h
    obtain ⟨rfl, rfl, h2⟩ := h
    have e : f = f' := funext fun j => by
      rcases Nat.lt_or_ge j n with x | x
      · exact h2 j (List.mem_range.mpr x)
      · rw [z j x, z' j x]
    rw [e]
theorem hchk_eq : ∀ {h h' : MH}, hchk h h' = true → mz h → mz h' → h = h' := by
  intro h
  induction h with
  | nil =>
    intro h' e _ _
    cases h' with
    | nil => rfl
    | cons c r => cases e
  | cons c r ih =>
    intro h' e z z'
    cases h' with
    | nil => cases e
    | cons c' r' =>
      simp only [hchk, Bool.and_eq_true] at e
      rw [cchk_eq e.1 (z c List.mem_cons_self) (z' c' List.mem_cons_self), ih e.2 (fun x hx => z x (List.mem_cons_of_mem _ hx)) (fun x hx => z' x (List.mem_cons_of_mem _ hx))]
/-- a run by tables that ends at a heap that looks like g ends at g -/
theorem f_run {d n k : Nat} {as : List Value} {h g : MH} (hz : mz h) (hg : mz g) (e : (match fcall (fl2 ftL) d n k as h with | some (none, h') => hchk h' g | _ => false) = true) : mcall d n k as h = some (none, g) := by
  split at e
  · rename_i h' hf
    have h1 := fcall_ok (fl2_ok ftL_ok) d n k as h _ hf
    rw [h1, hchk_eq e (mcall_z d n _ _ _ _ _ h1 hz) hg]
  · cases e
