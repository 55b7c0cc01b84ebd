/-! what a small machine's state means on the machine -/
def mre (X : Nat → Nat) (z : Value) (v : Value) : Value := match v with
  | .ref k => if k = 1002 then z else .ref (X k)
  | v => v
def mzok (z : Value) : Prop := z = .null ∨ ∃ t, z = .ref t
theorem mre_ref {X : Nat → Nat} {z : Value} (hz : mzok z) (k : Nat) : mre X z (.ref k) = .null ∨ ∃ a, mre X z (.ref k) = .ref a := by
  by_cases h : k = 1002
  · rcases hz with e | ⟨t, e⟩
    · exact Or.inl (by simp [mre, h, e])
    · exact Or.inr ⟨t, by simp [mre, h, e]⟩
  · exact Or.inr ⟨X k, by simp [mre, h]⟩
theorem mre_at {X : Nat → Nat} {z : Value} {k : Nat} (h : k ≠ 1002) : mre X z (.ref k) = .ref (X k) := by simp [mre, h]
theorem mre_cat {X : Nat → Nat} {z : Value} (hz : mzok z) (v : Value) : (mre X z v).category = v.category := by
  cases v with
  | ref k => rcases mre_ref (X := X) hz k with h | ⟨a, h⟩ <;> rw [h] <;> rfl
  | _ => rfl
theorem mre_cats {X : Nat → Nat} {z : Value} (hz : mzok z) (st : List Value) : ((st.map (mre X z)).map fun v => v.category).sum = mcat st := by
  induction st with
  | nil => rfl
  | cons v r ih => simp only [List.map_cons, List.sum_cons, mcat, mre_cat hz] at ih ⊢; rw [ih]
/-- a reference names a cell, or a constant -/
def mvok (n : Nat) (v : Value) : Prop := ∀ k, v = .ref k → k < n ∨ 1000 ≤ k
theorem mvok_int {n : Nat} {x : Int32} : mvok n (.int x) := fun _ h => by cases h
theorem mvok_long {n : Nat} {x : Int64} : mvok n (.long x) := fun _ h => by cases h
theorem mvok_null {n : Nat} : mvok n .null := fun _ h => by cases h
theorem mvok_lt {n k : Nat} (h : k < n) : mvok n (.ref k) := fun _ e => by cases e; exact Or.inl h
theorem mvok_cn {n k : Nat} (h : 1000 ≤ k) : mvok n (.ref k) := fun _ e => by cases e; exact Or.inr h
theorem mvok_le {n n' : Nat} {v : Value} (h : mvok n v) (hn : n ≤ n') : mvok n' v := fun k e => (h k e).imp (fun x => Nat.lt_of_lt_of_le x hn) id
theorem mvok_df {n : Nat} {t : FieldType} : mvok n (defaultValue t) := fun k h => by cases t <;> cases h
def mcok (n : Nat) (c : MC) : Prop := match c with
  | .inl (_, fs) => ∀ v ∈ fs, mvok n v
  | .inr (.inl _) => True
  | .inr (.inr (_, _, f)) => ∀ j k, f j = some k → k < n
theorem mcok_le {n n' : Nat} {c : MC} (h : mcok n c) (hn : n ≤ n') : mcok n' c := by
  match c, h with
  | .inl (_, fs), h => exact fun v hv => mvok_le (h v hv) hn
  | .inr (.inl _), _ => trivial
  | .inr (.inr (_, _, f)), h => exact fun j k e => Nat.lt_of_lt_of_le (h j k e) hn
def mhok (h : MH) : Prop := h.length ≤ 900 ∧ ∀ c ∈ h, mcok h.length c
theorem mhok_at {h : MH} (hh : mhok h) {a : Nat} {c : MC} (e : h[a]? = some c) : mcok h.length c ∧ a < h.length ∧ a < 900 := by
  have h1 := (List.getElem?_eq_some_iff.mp e).1
  exact ⟨hh.2 c (List.mem_of_getElem? e), h1, Nat.lt_of_lt_of_le h1 hh.1⟩
theorem mhok_set {h : MH} (hh : mhok h) {a : Nat} {c : MC} (hc : mcok h.length c) : mhok (h.set a c) := by
  refine ⟨by rw [List.length_set]; exact hh.1, fun x hx => ?_⟩
  rw [List.length_set]
  rcases List.mem_or_eq_of_mem_set hx with h1 | h1
  · exact hh.2 x h1
  · rw [h1]; exact hc
theorem mhok_app {h : MH} (hh : mhok h) {c : MC} (hl : h.length < 900) (hc : mcok (h.length + 1) c) : mhok (h ++ [c]) := by
  refine ⟨by rw [List.length_append]; exact hl, fun x hx => ?_⟩
  rw [List.length_append]
  rcases List.mem_append.mp hx with h1 | h1
  · exact mcok_le (hh.2 x h1) (Nat.le_succ _)
  · rw [List.mem_singleton.mp h1]; exact hc
def mlok (n : Nat) (loc : List (Option Value)) : Prop := ∀ v, some v ∈ loc → mvok n v
theorem mlok_set {n : Nat} {loc : List (Option Value)} (h : mlok n loc) {i : Nat} {v : Value} (hv : mvok n v) : mlok n (loc.set i (some v)) := by
  intro w hw
  rcases List.mem_or_eq_of_mem_set hw with h1 | h1
  · exact h w h1
  · cases h1; exact hv
theorem mlok_setN {n : Nat} {loc : List (Option Value)} (h : mlok n loc) {i : Nat} : mlok n (loc.set i none) := by
  intro w hw
  rcases List.mem_or_eq_of_mem_set hw with h1 | h1
  · exact h w h1
  · cases h1
theorem mlok_at {n : Nat} {loc : List (Option Value)} (h : mlok n loc) {i : Nat} {v : Value} (e : loc[i]? = some (some v)) : mvok n v := h v (List.mem_of_getElem? e)
/-- what a step leaves -/
def mokR (h : MH) (loc : List (Option Value)) : ((MF × MH) ⊕ ((Option Value × MH) ⊕ (Nat × List Value × MF))) → Prop
  | .inl ((_, loc', st'), h') => h.length ≤ h'.length ∧ mhok h' ∧ mlok h'.length loc' ∧ ∀ v ∈ st', mvok h'.length v
  | .inr (.inl (v, h')) => h' = h ∧ ∀ w, v = some w → mvok h.length w
  | .inr (.inr (_, as, (_, loc', rest))) => loc' = loc ∧ (∀ v ∈ as, mvok h.length v) ∧ ∀ v ∈ rest, mvok h.length v
-- what comes out of the words of the small machine
theorem mi1_inv {st : List Value} {f : Int32 → List Value → MR} {o} (h : mi1 st f = some o) : ∃ x r, st = .int x :: r ∧ f x r = some o := by
  unfold mi1 at h
  split at h
  · exact ⟨_, _, rfl, h⟩
  · cases h
theorem mi2_inv {st : List Value} {f : Int32 → Int32 → List Value → MR} {o} (h : mi2 st f = some o) : ∃ x y r, st = .int y :: .int x :: r ∧ f x y r = some o := by
  unfold mi2 at h
  split at h
  · exact ⟨_, _, _, rfl, h⟩
  · cases h
theorem ml1_inv {st : List Value} {f : Int64 → List Value → MR} {o} (h : ml1 st f = some o) : ∃ x r, st = .long x :: r ∧ f x r = some o := by
  unfold ml1 at h
  split at h
  · exact ⟨_, _, rfl, h⟩
  · cases h
theorem ml2_inv {st : List Value} {f : Int64 → Int64 → List Value → MR} {o} (h : ml2 st f = some o) : ∃ x y r, st = .long y :: .long x :: r ∧ f x y r = some o := by
  unfold ml2 at h
  split at h
  · exact ⟨_, _, _, rfl, h⟩
  · cases h
theorem mr1_inv {st : List Value} {f : Nat → List Value → MR} {o} (h : mr1 st f = some o) : ∃ a r, st = .ref a :: r ∧ f a r = some o := by
  unfold mr1 at h
  split at h
  · exact ⟨_, _, rfl, h⟩
  · cases h
theorem mv1_inv {st : List Value} {f : Value → List Value → MR} {o} (h : mv1 st f = some o) : ∃ v r, st = v :: r ∧ v.category = 1 ∧ f v r = some o := by
  unfold mv1 at h
  split at h
  · split at h
    · exact ⟨_, _, rfl, by assumption, h⟩
    · cases h
  · cases h
theorem mj_inv {pc : Nat} {off : Int} {f : Nat → MR} {o} (h : mj pc off f = some o) : ∃ t : Nat, (pc : Int) + off = (t : Int) ∧ f t = some o := by
  unfold mj at h
  split at h
  · exact ⟨_, (Int.toNat_of_nonneg (by assumption)).symm, h⟩
  · cases h
theorem mld_inv {loc : List (Option Value)} {i : Nat} {f : Value → MR} {o} (h : mld loc i f = some o) : ∃ v, loc[i]? = some (some v) ∧ f v = some o := by
  unfold mld at h
  split at h
  · exact ⟨_, by assumption, h⟩
  · cases h
theorem mst_inv {loc : List (Option Value)} {i : Nat} {v : Value} {f : List (Option Value) → MR} {o} (h : mst loc i v f = some o) : i < loc.length ∧ mprev loc i = true ∧ f (loc.set i (some v)) = some o := by
  unfold mst at h
  split at h
  · rename_i c
    exact ⟨c.1, c.2, h⟩
  · cases h
theorem mst2_inv {loc : List (Option Value)} {i : Nat} {v : Value} {f : List (Option Value) → MR} {o} (h : mst2 loc i v f = some o) : i + 1 < loc.length ∧ mprev loc i = true ∧ f ((loc.set i (some v)).set (i + 1) none) = some o := by
  unfold mst2 at h
  split at h
  · rename_i c
    exact ⟨c.1, c.2, h⟩
  · cases h
theorem mix_inv {i : Int32} {n : Nat} {f : Nat → MR} {o} (h : mix i n f = some o) : vp_in i n ∧ f i.toNatClampNeg = some o := by
  unfold mix at h
  split at h
  · cases h
  · exact ⟨by assumption, h⟩
theorem mgo_inv {pc : Nat} {loc : List (Option Value)} {st : List Value} {h : MH} {o} (e : mgo pc loc st h = some o) : o = .inl ((pc, loc, st), h) := (Option.some.inj e).symm
theorem milo_inv {loc : List (Option Value)} {i pc : Nat} {st : List Value} {h : MH} {o} (e : milo loc i pc st h = some o) : ∃ x, loc[i]? = some (some (.int x)) ∧ o = .inl ((pc, loc, .int x :: st), h) := by
  obtain ⟨v, h1, h2⟩ := mld_inv e
  split at h2
  · exact ⟨_, h1, mgo_inv h2⟩
  · cases h2
theorem mllo_inv {loc : List (Option Value)} {i pc : Nat} {st : List Value} {h : MH} {o} (e : mllo loc i pc st h = some o) : ∃ x, loc[i]? = some (some (.long x)) ∧ o = .inl ((pc, loc, .long x :: st), h) := by
  obtain ⟨v, h1, h2⟩ := mld_inv e
  split at h2
  · exact ⟨_, h1, mgo_inv h2⟩
  · cases h2
theorem malo_inv {loc : List (Option Value)} {i pc : Nat} {st : List Value} {h : MH} {o} (e : malo loc i pc st h = some o) : ∃ v, loc[i]? = some (some v) ∧ (v = .null ∨ ∃ k, v = .ref k) ∧ o = .inl ((pc, loc, v :: st), h) := by
  obtain ⟨v, h1, h2⟩ := mld_inv e
  split at h2
  · exact ⟨_, h1, Or.inr ⟨_, rfl⟩, mgo_inv h2⟩
  · exact ⟨_, h1, Or.inl rfl, mgo_inv h2⟩
  · cases h2
theorem mast_inv {loc : List (Option Value)} {i pc : Nat} {st : List Value} {h : MH} {o} (e : mast loc i pc st h = some o) : ∃ v r, st = v :: r ∧ (v = .null ∨ ∃ k, v = .ref k) ∧ i < loc.length ∧ mprev loc i = true ∧ o = .inl ((pc, loc.set i (some v), r), h) := by
  unfold mast at e
  split at e
  · obtain ⟨h1, h2, h3⟩ := mst_inv e
    exact ⟨_, _, rfl, Or.inr ⟨_, rfl⟩, h1, h2, mgo_inv h3⟩
  · obtain ⟨h1, h2, h3⟩ := mst_inv e
    exact ⟨_, _, rfl, Or.inl rfl, h1, h2, mgo_inv h3⟩
  · cases e
theorem mif_inv {c : Prop} [Decidable c] {pc : Nat} {off : Int} {loc : List (Option Value)} {st : List Value} {h : MH} {o} (e : mif c pc off loc st h = some o) : ∃ t : Nat, (pc : Int) + off = (t : Int) ∧ o = .inl ((if c then t else pc + 3, loc, st), h) := by
  obtain ⟨t, h1, h2⟩ := mj_inv e
  refine ⟨t, h1, ?_⟩
  split at h2
  · rw [if_pos (by assumption)]; exact mgo_inv h2
  · rw [if_neg (by assumption)]; exact mgo_inv h2
theorem mget_inv {h : MH} {a ci k : Nat} {f : Value → MR} {o} (e : mget h a ci k f = some o) : ∃ fs v, h[a]? = some (.inl (ci, fs)) ∧ fs[k]? = some v ∧ f v = some o := by
  unfold mget at e
  split at e
  · split at e
    · rename_i h1 h2
      subst h2
      split at e
      · exact ⟨_, _, h1, by assumption, e⟩
      · cases e
    · cases e
  · cases e
theorem mput_inv {h : MH} {a ci k : Nat} {v : Value} {f : MH → MR} {o} (e : mput h a ci k v f = some o) : ∃ fs, h[a]? = some (.inl (ci, fs)) ∧ k < fs.length ∧ k < mN ci ∧ narrow (mTy ci k) v = v ∧ fits (mTy ci k) v = true ∧ f (h.set a (.inl (ci, fs.set k v))) = some o := by
  unfold mput at e
  split at e
  · split at e
    · rename_i h1 h2
      obtain ⟨rfl, h3, h4, h5, h6⟩ := h2
      exact ⟨_, h1, h3, h4, h5, h6, e⟩
    · cases e
  · cases e
theorem mias_inv {h : MH} {a : Nat} {i x : Int32} {f : MH → MR} {o} (e : mias h a i x f = some o) : ∃ n g, h[a]? = some (.inr (.inl (n, g))) ∧ vp_in i n ∧ f (h.set a (.inr (.inl (n, upd g i.toNatClampNeg x)))) = some o := by
  unfold mias at e
  split at e
  · obtain ⟨h1, h2⟩ := mix_inv e
    exact ⟨_, _, by assumption, h1, h2⟩
  · cases e
theorem mial_inv {h : MH} {a : Nat} {i : Int32} {f : Int32 → MR} {o} (e : mial h a i f = some o) : (1000 ≤ a ∧ vp_in i (mCI a).length ∧ f ((mCI a).getD i.toNatClampNeg 0) = some o) ∨ (∃ n g, h[a]? = some (.inr (.inl (n, g))) ∧ vp_in i n ∧ f (g i.toNatClampNeg) = some o) := by
  unfold mial at e
  split at e
  · obtain ⟨h1, h2⟩ := mix_inv e
    exact Or.inl ⟨by assumption, h1, h2⟩
  · split at e
    · obtain ⟨h1, h2⟩ := mix_inv e
      exact Or.inr ⟨_, _, by assumption, h1, h2⟩
    · cases e
theorem mbal_inv {a : Nat} {i : Int32} {f : Int32 → MR} {o} (e : mbal a i f = some o) : 1020 ≤ a ∧ a < 1023 ∧ vp_in i (mS.getD (a - 1020) []).length ∧ f ((mS.getD (a - 1020) []).getD i.toNatClampNeg 0) = some o := by
  unfold mbal at e
  split at e
  · rename_i c
    obtain ⟨h1, h2⟩ := mix_inv e
    exact ⟨c.1, c.2, h1, h2⟩
  · cases e
theorem maal_inv {h : MH} {a : Nat} {i : Int32} {f : Value → MR} {o} (e : maal h a i f = some o) : ∃ c n g, h[a]? = some (.inr (.inr (c, n, g))) ∧ vp_in i n ∧ f (va_rf (g i.toNatClampNeg)) = some o := by
  unfold maal at e
  split at e
  · obtain ⟨h1, h2⟩ := mix_inv e
    exact ⟨_, _, _, by assumption, h1, h2⟩
  · cases e
theorem maas_inv {h : MH} {a : Nat} {i : Int32} {v : Nat} {f : MH → MR} {o} (e : maas h a i v f = some o) : ∃ c n g fs, h[a]? = some (.inr (.inr (c, n, g))) ∧ h[v]? = some (.inl (c, fs)) ∧ c < 10 ∧ vp_in i n ∧ f (h.set a (.inr (.inr (c, n, va_up g i.toNatClampNeg (some v))))) = some o := by
  unfold maas at e
  split at e
  · split at e
    · rename_i h1 h2 h3
      obtain ⟨rfl, h6⟩ := h3
      obtain ⟨h4, h5⟩ := mix_inv e
      exact ⟨_, _, _, _, h1, h2, h6, h4, h5⟩
    · cases e
  · cases e
theorem malen_inv {h : MH} {a : Nat} {f : Nat → MR} {o} (e : malen h a f = some o) : (1020 ≤ a ∧ a < 1023 ∧ f (mS.getD (a - 1020) []).length = some o) ∨ ((a = 1000 ∨ a = 1001) ∧ f 6 = some o) ∨ (∃ n g, h[a]? = some (.inr (.inl (n, g))) ∧ f n = some o) ∨ (∃ c n g, h[a]? = some (.inr (.inr (c, n, g))) ∧ f n = some o) := by
  unfold malen at e
  split at e
  · rename_i c
    exact Or.inl ⟨c.1, c.2, e⟩
  · split at e
    · split at e
      · exact Or.inr (Or.inl ⟨by assumption, e⟩)
      · cases e
    · split at e
      · exact Or.inr (Or.inr (Or.inl ⟨_, _, by assumption, e⟩))
      · exact Or.inr (Or.inr (Or.inr ⟨_, _, _, by assumption, e⟩))
      · cases e
theorem mret_inv {v : Option Value} {h : MH} {o} (e : mret v h = some o) : o = .inr (.inl (v, h)) := (Option.some.inj e).symm
theorem mcopy_inv {h : MH} {pc : Nat} {loc : List (Option Value)} {st : List Value} {o} (e : mcopy h pc loc st = some o) : ∃ n dp b sp a rest n0 f n1 g, st = .int n :: .int dp :: .ref b :: .int sp :: .ref a :: rest ∧ h[a]? = some (.inr (.inl (n0, f))) ∧ h[b]? = some (.inr (.inl (n1, g))) ∧ ¬ sp < 0 ∧ ¬ dp < 0 ∧ ¬ n < 0 ∧ sp.toNatClampNeg + n.toNatClampNeg ≤ n0 ∧ dp.toNatClampNeg + n.toNatClampNeg ≤ n1 ∧ mcat rest ≤ 8 ∧
    o = .inl ((pc + 3, loc, rest), h.set b (.inr (.inl (n1, va_cpy f g sp.toNatClampNeg dp.toNatClampNeg n.toNatClampNeg)))) := by
  unfold mcopy at e
  split at e
  · split at e
    · split at e
      · rename_i h1 h2 c
        obtain ⟨c1, c2, c3, c4, c5, c6⟩ := c
        exact ⟨_, _, _, _, _, _, _, _, _, _, rfl, h1, h2, c1, c2, c3, c4, c5, c6, mgo_inv e⟩
      · cases e
    · cases e
  · cases e
theorem minv_inv {h : MH} {mode k pc : Nat} {loc : List (Option Value)} {st : List Value} {o} (e : minv h mode k pc loc st = some o) : ∃ q as rest, mtab[k]? = some q ∧ as.length = q.2.2.2.2.2 ∧ mcat rest ≤ 8 ∧
    (((mode = 2 ∨ mode = 3) ∧ st = as.reverse ++ rest ∧ o = .inr (.inr (k, as, (pc + 3, loc, rest)))) ∨
     (¬ (mode = 2 ∨ mode = 3) ∧ ∃ b, st = as.reverse ++ .ref b :: rest ∧ mrcv h b q.2.2.2.2.1 = true ∧ o = .inr (.inr (k, .ref b :: as, (pc + 3, loc, rest))))) := by
  unfold minv at e
  split at e
  · cases e
  · rename_i q hq
    split at e
    · cases e
    · rename_i hl
      have hlen : (st.take q.2.2.2.2.2).reverse.length = q.2.2.2.2.2 := by rw [List.length_reverse, List.length_take]; omega
      split at e
      · split at e
        · refine ⟨q, (st.take q.2.2.2.2.2).reverse, st.drop q.2.2.2.2.2, hq, hlen, by assumption, Or.inl ⟨by assumption, ?_, (Option.some.inj e).symm⟩⟩
          rw [List.reverse_reverse, List.take_append_drop]
        · cases e
      · split at e
        · rename_i hm _ b rest hd
          split at e
          · rename_i c
            refine ⟨q, (st.take q.2.2.2.2.2).reverse, rest, hq, hlen, c.1, Or.inr ⟨hm, b, ?_, c.2, (Option.some.inj e).symm⟩⟩
            rw [List.reverse_reverse, ← hd, List.take_append_drop]
          · cases e
        · cases e
