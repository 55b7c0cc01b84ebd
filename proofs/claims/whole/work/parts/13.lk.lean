/-! lookupswitch; the small machine's heap out of registers -/
theorem F_lookup {d k pc : Nat} {loc : List (Option Value)} {st : List Value} {h : MH} {P : MP} {q : MI} {dflt : Int} {prs : Array (Int × Int)} {x : Int32} (td : Nat) (ps : List (Int32 × Nat)) (hq : mtab[k]? = some q) (hf : mfetch q.2.1 pc = some (.lookupswitch dflt prs)) (ht : (pc : Int) + dflt = (td : Int))
    (hps : prs.toList.map (fun p => (p.1, (pc : Int) + p.2)) = ps.map (fun p => (p.1.toInt, (p.2 : Int)))) (hso : (prs.toList.zip (prs.toList.drop 1)).all (fun (a, next) => a.1 < next.1) = true) : mFr d k pc loc (.int x :: st) h P = psw x (fun t => mFr d k t loc st h P) td ps := by
  have key : ∀ (l : List (Int × Int)) (ps : List (Int32 × Nat)), l.map (fun p => (p.1, (pc : Int) + p.2)) = ps.map (fun p => (p.1.toInt, (p.2 : Int))) → (pc : Int) + Op.lookupswitch.offset l dflt x.toInt = (pswT x td ps : Int) := by
    intro l
    induction l with
    | nil =>
      intro ps h
      cases ps with
      | nil => exact ht
      | cons p r => cases h
    | cons a r ih =>
      intro ps h
      cases ps with
      | nil => cases h
      | cons p r2 =>
        obtain ⟨v, o⟩ := a
        obtain ⟨c, t⟩ := p
        simp only [List.map_cons, List.cons.injEq, Prod.mk.injEq] at h
        obtain ⟨⟨h1, h2⟩, h3⟩ := h
        have ih2 := ih r2 h3
        by_cases e : x = c
        · simp only [pswT, if_pos e]
          rw [← h2]
          simp only [Op.lookupswitch.offset, h1, e, if_true, beq_self_eq_true]
        · have e2 : ¬ c.toInt = x.toInt := fun z => e (i32_toInt z).symm
          have e3 : ¬ x.toInt = c.toInt := fun z => e (i32_toInt z)
          simp only [pswT, if_neg e]
          rw [← ih2]
          simp only [Op.lookupswitch.offset, h1, e2, e3, if_false, beq_eq_false_iff_ne.mpr e2, beq_eq_false_iff_ne.mpr e3, Bool.false_eq_true]
  rw [psw_T, mFr_S hq hf]
  simp only [mstep, mi1, if_pos hso]
  rw [mres_j (key _ _ hps)]
  rfl
