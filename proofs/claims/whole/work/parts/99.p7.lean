/-! the law from its entry -/
theorem lw_nws : mchk (fun _ => true) [.classLink R_law 7 (mcn.getD 8 ""), .classLink R_law 10 (mcn.getD 9 ""), .methodLink R_law 9 q61.1, .instanceMethod q61.1, .methodLink R_law 12 q113.1, .instanceMethod q113.1] [(1, 18), (4, 75), (1, 20), (1, 21), (4, 77), (4, 78)] = true := by decide +kernel
theorem lw_D {s : State} {args : Array Value} (hts : ∀ w ∈ lw_tbl, w.before args s = true) : ∃ D : va_G, va_K D vwCl [] s := by
  have htg := lw_goodIn hts
  have h1 : ∀ ci : Nat, ∃ q : ClassId × (Nat → Nat), ci < 10 → u_Kn s (mcn.getD ci "") (mTab ci) (mN ci) q.1 q.2 := by
    intro ci
    by_cases hci : ci < 10
    · obtain ⟨cC, iS, hk⟩ := u_known (n := mN ci) htg (mcls_ws ci hci) (htg _ (mcls_new ci hci _ List.mem_cons_self))
      exact ⟨(cC, iS), fun _ => hk⟩
    · exact ⟨(0, fun _ => 0), fun h => absurd h hci⟩
  obtain ⟨f, hf⟩ := Classical.axiomOfChoice h1
  refine ⟨(fun c => (f c).1, fun c => (f c).2), fun c q hq => ?_, fun k q h => by cases h⟩
  have hc : c < 10 := (List.getElem?_eq_some_iff.mp hq).1
  have h2 := mcls_at c hc
  rw [hq] at h2
  cases h2
  exact hf c hc
set_option maxHeartbeats 4000000 in
theorem whole_start {p : Program} {e : Env} {s : State} {m : MethodId} {below : List Frame} {meth : Method} {c : Code} (l : Launch) (hflags : l.flags = flags0) {b L : Nat} {xs : Nat → Int32} (hL : L ≤ 3072) (C0 : lw_At p s m meth c b L xs) : W p l e room_1 s m #[Value.ref b] below meth c s.heap [] 0 0 (lw_Z below #[Value.ref b] s) (entryFrame m ([Value.ref b] : List Value).toArray 4) := by
  obtain ⟨hx, hb, hr, hml, hown, hts, hX, hbl, hlocks, hgv⟩ := id C0
  have hA : ∀ q : Nat, s.heap.size ≤ q → (fun q : Nat => s.heap.size ≤ q) q := fun _ h => h
  obtain ⟨D, hK⟩ := lw_D hts
  obtain ⟨K, z, hC⟩ := lw_mC hts hgv
  have hf : CallFix p m c code 4 s #[Value.ref b] lw_tbl R_law := ⟨hx, hb, hml, hown, hts⟩
  have hl := lv_entry ([.ref b]) (n := 4) (Nat.le_of_ble_eq_true rfl)
  rw [lg_entry_eq]
  generalize (lg_sl ([.ref b]) ++ List.replicate (4 - (lg_sl ([.ref b])).length) Slot.unset).toArray = ls at hl ⊢
  have hl : lv_has ls 4 [(0, .ref b)] := hl
  have hw : LWd D (fun q => s.heap.size ≤ q) s z K (K 0) (K 0) [] [] s.heap [] := ⟨K, K, [], [], [], [], ⟨⟨rfl, fun k c h => (by cases h)⟩, ⟨rfl, fun k c h => (by cases h)⟩⟩, ⟨rfl, rfl⟩, ⟨fun _ _ => rfl, fun _ _ => rfl⟩, ⟨fun k q h => (by cases h), fun k q h => (by cases h)⟩, ⟨⟨fun i j p q h => (by cases h), fun k q h => (by cases h)⟩, ⟨fun i j p q h => (by cases h), fun k q h => (by cases h)⟩⟩, fun i j p q h => (by cases h), ⟨hK, hK⟩, va_S.rf⟩
  have hcon : 21 ≤ room_1.frames ∧ 60 * 21 ≤ room_1.locals := by decide
  refine lw_new (ci := 8) (idx := 7) hf (by omega) (lw_w (k := 0) lw_nws rfl) hA hw (by decide) d_law_0 (fun q0 H1 hw1 => ?_)
  refine lv_dup hx hb d_law_3 rfl ?_
  refine lw_callI (d := 20) (ci := 8) (mc := 64) hf hC hA hw1 run61 mq61 mhok_new rfl ⟨rfl, rfl⟩ rfl (lw_w (k := 2) lw_nws rfl) (lw_w (k := 3) lw_nws rfl) hcon d_law_4 (Nat.le_of_ble_eq_true rfl) hl.1 (by decide +kernel) (by decide) (fun H2 locs2 hw2 => ?_)
  refine lv_astore_n (lv' := [(1, .ref q0), (0, .ref b)]) hx hb d_law_7 rfl hl (by decide) rfl (fun ls hl => ?_)
  refine lw_new (ci := 9) (idx := 10) hf (by omega) (lw_w (k := 1) lw_nws rfl) hA (LWd_swap hw2) (by decide) d_law_8 (fun q1 H3 hw3 => ?_)
  refine lv_dup hx hb d_law_11 rfl ?_
  refine lw_callI (d := 20) (ci := 9) (mc := 22) hf hC hA hw3 run113 mq113 mhok_new rfl ⟨rfl, rfl⟩ rfl (lw_w (k := 4) lw_nws rfl) (lw_w (k := 5) lw_nws rfl) hcon d_law_12 (Nat.le_of_ble_eq_true rfl) hl.1 (by decide +kernel) (by decide) (fun H4 locs4 hw4 => ?_)
  refine lv_astore_n (lv' := [(2, .ref q1), (1, .ref q0), (0, .ref b)]) hx hb d_law_15 rfl hl (by decide) rfl (fun ls hl => ?_)
  refine lv_iconst (v := 0) hx hb d_law_16 (by decide) ?_
  refine lv_istore_n (lv' := [(3, .int 0), (2, .ref q1), (1, .ref q0), (0, .ref b)]) hx hb d_law_17 rfl hl (by decide) rfl (fun ls hl => ?_)
  refine W.widen (k := 600000) (n := 7302250) (by decide) (by decide) ?_
  have m1 := (mcall_ok 20 3000 _ _ _ _ _ run61 mhok_new (fun a ha => by rw [List.mem_singleton.mp ha]; exact mvok_lt (by decide))).2.1
  have m2 := (mcall_ok 20 3000 _ _ _ _ _ run113 mhok_new (fun a ha => by rw [List.mem_singleton.mp ha]; exact mvok_lt (by decide))).2.1
  exact law_loop C0 hL hC L 0 (by omega) (by omega) hC0 hM0 H4 locs4 (LWd_swap hw4) REL0 ⟨m1, m2⟩ ls (lv_sub hl [3, 2, 1, 0] rfl)
