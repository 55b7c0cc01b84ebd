/-! the reference: what a text's part tells -/
/-- the reference's code of a token of the class -/
def trT (tok : Int32) : Int32 := if tok < 100 then (if tok = 9 then 12 else if tok = 10 then 11 else if tok = 11 then 13 else if tok = 15 then 6 else if tok = 16 then 7 else if tok = 17 then 8 else if tok = 18 then 9 else if tok = 19 then 10 else if tok = 22 then 14 else tok) else tok - 85
/-- tokens that stand in a text: numbers, names; signs -/
def tkP (tok : Int32) : Prop := (∃ n, n < 10000 ∧ tok = nI (100 + n)) ∨ ∃ n, n ≤ 5 ∧ tok = nI n
def tkU (tok : Int32) : Prop := tok = 11 ∨ tok = 22
def tkB (tok : Int32) : Prop := tok = 9 ∨ tok = 10 ∨ tok = 15 ∨ tok = 16 ∨ tok = 17 ∨ tok = 18 ∨ tok = 19
/-- worked off on a stack of n it leaves one -/
def wf : List Int32 → Nat → Prop
  | [], n => n = 1
  | tok :: l, n => (tkP tok ∧ wf l (n + 1)) ∨ (tkU tok ∧ 1 ≤ n ∧ wf l n) ∨ (tkB tok ∧ 2 ≤ n ∧ wf l (n - 1))
theorem bound99 (v : Int32) : (if v < 0 then (0 : Int32) else if 99 < v then 99 else v) = nI (clamp99 v) := by
  unfold clamp99
  split
  · rfl
  · rename_i h1
    split
    · rfl
    · obtain ⟨j, hj, rfl⟩ := nI_of h1
      rw [nI_clamp hj]
section M1
variable {I : Nat → Nat → Int32} {V : Nat → Nat → Nat} {L : Nat → Int64} {A : Nat → Nat → Int32}
theorem M114 (d : Nat) (v x y : Int32) (h : MH) (P : MP) : mRun (d + 1) 114 [.int v, .int x, .int y] h P = P (some (.int (if v < x then 0 else if y < v then 0 else 1))) h := by
  simp (disch := first | assumption | exact mnl_i | exact mnl_r | exact mnl_n | exact mnl_0 | omega) only [↓reduceIte, E114_0, E114_5, E114_10, E114_14, E114_15, B114, Pite]
theorem M115 (d : Nat) (v x : Int32) (h : MH) (P : MP) : mRun (d + 1) 115 [.int v, .int x] h P = P (some (.int (if v < x then x else if 99 < v then 99 else v))) h := by
  simp (disch := first | assumption | exact mnl_i | exact mnl_r | exact mnl_n | exact mnl_0 | omega) only [↓reduceIte, E115_0, E115_5, E115_9, E115_15, E115_20, E115_21, B115, Pite]
theorem M145 (d : Nat) (tok x y : Int32) (h : MH) (P : MP) (ht : tkB tok) : mRun (d + 1) 145 [.int (trT tok), .int x, .int y] h P = P (some (.int (joinedS tok x y))) h := by
  rcases ht with rfl | rfl | rfl | rfl | rfl | rfl | rfl
  · simp (disch := first | assumption | exact mnl_i | exact mnl_r | exact mnl_n | exact mnl_0 | omega) only [↓reduceIte, E145_0, E145_40, E145_44, E145_48, E145_52, E145_57, E145_61, E145_62, E145_63, E145_68, E145_72, E145_73, E145_74, E145_78, E145_82, E145_86, E145_87, E145_88, E145_92, E145_96, E145_100, E145_101, B145, Pite, joinedS, show trT 9 = 12 from rfl, show ¬ (12 : Int32) = 6 by decide, show ¬ (12 : Int32) = 7 by decide, show ¬ (12 : Int32) = 8 by decide, show ¬ (12 : Int32) = 9 by decide, show ¬ (12 : Int32) = 10 by decide, show ¬ (12 : Int32) = 11 by decide]
  · simp (disch := first | assumption | exact mnl_i | exact mnl_r | exact mnl_n | exact mnl_0 | omega) only [↓reduceIte, E145_0, E145_40, E145_44, E145_48, E145_52, E145_57, E145_61, E145_62, E145_63, E145_68, E145_72, E145_73, E145_74, E145_78, E145_82, E145_86, E145_87, E145_88, E145_92, E145_96, E145_100, E145_101, B145, Pite, joinedS, show trT 10 = 11 from rfl, show ¬ (11 : Int32) = 6 by decide, show ¬ (11 : Int32) = 7 by decide, show ¬ (11 : Int32) = 8 by decide, show ¬ (11 : Int32) = 9 by decide, show ¬ (11 : Int32) = 10 by decide, show ¬ (10 : Int32) = 9 by decide]
  · simp (disch := first | assumption | exact mnl_i | exact mnl_r | exact mnl_n | exact mnl_0 | omega) only [↓reduceIte, E145_0, E145_40, E145_44, E145_48, E145_52, E145_57, E145_61, E145_62, E145_63, E145_68, E145_72, E145_73, E145_74, E145_78, E145_82, E145_86, E145_87, E145_88, E145_92, E145_96, E145_100, E145_101, B145, Pite, joinedS, show trT 15 = 6 from rfl, show ¬ (15 : Int32) = 9 by decide, show ¬ (15 : Int32) = 10 by decide]
  · simp (disch := first | assumption | exact mnl_i | exact mnl_r | exact mnl_n | exact mnl_0 | omega) only [↓reduceIte, E145_0, E145_40, E145_44, E145_48, E145_52, E145_57, E145_61, E145_62, E145_63, E145_68, E145_72, E145_73, E145_74, E145_78, E145_82, E145_86, E145_87, E145_88, E145_92, E145_96, E145_100, E145_101, B145, Pite, joinedS, show trT 16 = 7 from rfl, show ¬ (16 : Int32) = 9 by decide, show ¬ (16 : Int32) = 10 by decide, show ¬ (16 : Int32) = 15 by decide, show ¬ (7 : Int32) = 6 by decide]
  · simp (disch := first | assumption | exact mnl_i | exact mnl_r | exact mnl_n | exact mnl_0 | omega) only [↓reduceIte, E145_0, E145_40, E145_44, E145_48, E145_52, E145_57, E145_61, E145_62, E145_63, E145_68, E145_72, E145_73, E145_74, E145_78, E145_82, E145_86, E145_87, E145_88, E145_92, E145_96, E145_100, E145_101, B145, Pite, joinedS, show trT 17 = 8 from rfl, show ¬ (17 : Int32) = 9 by decide, show ¬ (17 : Int32) = 10 by decide, show ¬ (17 : Int32) = 15 by decide, show ¬ (17 : Int32) = 16 by decide, show ¬ (17 : Int32) = 18 by decide, show ¬ (17 : Int32) = 19 by decide, show ¬ (8 : Int32) = 6 by decide, show ¬ (8 : Int32) = 7 by decide]
  · simp (disch := first | assumption | exact mnl_i | exact mnl_r | exact mnl_n | exact mnl_0 | omega) only [↓reduceIte, E145_0, E145_40, E145_44, E145_48, E145_52, E145_57, E145_61, E145_62, E145_63, E145_68, E145_72, E145_73, E145_74, E145_78, E145_82, E145_86, E145_87, E145_88, E145_92, E145_96, E145_100, E145_101, B145, Pite, joinedS, show trT 18 = 9 from rfl, show ¬ (18 : Int32) = 9 by decide, show ¬ (18 : Int32) = 10 by decide, show ¬ (18 : Int32) = 15 by decide, show ¬ (18 : Int32) = 16 by decide, show ¬ (9 : Int32) = 6 by decide, show ¬ (9 : Int32) = 7 by decide, show ¬ (9 : Int32) = 8 by decide]
  · simp (disch := first | assumption | exact mnl_i | exact mnl_r | exact mnl_n | exact mnl_0 | omega) only [↓reduceIte, E145_0, E145_40, E145_44, E145_48, E145_52, E145_57, E145_61, E145_62, E145_63, E145_68, E145_72, E145_73, E145_74, E145_78, E145_82, E145_86, E145_87, E145_88, E145_92, E145_96, E145_100, E145_101, B145, Pite, joinedS, show trT 19 = 10 from rfl, show ¬ (19 : Int32) = 9 by decide, show ¬ (19 : Int32) = 10 by decide, show ¬ (19 : Int32) = 15 by decide, show ¬ (19 : Int32) = 16 by decide, show ¬ (19 : Int32) = 18 by decide, show ¬ (10 : Int32) = 6 by decide, show ¬ (10 : Int32) = 7 by decide, show ¬ (10 : Int32) = 8 by decide, show ¬ (10 : Int32) = 9 by decide]
theorem trT_num {n : Nat} (h : n < 10000) : trT (nI (100 + n)) = nI (15 + n) := by
  unfold trT
  have h1 : ¬ nI (100 + n) < 100 := fun z => absurd ((nI_ltI (b := 100) (by omega) (by omega)).mp z) (by omega)
  rw [if_neg h1]
  have := pk_sub (a := 100 + n) (b := 85) (by omega)
  rw [show nI 85 = (85 : Int32) from rfl] at this
  rw [this, show 100 + n - 85 = 15 + n by omega]
theorem trT_nam : ∀ n, n ≤ 5 → trT (nI n) = nI n := by decide
theorem nmF_num {th : Nat → Nat} {day : Nat} {r : Nat → Nat} {n : Nat} (h : n < 10000) : nmF th day r (nI (100 + n)) = nI n := by
  unfold nmF
  have e : ∀ k, k ≤ 5 → ¬ nI (100 + n) = nI k := fun k hk z => absurd ((nI_eq (by omega) (by omega)).mp z) (by omega)
  rw [if_neg (show ¬ nI (100 + n) = 0 from e 0 (by omega)), if_neg (show ¬ nI (100 + n) = 1 from e 1 (by omega)), if_neg (show ¬ nI (100 + n) = 2 from e 2 (by omega)), if_neg (show ¬ nI (100 + n) = 3 from e 3 (by omega)), if_neg (show ¬ nI (100 + n) = 4 from e 4 (by omega)), if_neg (show ¬ nI (100 + n) = 5 from e 5 (by omega))]
  have := pk_sub (a := 100 + n) (b := 100) (by omega)
  rw [show nI 100 = (100 : Int32) from rfl] at this
  rw [this, show 100 + n - 100 = n by omega]
theorem trT_B {tok : Int32} (h : tkB tok) : trT tok < 15 ∧ 5 < trT tok ∧ ¬ trT tok = 13 ∧ ¬ trT tok = 14 := by
  rcases h with rfl | rfl | rfl | rfl | rfl | rfl | rfl <;> decide
theorem tkB_ev {tok : Int32} (h : tkB tok) : tok < 100 ∧ 5 < tok ∧ ¬ (tok = 11 ∨ tok = 22) := by
  rcases h with rfl | rfl | rfl | rfl | rfl | rfl | rfl <;> decide
theorem tkP_ev {tok : Int32} (h : tkP tok) : ¬ (tok < 100 ∧ 5 < tok) := by
  rcases h with ⟨n, hn, rfl⟩ | ⟨n, hn, rfl⟩
  · intro z
    exact absurd ((nI_ltI (b := 100) (by omega) (by omega)).mp z.1) (by omega)
  · intro z
    exact absurd ((nI_ltI (a := 5) (by omega) (by omega)).mp z.2) (by omega)
set_option maxHeartbeats 2000000 in
theorem M144_loop {rl p bg ln : Nat} {th : Nat → Nat} {day : Nat} {r : Nat → Nat} (hrl : I 0 9 = nI rl) (hp : 3 * rl + p < 18) (hln : A 10 (3 * rl + p) = nI ln) (hend : bg + ln ≤ 3000) (hnm : ∀ k, k ≤ 5 → A 14 k = nmF th day r (nI k)) (d : Nat) (P : MP) :
    ∀ (l : List Int32) (i : Nat) (s : List Int32) (f : Nat → Int32) (l5 : Option Value), (∀ j, j < l.length → A 11 (i + j) = trT (l.getD j 0)) → i + l.length = bg + ln → stk f s → s.length + l.length ≤ 180 → wf l s.length →
    (∀ f', P (some (.int (bot (l.foldl (ev1 (nmF th day r)) s)))) (mkH dSh I V L (upA A 13 f'))) →
    mFr (d + 1) 144 19 [some (.ref 0), some (.int (nI p)), some (.int (nI s.length)), some (.int (nI bg)), some (.int (nI i)), l5] [] (mkH dSh I V L (upA A 13 f)) P := by
  intro l
  induction l with
  | nil =>
    intro i s f l5 hc hi hs hn hw hP
    have hlt : ¬ i < bg + ln := by simp at hi; omega
    have hs1 : s.length = 1 := hw
    have hb0 : f 0 = bot s := stk_bot hs (fun z => by rw [z] at hs1; cases hs1)
    simp (disch := first | assumption | exact mnl_i | exact mnl_r | exact mnl_n | exact mnl_0 | omega) only [↓reduceIte, E144_19, E144_191, dShG, dShR, hrl, q_mul, q_aa, pix_nI, upA_n, hln, q_ll, hlt, pix_0, upA_s, hb0]
    exact hP f
  | cons tok l ih =>
    intro i s f l5 hc hi hs hn hw hP
    rw [List.length_cons] at hi hn
    have hlt : i < bg + ln := by omega
    have hlt2 : i < 3000 := by omega
    have htok : A 11 i = trT tok := by have := hc 0 (by simp); simpa using this
    have hsl : s.length < 200 := by omega
    have hc' : ∀ j, j < l.length → A 11 (i + 1 + j) = trT (l.getD j 0) := fun j hj => by
      have := hc (j + 1) (by rw [List.length_cons]; omega)
      rw [show i + 1 + j = i + (j + 1) by omega, this, List.getD_cons_succ]
    simp (disch := first | assumption | exact mnl_i | exact mnl_r | exact mnl_n | exact mnl_0 | omega) only [↓reduceIte, E144_19, E144_39, dShG, dShR, hrl, q_mul, q_aa, pix_nI, upA_n, hln, q_ll, hlt, htok]
    rcases hw with ⟨ht, hw⟩ | ⟨ht, hn1, hw⟩ | ⟨ht, hn2, hw⟩
    · rw [List.foldl_cons, ev1_push (tkP_ev ht)] at hP
      rcases ht with ⟨n, hn9, rfl⟩ | ⟨n, hn5, rfl⟩
      · have h1 : ¬ 15 + n < 15 := by omega
        have h2 : 15 + n - 15 = n := by omega
        rw [nmF_num hn9] at hP
        simp (disch := first | assumption | exact mnl_i | exact mnl_r | exact mnl_n | exact mnl_0 | omega) only [↓reduceIte, E144_39, E144_61, E144_76, E144_91, E144_185, dShG, dShR, trT_num hn9, q_lt, h1, q_sub, h2, pix_nI, upA_s, upA_u, q_add]
        exact ih (i + 1) (nI n :: s) (upd f s.length (nI n)) _ hc' (by omega) (stk_push hs) (by simp; omega) hw hP
      · have h1 : n < 15 := by omega
        have h2 : ¬ 5 < n := by omega
        have h3 : n < 6 := by omega
        simp (disch := first | assumption | exact mnl_i | exact mnl_r | exact mnl_n | exact mnl_0 | omega) only [↓reduceIte, E144_39, E144_55, E144_61, E144_84, E144_91, E144_185, dShG, dShR, trT_nam n hn5, q_lt, q_gt, h1, h2, pix_nI, upA_n, hnm n hn5, upA_s, upA_u, q_add]
        exact ih (i + 1) (nmF th day r (nI n) :: s) (upd f s.length (nmF th day r (nI n))) _ hc' (by omega) (stk_push hs) (by simp; omega) hw hP
    · have hu : tok < 100 ∧ 5 < tok := by rcases ht with rfl | rfl <;> decide
      rw [List.foldl_cons, ev1_un hu.1 hu.2 ht] at hP
      rcases s with _ | ⟨x, q⟩
      · simp at hn1
      · have hq : q.length < 200 := by simp at hsl; omega
        have hl1 : q.length + 1 < 2 ^ 31 := by omega
        rcases ht with rfl | rfl
        · simp only [turnedS, show ¬ (11 : Int32) = 22 by decide, if_false] at hP
          by_cases c0 : x = 0
          · rw [if_pos c0] at hP
            simp (disch := first | assumption | exact mnl_i | exact mnl_r | exact mnl_n | exact mnl_0 | omega) only [↓reduceIte, E144_39, E144_55, E144_95, E144_102, E144_109, E144_135, E144_146, E144_150, E144_151, E144_185, dShG, dShR, show trT 11 = 13 from rfl, show (13 : Int32) < 15 by decide, show (5 : Int32) < 13 by decide, show ¬ (13 : Int32) = 14 by decide, q_sub, List.length_cons, Nat.add_sub_cancel, pix_nI, upA_s, stk_top hs, c0, upA_u, q_add]
            exact ih (i + 1) (1 :: q) (upd f q.length 1) _ hc' (by omega) (stk_push (stk_tail hs)) (by simp at hn ⊢; omega) hw hP
          · rw [if_neg c0] at hP
            simp (disch := first | assumption | exact mnl_i | exact mnl_r | exact mnl_n | exact mnl_0 | omega) only [↓reduceIte, E144_39, E144_55, E144_95, E144_102, E144_109, E144_135, E144_146, E144_150, E144_151, E144_185, dShG, dShR, show trT 11 = 13 from rfl, show (13 : Int32) < 15 by decide, show (5 : Int32) < 13 by decide, show ¬ (13 : Int32) = 14 by decide, q_sub, List.length_cons, Nat.add_sub_cancel, pix_nI, upA_s, stk_top hs, c0, upA_u, q_add]
            exact ih (i + 1) (0 :: q) (upd f q.length 0) _ hc' (by omega) (stk_push (stk_tail hs)) (by simp at hn ⊢; omega) hw hP
        · simp only [turnedS, if_true] at hP
          simp (disch := first | assumption | exact mnl_i | exact mnl_r | exact mnl_n | exact mnl_0 | omega) only [↓reduceIte, E144_39, E144_55, E144_95, E144_102, E144_109, E144_123, E144_151, E144_185, dShG, dShR, show trT 22 = 14 from rfl, show (14 : Int32) < 15 by decide, show (5 : Int32) < 14 by decide, show ¬ (14 : Int32) = 13 by decide, q_sub, List.length_cons, Nat.add_sub_cancel, pix_nI, upA_s, stk_top hs, upA_u, q_add]
          exact ih (i + 1) (-x :: q) (upd f q.length (-x)) _ hc' (by omega) (stk_push (stk_tail hs)) (by simp at hn ⊢; omega) hw hP
    · obtain ⟨b1, b2, b3⟩ := tkB_ev ht
      obtain ⟨t1, t2, t3, t4⟩ := trT_B ht
      rw [List.foldl_cons, ev1_bin b1 b2 b3] at hP
      rcases s with _ | ⟨y, _ | ⟨x, q⟩⟩
      · simp at hn2
      · simp at hn2
      · have hq : q.length + 1 < 200 := by simp at hsl; omega
        have hq0 : q.length < 200 := by omega
        have ex : f q.length = x := stk_top (stk_tail hs)
        have ey : f (q.length + 1) = y := by have := stk_top hs; simpa using this
        simp (disch := first | assumption | exact mnl_i | exact mnl_r | exact mnl_n | exact mnl_0 | omega) only [↓reduceIte, tolS, E144_39, E144_55, E144_95, E144_102, E144_155, E144_185, dShG, dShR, t1, t2, t3, t4, q_addm, q_sub, List.length_cons, Nat.add_sub_cancel, pix_nI, upA_s, ex, ey, M145 _ _ _ _ _ _ ht, upA_u, q_add]
        exact ih (i + 1) (joinedS tok x y :: q) (upd f q.length (joinedS tok x y)) _ hc' (by omega) (stk_push (stk_tail (stk_tail hs))) (by simp at hn ⊢; omega) (by simpa using hw) hP
end M1
