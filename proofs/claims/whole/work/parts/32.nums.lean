/-! small numbers as ints: rules for simp, literals on either side -/
theorem kA {a n : Nat} (h : cSh[a]? = some (sArr n)) : (∀ (I : Nat → Nat → Int32) (V : Nat → Nat → Nat) (L : Nat → Int64) (A : Nat → Nat → Int32) (i : Int32) (K : Int32 → Prop), pial (mkH cSh I V L A) a i K = pix i n (fun j => K (A a j))) ∧
    (∀ (I : Nat → Nat → Int32) (V : Nat → Nat → Nat) (L : Nat → Int64) (A : Nat → Nat → Int32) (i x : Int32) (K : MH → Prop), pias (mkH cSh I V L A) a i x K = pix i n (fun j => K (mkH cSh I V L (upA A a (upd (A a) j x))))) ∧
    ∀ (I : Nat → Nat → Int32) (V : Nat → Nat → Nat) (L : Nat → Int64) (A : Nat → Nat → Int32) (K : Nat → Prop), palen (mkH cSh I V L A) a K = K n :=
  ⟨fun _ _ _ _ _ _ => H_iald h (cSh_lt h), fun _ _ _ _ _ _ _ => H_iast h, fun _ _ _ _ _ => H_alenI h (cSh_lt h)⟩
theorem upA_s {A : Nat → Nat → Int32} {a : Nat} {f : Nat → Int32} : upA A a f a = f := if_pos rfl
theorem upA_n {A : Nat → Nat → Int32} {a b : Nat} {f : Nat → Int32} (h : b ≠ a) : upA A a f b = A b := if_neg h
theorem upA_u {A : Nat → Nat → Int32} {a : Nat} {f g : Nat → Int32} : upA (upA A a f) a g = upA A a g := by
  funext b
  unfold upA
  split <;> rfl
theorem upA_self {A : Nat → Nat → Int32} {a : Nat} : upA A a (A a) = A := by
  funext b
  unfold upA
  split
  · rename_i h; rw [h]
  · rfl
theorem up2_s {α : Type} {I : Nat → Nat → α} {a f : Nat} {v : α} : up2 I a f v a f = v := if_pos ⟨rfl, rfl⟩
theorem up2_a {α : Type} {I : Nat → Nat → α} {a f b g : Nat} {v : α} (h : b ≠ a) : up2 I a f v b g = I b g := if_neg (fun z => h z.1)
theorem up2_f {α : Type} {I : Nat → Nat → α} {a f b g : Nat} {v : α} (h : g ≠ f) : up2 I a f v b g = I b g := if_neg (fun z => h z.2)
theorem upd_s {f : Nat → Int32} {k : Nat} {x : Int32} : upd f k x k = x := if_pos rfl
theorem upd_n {f : Nat → Int32} {k j : Nat} {x : Int32} (h : j ≠ k) : upd f k x j = f j := if_neg h
theorem nI_d (n : Nat) : Int32.ofNat n = nI n := rfl
theorem q_lt : (∀ a : Nat, a < 2 ^ 31 → (nI a < (1 : Int32)) = (a < 1)) ∧
  (∀ a : Nat, a < 2 ^ 31 → (nI a < (2 : Int32)) = (a < 2)) ∧
  (∀ a : Nat, a < 2 ^ 31 → (nI a < (3 : Int32)) = (a < 3)) ∧
  (∀ a : Nat, a < 2 ^ 31 → (nI a < (4 : Int32)) = (a < 4)) ∧
  (∀ a : Nat, a < 2 ^ 31 → (nI a < (5 : Int32)) = (a < 5)) ∧
  (∀ a : Nat, a < 2 ^ 31 → (nI a < (6 : Int32)) = (a < 6)) ∧
  (∀ a : Nat, a < 2 ^ 31 → (nI a < (7 : Int32)) = (a < 7)) ∧
  (∀ a : Nat, a < 2 ^ 31 → (nI a < (8 : Int32)) = (a < 8)) ∧
  (∀ a : Nat, a < 2 ^ 31 → (nI a < (9 : Int32)) = (a < 9)) ∧
  (∀ a : Nat, a < 2 ^ 31 → (nI a < (10 : Int32)) = (a < 10)) ∧
  (∀ a : Nat, a < 2 ^ 31 → (nI a < (11 : Int32)) = (a < 11)) ∧
  (∀ a : Nat, a < 2 ^ 31 → (nI a < (12 : Int32)) = (a < 12)) ∧
  (∀ a : Nat, a < 2 ^ 31 → (nI a < (13 : Int32)) = (a < 13)) ∧
  (∀ a : Nat, a < 2 ^ 31 → (nI a < (14 : Int32)) = (a < 14)) ∧
  (∀ a : Nat, a < 2 ^ 31 → (nI a < (15 : Int32)) = (a < 15)) ∧
  (∀ a : Nat, a < 2 ^ 31 → (nI a < (16 : Int32)) = (a < 16)) ∧
  (∀ a : Nat, a < 2 ^ 31 → (nI a < (17 : Int32)) = (a < 17)) ∧
  (∀ a : Nat, a < 2 ^ 31 → (nI a < (18 : Int32)) = (a < 18)) ∧
  (∀ a : Nat, a < 2 ^ 31 → (nI a < (19 : Int32)) = (a < 19)) ∧
  (∀ a : Nat, a < 2 ^ 31 → (nI a < (20 : Int32)) = (a < 20)) ∧
  (∀ a : Nat, a < 2 ^ 31 → (nI a < (21 : Int32)) = (a < 21)) ∧
  (∀ a : Nat, a < 2 ^ 31 → (nI a < (22 : Int32)) = (a < 22)) ∧
  (∀ a : Nat, a < 2 ^ 31 → (nI a < (23 : Int32)) = (a < 23)) ∧
  (∀ a : Nat, a < 2 ^ 31 → (nI a < (24 : Int32)) = (a < 24)) ∧
  (∀ a : Nat, a < 2 ^ 31 → (nI a < (25 : Int32)) = (a < 25)) ∧
  (∀ a : Nat, a < 2 ^ 31 → (nI a < (30 : Int32)) = (a < 30)) ∧
  (∀ a : Nat, a < 2 ^ 31 → (nI a < (31 : Int32)) = (a < 31)) ∧
  (∀ a : Nat, a < 2 ^ 31 → (nI a < (32 : Int32)) = (a < 32)) ∧
  (∀ a : Nat, a < 2 ^ 31 → (nI a < (33 : Int32)) = (a < 33)) ∧
  (∀ a : Nat, a < 2 ^ 31 → (nI a < (39 : Int32)) = (a < 39)) ∧
  (∀ a : Nat, a < 2 ^ 31 → (nI a < (40 : Int32)) = (a < 40)) ∧
  (∀ a : Nat, a < 2 ^ 31 → (nI a < (41 : Int32)) = (a < 41)) ∧
  (∀ a : Nat, a < 2 ^ 31 → (nI a < (48 : Int32)) = (a < 48)) ∧
  (∀ a : Nat, a < 2 ^ 31 → (nI a < (50 : Int32)) = (a < 50)) ∧
  (∀ a : Nat, a < 2 ^ 31 → (nI a < (57 : Int32)) = (a < 57)) ∧
  (∀ a : Nat, a < 2 ^ 31 → (nI a < (60 : Int32)) = (a < 60)) ∧
  (∀ a : Nat, a < 2 ^ 31 → (nI a < (85 : Int32)) = (a < 85)) ∧
  (∀ a : Nat, a < 2 ^ 31 → (nI a < (96 : Int32)) = (a < 96)) ∧
  (∀ a : Nat, a < 2 ^ 31 → (nI a < (97 : Int32)) = (a < 97)) ∧
  (∀ a : Nat, a < 2 ^ 31 → (nI a < (98 : Int32)) = (a < 98)) ∧
  (∀ a : Nat, a < 2 ^ 31 → (nI a < (99 : Int32)) = (a < 99)) ∧
  (∀ a : Nat, a < 2 ^ 31 → (nI a < (100 : Int32)) = (a < 100)) ∧
  (∀ a : Nat, a < 2 ^ 31 → (nI a < (122 : Int32)) = (a < 122)) ∧
  (∀ a : Nat, a < 2 ^ 31 → (nI a < (159 : Int32)) = (a < 159)) ∧
  (∀ a : Nat, a < 2 ^ 31 → (nI a < (160 : Int32)) = (a < 160)) ∧
  (∀ a : Nat, a < 2 ^ 31 → (nI a < (200 : Int32)) = (a < 200)) ∧
  (∀ a : Nat, a < 2 ^ 31 → (nI a < (240 : Int32)) = (a < 240)) ∧
  (∀ a : Nat, a < 2 ^ 31 → (nI a < (255 : Int32)) = (a < 255)) ∧
  (∀ a : Nat, a < 2 ^ 31 → (nI a < (300 : Int32)) = (a < 300)) ∧
  (∀ a : Nat, a < 2 ^ 31 → (nI a < (999 : Int32)) = (a < 999)) ∧
  (∀ a : Nat, a < 2 ^ 31 → (nI a < (1000 : Int32)) = (a < 1000)) ∧
  (∀ a : Nat, a < 2 ^ 31 → (nI a < (3000 : Int32)) = (a < 3000)) :=
  ⟨fun _ h => propext (nI_ltI (b := 1) h (by decide)), fun _ h => propext (nI_ltI (b := 2) h (by decide)), fun _ h => propext (nI_ltI (b := 3) h (by decide)), fun _ h => propext (nI_ltI (b := 4) h (by decide)), fun _ h => propext (nI_ltI (b := 5) h (by decide)), fun _ h => propext (nI_ltI (b := 6) h (by decide)), fun _ h => propext (nI_ltI (b := 7) h (by decide)), fun _ h => propext (nI_ltI (b := 8) h (by decide)), fun _ h => propext (nI_ltI (b := 9) h (by decide)), fun _ h => propext (nI_ltI (b := 10) h (by decide)), fun _ h => propext (nI_ltI (b := 11) h (by decide)), fun _ h => propext (nI_ltI (b := 12) h (by decide)), fun _ h => propext (nI_ltI (b := 13) h (by decide)), fun _ h => propext (nI_ltI (b := 14) h (by decide)), fun _ h => propext (nI_ltI (b := 15) h (by decide)), fun _ h => propext (nI_ltI (b := 16) h (by decide)), fun _ h => propext (nI_ltI (b := 17) h (by decide)), fun _ h => propext (nI_ltI (b := 18) h (by decide)), fun _ h => propext (nI_ltI (b := 19) h (by decide)), fun _ h => propext (nI_ltI (b := 20) h (by decide)), fun _ h => propext (nI_ltI (b := 21) h (by decide)), fun _ h => propext (nI_ltI (b := 22) h (by decide)), fun _ h => propext (nI_ltI (b := 23) h (by decide)), fun _ h => propext (nI_ltI (b := 24) h (by decide)), fun _ h => propext (nI_ltI (b := 25) h (by decide)), fun _ h => propext (nI_ltI (b := 30) h (by decide)), fun _ h => propext (nI_ltI (b := 31) h (by decide)), fun _ h => propext (nI_ltI (b := 32) h (by decide)), fun _ h => propext (nI_ltI (b := 33) h (by decide)), fun _ h => propext (nI_ltI (b := 39) h (by decide)), fun _ h => propext (nI_ltI (b := 40) h (by decide)), fun _ h => propext (nI_ltI (b := 41) h (by decide)), fun _ h => propext (nI_ltI (b := 48) h (by decide)), fun _ h => propext (nI_ltI (b := 50) h (by decide)), fun _ h => propext (nI_ltI (b := 57) h (by decide)), fun _ h => propext (nI_ltI (b := 60) h (by decide)), fun _ h => propext (nI_ltI (b := 85) h (by decide)), fun _ h => propext (nI_ltI (b := 96) h (by decide)), fun _ h => propext (nI_ltI (b := 97) h (by decide)), fun _ h => propext (nI_ltI (b := 98) h (by decide)), fun _ h => propext (nI_ltI (b := 99) h (by decide)), fun _ h => propext (nI_ltI (b := 100) h (by decide)), fun _ h => propext (nI_ltI (b := 122) h (by decide)), fun _ h => propext (nI_ltI (b := 159) h (by decide)), fun _ h => propext (nI_ltI (b := 160) h (by decide)), fun _ h => propext (nI_ltI (b := 200) h (by decide)), fun _ h => propext (nI_ltI (b := 240) h (by decide)), fun _ h => propext (nI_ltI (b := 255) h (by decide)), fun _ h => propext (nI_ltI (b := 300) h (by decide)), fun _ h => propext (nI_ltI (b := 999) h (by decide)), fun _ h => propext (nI_ltI (b := 1000) h (by decide)), fun _ h => propext (nI_ltI (b := 3000) h (by decide))⟩
theorem q_gt : (∀ a : Nat, a < 2 ^ 31 → ((0 : Int32) < nI a) = (0 < a)) ∧
  (∀ a : Nat, a < 2 ^ 31 → ((1 : Int32) < nI a) = (1 < a)) ∧
  (∀ a : Nat, a < 2 ^ 31 → ((2 : Int32) < nI a) = (2 < a)) ∧
  (∀ a : Nat, a < 2 ^ 31 → ((3 : Int32) < nI a) = (3 < a)) ∧
  (∀ a : Nat, a < 2 ^ 31 → ((4 : Int32) < nI a) = (4 < a)) ∧
  (∀ a : Nat, a < 2 ^ 31 → ((5 : Int32) < nI a) = (5 < a)) ∧
  (∀ a : Nat, a < 2 ^ 31 → ((6 : Int32) < nI a) = (6 < a)) ∧
  (∀ a : Nat, a < 2 ^ 31 → ((7 : Int32) < nI a) = (7 < a)) ∧
  (∀ a : Nat, a < 2 ^ 31 → ((8 : Int32) < nI a) = (8 < a)) ∧
  (∀ a : Nat, a < 2 ^ 31 → ((9 : Int32) < nI a) = (9 < a)) ∧
  (∀ a : Nat, a < 2 ^ 31 → ((10 : Int32) < nI a) = (10 < a)) ∧
  (∀ a : Nat, a < 2 ^ 31 → ((11 : Int32) < nI a) = (11 < a)) ∧
  (∀ a : Nat, a < 2 ^ 31 → ((12 : Int32) < nI a) = (12 < a)) ∧
  (∀ a : Nat, a < 2 ^ 31 → ((13 : Int32) < nI a) = (13 < a)) ∧
  (∀ a : Nat, a < 2 ^ 31 → ((14 : Int32) < nI a) = (14 < a)) ∧
  (∀ a : Nat, a < 2 ^ 31 → ((15 : Int32) < nI a) = (15 < a)) ∧
  (∀ a : Nat, a < 2 ^ 31 → ((16 : Int32) < nI a) = (16 < a)) ∧
  (∀ a : Nat, a < 2 ^ 31 → ((17 : Int32) < nI a) = (17 < a)) ∧
  (∀ a : Nat, a < 2 ^ 31 → ((18 : Int32) < nI a) = (18 < a)) ∧
  (∀ a : Nat, a < 2 ^ 31 → ((19 : Int32) < nI a) = (19 < a)) ∧
  (∀ a : Nat, a < 2 ^ 31 → ((20 : Int32) < nI a) = (20 < a)) ∧
  (∀ a : Nat, a < 2 ^ 31 → ((21 : Int32) < nI a) = (21 < a)) ∧
  (∀ a : Nat, a < 2 ^ 31 → ((22 : Int32) < nI a) = (22 < a)) ∧
  (∀ a : Nat, a < 2 ^ 31 → ((23 : Int32) < nI a) = (23 < a)) ∧
  (∀ a : Nat, a < 2 ^ 31 → ((24 : Int32) < nI a) = (24 < a)) ∧
  (∀ a : Nat, a < 2 ^ 31 → ((25 : Int32) < nI a) = (25 < a)) ∧
  (∀ a : Nat, a < 2 ^ 31 → ((30 : Int32) < nI a) = (30 < a)) ∧
  (∀ a : Nat, a < 2 ^ 31 → ((31 : Int32) < nI a) = (31 < a)) ∧
  (∀ a : Nat, a < 2 ^ 31 → ((32 : Int32) < nI a) = (32 < a)) ∧
  (∀ a : Nat, a < 2 ^ 31 → ((33 : Int32) < nI a) = (33 < a)) ∧
  (∀ a : Nat, a < 2 ^ 31 → ((39 : Int32) < nI a) = (39 < a)) ∧
  (∀ a : Nat, a < 2 ^ 31 → ((40 : Int32) < nI a) = (40 < a)) ∧
  (∀ a : Nat, a < 2 ^ 31 → ((41 : Int32) < nI a) = (41 < a)) ∧
  (∀ a : Nat, a < 2 ^ 31 → ((48 : Int32) < nI a) = (48 < a)) ∧
  (∀ a : Nat, a < 2 ^ 31 → ((50 : Int32) < nI a) = (50 < a)) ∧
  (∀ a : Nat, a < 2 ^ 31 → ((57 : Int32) < nI a) = (57 < a)) ∧
  (∀ a : Nat, a < 2 ^ 31 → ((60 : Int32) < nI a) = (60 < a)) ∧
  (∀ a : Nat, a < 2 ^ 31 → ((85 : Int32) < nI a) = (85 < a)) ∧
  (∀ a : Nat, a < 2 ^ 31 → ((96 : Int32) < nI a) = (96 < a)) ∧
  (∀ a : Nat, a < 2 ^ 31 → ((97 : Int32) < nI a) = (97 < a)) ∧
  (∀ a : Nat, a < 2 ^ 31 → ((98 : Int32) < nI a) = (98 < a)) ∧
  (∀ a : Nat, a < 2 ^ 31 → ((99 : Int32) < nI a) = (99 < a)) ∧
  (∀ a : Nat, a < 2 ^ 31 → ((100 : Int32) < nI a) = (100 < a)) ∧
  (∀ a : Nat, a < 2 ^ 31 → ((122 : Int32) < nI a) = (122 < a)) ∧
  (∀ a : Nat, a < 2 ^ 31 → ((159 : Int32) < nI a) = (159 < a)) ∧
  (∀ a : Nat, a < 2 ^ 31 → ((160 : Int32) < nI a) = (160 < a)) ∧
  (∀ a : Nat, a < 2 ^ 31 → ((200 : Int32) < nI a) = (200 < a)) ∧
  (∀ a : Nat, a < 2 ^ 31 → ((240 : Int32) < nI a) = (240 < a)) ∧
  (∀ a : Nat, a < 2 ^ 31 → ((255 : Int32) < nI a) = (255 < a)) ∧
  (∀ a : Nat, a < 2 ^ 31 → ((300 : Int32) < nI a) = (300 < a)) ∧
  (∀ a : Nat, a < 2 ^ 31 → ((999 : Int32) < nI a) = (999 < a)) ∧
  (∀ a : Nat, a < 2 ^ 31 → ((1000 : Int32) < nI a) = (1000 < a)) ∧
  (∀ a : Nat, a < 2 ^ 31 → ((3000 : Int32) < nI a) = (3000 < a)) :=
  ⟨fun _ h => propext (nI_ltI (a := 0) (by decide) h), fun _ h => propext (nI_ltI (a := 1) (by decide) h), fun _ h => propext (nI_ltI (a := 2) (by decide) h), fun _ h => propext (nI_ltI (a := 3) (by decide) h), fun _ h => propext (nI_ltI (a := 4) (by decide) h), fun _ h => propext (nI_ltI (a := 5) (by decide) h), fun _ h => propext (nI_ltI (a := 6) (by decide) h), fun _ h => propext (nI_ltI (a := 7) (by decide) h), fun _ h => propext (nI_ltI (a := 8) (by decide) h), fun _ h => propext (nI_ltI (a := 9) (by decide) h), fun _ h => propext (nI_ltI (a := 10) (by decide) h), fun _ h => propext (nI_ltI (a := 11) (by decide) h), fun _ h => propext (nI_ltI (a := 12) (by decide) h), fun _ h => propext (nI_ltI (a := 13) (by decide) h), fun _ h => propext (nI_ltI (a := 14) (by decide) h), fun _ h => propext (nI_ltI (a := 15) (by decide) h), fun _ h => propext (nI_ltI (a := 16) (by decide) h), fun _ h => propext (nI_ltI (a := 17) (by decide) h), fun _ h => propext (nI_ltI (a := 18) (by decide) h), fun _ h => propext (nI_ltI (a := 19) (by decide) h), fun _ h => propext (nI_ltI (a := 20) (by decide) h), fun _ h => propext (nI_ltI (a := 21) (by decide) h), fun _ h => propext (nI_ltI (a := 22) (by decide) h), fun _ h => propext (nI_ltI (a := 23) (by decide) h), fun _ h => propext (nI_ltI (a := 24) (by decide) h), fun _ h => propext (nI_ltI (a := 25) (by decide) h), fun _ h => propext (nI_ltI (a := 30) (by decide) h), fun _ h => propext (nI_ltI (a := 31) (by decide) h), fun _ h => propext (nI_ltI (a := 32) (by decide) h), fun _ h => propext (nI_ltI (a := 33) (by decide) h), fun _ h => propext (nI_ltI (a := 39) (by decide) h), fun _ h => propext (nI_ltI (a := 40) (by decide) h), fun _ h => propext (nI_ltI (a := 41) (by decide) h), fun _ h => propext (nI_ltI (a := 48) (by decide) h), fun _ h => propext (nI_ltI (a := 50) (by decide) h), fun _ h => propext (nI_ltI (a := 57) (by decide) h), fun _ h => propext (nI_ltI (a := 60) (by decide) h), fun _ h => propext (nI_ltI (a := 85) (by decide) h), fun _ h => propext (nI_ltI (a := 96) (by decide) h), fun _ h => propext (nI_ltI (a := 97) (by decide) h), fun _ h => propext (nI_ltI (a := 98) (by decide) h), fun _ h => propext (nI_ltI (a := 99) (by decide) h), fun _ h => propext (nI_ltI (a := 100) (by decide) h), fun _ h => propext (nI_ltI (a := 122) (by decide) h), fun _ h => propext (nI_ltI (a := 159) (by decide) h), fun _ h => propext (nI_ltI (a := 160) (by decide) h), fun _ h => propext (nI_ltI (a := 200) (by decide) h), fun _ h => propext (nI_ltI (a := 240) (by decide) h), fun _ h => propext (nI_ltI (a := 255) (by decide) h), fun _ h => propext (nI_ltI (a := 300) (by decide) h), fun _ h => propext (nI_ltI (a := 999) (by decide) h), fun _ h => propext (nI_ltI (a := 1000) (by decide) h), fun _ h => propext (nI_ltI (a := 3000) (by decide) h)⟩
theorem q_eq : (∀ a : Nat, a < 2 ^ 31 → (nI a = (0 : Int32)) = (a = 0)) ∧
  (∀ a : Nat, a < 2 ^ 31 → (nI a = (1 : Int32)) = (a = 1)) ∧
  (∀ a : Nat, a < 2 ^ 31 → (nI a = (2 : Int32)) = (a = 2)) ∧
  (∀ a : Nat, a < 2 ^ 31 → (nI a = (3 : Int32)) = (a = 3)) ∧
  (∀ a : Nat, a < 2 ^ 31 → (nI a = (4 : Int32)) = (a = 4)) ∧
  (∀ a : Nat, a < 2 ^ 31 → (nI a = (5 : Int32)) = (a = 5)) ∧
  (∀ a : Nat, a < 2 ^ 31 → (nI a = (6 : Int32)) = (a = 6)) ∧
  (∀ a : Nat, a < 2 ^ 31 → (nI a = (7 : Int32)) = (a = 7)) ∧
  (∀ a : Nat, a < 2 ^ 31 → (nI a = (8 : Int32)) = (a = 8)) ∧
  (∀ a : Nat, a < 2 ^ 31 → (nI a = (9 : Int32)) = (a = 9)) ∧
  (∀ a : Nat, a < 2 ^ 31 → (nI a = (10 : Int32)) = (a = 10)) ∧
  (∀ a : Nat, a < 2 ^ 31 → (nI a = (11 : Int32)) = (a = 11)) ∧
  (∀ a : Nat, a < 2 ^ 31 → (nI a = (12 : Int32)) = (a = 12)) ∧
  (∀ a : Nat, a < 2 ^ 31 → (nI a = (13 : Int32)) = (a = 13)) ∧
  (∀ a : Nat, a < 2 ^ 31 → (nI a = (14 : Int32)) = (a = 14)) ∧
  (∀ a : Nat, a < 2 ^ 31 → (nI a = (15 : Int32)) = (a = 15)) ∧
  (∀ a : Nat, a < 2 ^ 31 → (nI a = (16 : Int32)) = (a = 16)) ∧
  (∀ a : Nat, a < 2 ^ 31 → (nI a = (17 : Int32)) = (a = 17)) ∧
  (∀ a : Nat, a < 2 ^ 31 → (nI a = (18 : Int32)) = (a = 18)) ∧
  (∀ a : Nat, a < 2 ^ 31 → (nI a = (19 : Int32)) = (a = 19)) ∧
  (∀ a : Nat, a < 2 ^ 31 → (nI a = (20 : Int32)) = (a = 20)) ∧
  (∀ a : Nat, a < 2 ^ 31 → (nI a = (21 : Int32)) = (a = 21)) ∧
  (∀ a : Nat, a < 2 ^ 31 → (nI a = (22 : Int32)) = (a = 22)) ∧
  (∀ a : Nat, a < 2 ^ 31 → (nI a = (23 : Int32)) = (a = 23)) ∧
  (∀ a : Nat, a < 2 ^ 31 → (nI a = (24 : Int32)) = (a = 24)) ∧
  (∀ a : Nat, a < 2 ^ 31 → (nI a = (25 : Int32)) = (a = 25)) ∧
  (∀ a : Nat, a < 2 ^ 31 → (nI a = (30 : Int32)) = (a = 30)) ∧
  (∀ a : Nat, a < 2 ^ 31 → (nI a = (31 : Int32)) = (a = 31)) ∧
  (∀ a : Nat, a < 2 ^ 31 → (nI a = (32 : Int32)) = (a = 32)) ∧
  (∀ a : Nat, a < 2 ^ 31 → (nI a = (33 : Int32)) = (a = 33)) ∧
  (∀ a : Nat, a < 2 ^ 31 → (nI a = (39 : Int32)) = (a = 39)) ∧
  (∀ a : Nat, a < 2 ^ 31 → (nI a = (40 : Int32)) = (a = 40)) ∧
  (∀ a : Nat, a < 2 ^ 31 → (nI a = (41 : Int32)) = (a = 41)) ∧
  (∀ a : Nat, a < 2 ^ 31 → (nI a = (48 : Int32)) = (a = 48)) ∧
  (∀ a : Nat, a < 2 ^ 31 → (nI a = (50 : Int32)) = (a = 50)) ∧
  (∀ a : Nat, a < 2 ^ 31 → (nI a = (57 : Int32)) = (a = 57)) ∧
  (∀ a : Nat, a < 2 ^ 31 → (nI a = (60 : Int32)) = (a = 60)) ∧
  (∀ a : Nat, a < 2 ^ 31 → (nI a = (85 : Int32)) = (a = 85)) ∧
  (∀ a : Nat, a < 2 ^ 31 → (nI a = (96 : Int32)) = (a = 96)) ∧
  (∀ a : Nat, a < 2 ^ 31 → (nI a = (97 : Int32)) = (a = 97)) ∧
  (∀ a : Nat, a < 2 ^ 31 → (nI a = (98 : Int32)) = (a = 98)) ∧
  (∀ a : Nat, a < 2 ^ 31 → (nI a = (99 : Int32)) = (a = 99)) ∧
  (∀ a : Nat, a < 2 ^ 31 → (nI a = (100 : Int32)) = (a = 100)) ∧
  (∀ a : Nat, a < 2 ^ 31 → (nI a = (122 : Int32)) = (a = 122)) ∧
  (∀ a : Nat, a < 2 ^ 31 → (nI a = (159 : Int32)) = (a = 159)) ∧
  (∀ a : Nat, a < 2 ^ 31 → (nI a = (160 : Int32)) = (a = 160)) ∧
  (∀ a : Nat, a < 2 ^ 31 → (nI a = (200 : Int32)) = (a = 200)) ∧
  (∀ a : Nat, a < 2 ^ 31 → (nI a = (240 : Int32)) = (a = 240)) ∧
  (∀ a : Nat, a < 2 ^ 31 → (nI a = (255 : Int32)) = (a = 255)) ∧
  (∀ a : Nat, a < 2 ^ 31 → (nI a = (300 : Int32)) = (a = 300)) ∧
  (∀ a : Nat, a < 2 ^ 31 → (nI a = (999 : Int32)) = (a = 999)) ∧
  (∀ a : Nat, a < 2 ^ 31 → (nI a = (1000 : Int32)) = (a = 1000)) ∧
  (∀ a : Nat, a < 2 ^ 31 → (nI a = (3000 : Int32)) = (a = 3000)) :=
  ⟨fun _ h => propext (nI_eq (b := 0) h (by decide)), fun _ h => propext (nI_eq (b := 1) h (by decide)), fun _ h => propext (nI_eq (b := 2) h (by decide)), fun _ h => propext (nI_eq (b := 3) h (by decide)), fun _ h => propext (nI_eq (b := 4) h (by decide)), fun _ h => propext (nI_eq (b := 5) h (by decide)), fun _ h => propext (nI_eq (b := 6) h (by decide)), fun _ h => propext (nI_eq (b := 7) h (by decide)), fun _ h => propext (nI_eq (b := 8) h (by decide)), fun _ h => propext (nI_eq (b := 9) h (by decide)), fun _ h => propext (nI_eq (b := 10) h (by decide)), fun _ h => propext (nI_eq (b := 11) h (by decide)), fun _ h => propext (nI_eq (b := 12) h (by decide)), fun _ h => propext (nI_eq (b := 13) h (by decide)), fun _ h => propext (nI_eq (b := 14) h (by decide)), fun _ h => propext (nI_eq (b := 15) h (by decide)), fun _ h => propext (nI_eq (b := 16) h (by decide)), fun _ h => propext (nI_eq (b := 17) h (by decide)), fun _ h => propext (nI_eq (b := 18) h (by decide)), fun _ h => propext (nI_eq (b := 19) h (by decide)), fun _ h => propext (nI_eq (b := 20) h (by decide)), fun _ h => propext (nI_eq (b := 21) h (by decide)), fun _ h => propext (nI_eq (b := 22) h (by decide)), fun _ h => propext (nI_eq (b := 23) h (by decide)), fun _ h => propext (nI_eq (b := 24) h (by decide)), fun _ h => propext (nI_eq (b := 25) h (by decide)), fun _ h => propext (nI_eq (b := 30) h (by decide)), fun _ h => propext (nI_eq (b := 31) h (by decide)), fun _ h => propext (nI_eq (b := 32) h (by decide)), fun _ h => propext (nI_eq (b := 33) h (by decide)), fun _ h => propext (nI_eq (b := 39) h (by decide)), fun _ h => propext (nI_eq (b := 40) h (by decide)), fun _ h => propext (nI_eq (b := 41) h (by decide)), fun _ h => propext (nI_eq (b := 48) h (by decide)), fun _ h => propext (nI_eq (b := 50) h (by decide)), fun _ h => propext (nI_eq (b := 57) h (by decide)), fun _ h => propext (nI_eq (b := 60) h (by decide)), fun _ h => propext (nI_eq (b := 85) h (by decide)), fun _ h => propext (nI_eq (b := 96) h (by decide)), fun _ h => propext (nI_eq (b := 97) h (by decide)), fun _ h => propext (nI_eq (b := 98) h (by decide)), fun _ h => propext (nI_eq (b := 99) h (by decide)), fun _ h => propext (nI_eq (b := 100) h (by decide)), fun _ h => propext (nI_eq (b := 122) h (by decide)), fun _ h => propext (nI_eq (b := 159) h (by decide)), fun _ h => propext (nI_eq (b := 160) h (by decide)), fun _ h => propext (nI_eq (b := 200) h (by decide)), fun _ h => propext (nI_eq (b := 240) h (by decide)), fun _ h => propext (nI_eq (b := 255) h (by decide)), fun _ h => propext (nI_eq (b := 300) h (by decide)), fun _ h => propext (nI_eq (b := 999) h (by decide)), fun _ h => propext (nI_eq (b := 1000) h (by decide)), fun _ h => propext (nI_eq (b := 3000) h (by decide))⟩
theorem q_add : (∀ a : Nat, nI a + (1 : Int32) = nI (a + 1)) ∧
  (∀ a : Nat, nI a + (2 : Int32) = nI (a + 2)) ∧
  (∀ a : Nat, nI a + (3 : Int32) = nI (a + 3)) ∧
  (∀ a : Nat, nI a + (4 : Int32) = nI (a + 4)) ∧
  (∀ a : Nat, nI a + (5 : Int32) = nI (a + 5)) ∧
  (∀ a : Nat, nI a + (6 : Int32) = nI (a + 6)) ∧
  (∀ a : Nat, nI a + (7 : Int32) = nI (a + 7)) ∧
  (∀ a : Nat, nI a + (8 : Int32) = nI (a + 8)) ∧
  (∀ a : Nat, nI a + (9 : Int32) = nI (a + 9)) ∧
  (∀ a : Nat, nI a + (10 : Int32) = nI (a + 10)) ∧
  (∀ a : Nat, nI a + (11 : Int32) = nI (a + 11)) ∧
  (∀ a : Nat, nI a + (12 : Int32) = nI (a + 12)) ∧
  (∀ a : Nat, nI a + (13 : Int32) = nI (a + 13)) ∧
  (∀ a : Nat, nI a + (14 : Int32) = nI (a + 14)) ∧
  (∀ a : Nat, nI a + (15 : Int32) = nI (a + 15)) ∧
  (∀ a : Nat, nI a + (16 : Int32) = nI (a + 16)) ∧
  (∀ a : Nat, nI a + (17 : Int32) = nI (a + 17)) ∧
  (∀ a : Nat, nI a + (18 : Int32) = nI (a + 18)) ∧
  (∀ a : Nat, nI a + (19 : Int32) = nI (a + 19)) ∧
  (∀ a : Nat, nI a + (20 : Int32) = nI (a + 20)) ∧
  (∀ a : Nat, nI a + (21 : Int32) = nI (a + 21)) ∧
  (∀ a : Nat, nI a + (22 : Int32) = nI (a + 22)) ∧
  (∀ a : Nat, nI a + (23 : Int32) = nI (a + 23)) ∧
  (∀ a : Nat, nI a + (24 : Int32) = nI (a + 24)) ∧
  (∀ a : Nat, nI a + (25 : Int32) = nI (a + 25)) ∧
  (∀ a : Nat, nI a + (30 : Int32) = nI (a + 30)) ∧
  (∀ a : Nat, nI a + (31 : Int32) = nI (a + 31)) ∧
  (∀ a : Nat, nI a + (32 : Int32) = nI (a + 32)) ∧
  (∀ a : Nat, nI a + (33 : Int32) = nI (a + 33)) ∧
  (∀ a : Nat, nI a + (39 : Int32) = nI (a + 39)) ∧
  (∀ a : Nat, nI a + (40 : Int32) = nI (a + 40)) ∧
  (∀ a : Nat, nI a + (41 : Int32) = nI (a + 41)) ∧
  (∀ a : Nat, nI a + (48 : Int32) = nI (a + 48)) ∧
  (∀ a : Nat, nI a + (50 : Int32) = nI (a + 50)) ∧
  (∀ a : Nat, nI a + (57 : Int32) = nI (a + 57)) ∧
  (∀ a : Nat, nI a + (60 : Int32) = nI (a + 60)) ∧
  (∀ a : Nat, nI a + (85 : Int32) = nI (a + 85)) ∧
  (∀ a : Nat, nI a + (96 : Int32) = nI (a + 96)) ∧
  (∀ a : Nat, nI a + (97 : Int32) = nI (a + 97)) ∧
  (∀ a : Nat, nI a + (98 : Int32) = nI (a + 98)) ∧
  (∀ a : Nat, nI a + (99 : Int32) = nI (a + 99)) ∧
  (∀ a : Nat, nI a + (100 : Int32) = nI (a + 100)) ∧
  (∀ a : Nat, nI a + (122 : Int32) = nI (a + 122)) ∧
  (∀ a : Nat, nI a + (159 : Int32) = nI (a + 159)) ∧
  (∀ a : Nat, nI a + (160 : Int32) = nI (a + 160)) ∧
  (∀ a : Nat, nI a + (200 : Int32) = nI (a + 200)) ∧
  (∀ a : Nat, nI a + (240 : Int32) = nI (a + 240)) ∧
  (∀ a : Nat, nI a + (255 : Int32) = nI (a + 255)) ∧
  (∀ a : Nat, nI a + (300 : Int32) = nI (a + 300)) ∧
  (∀ a : Nat, nI a + (999 : Int32) = nI (a + 999)) ∧
  (∀ a : Nat, nI a + (1000 : Int32) = nI (a + 1000)) ∧
  (∀ a : Nat, nI a + (3000 : Int32) = nI (a + 3000)) :=
  ⟨fun a => nI_add a 1, fun a => nI_add a 2, fun a => nI_add a 3, fun a => nI_add a 4, fun a => nI_add a 5, fun a => nI_add a 6, fun a => nI_add a 7, fun a => nI_add a 8, fun a => nI_add a 9, fun a => nI_add a 10, fun a => nI_add a 11, fun a => nI_add a 12, fun a => nI_add a 13, fun a => nI_add a 14, fun a => nI_add a 15, fun a => nI_add a 16, fun a => nI_add a 17, fun a => nI_add a 18, fun a => nI_add a 19, fun a => nI_add a 20, fun a => nI_add a 21, fun a => nI_add a 22, fun a => nI_add a 23, fun a => nI_add a 24, fun a => nI_add a 25, fun a => nI_add a 30, fun a => nI_add a 31, fun a => nI_add a 32, fun a => nI_add a 33, fun a => nI_add a 39, fun a => nI_add a 40, fun a => nI_add a 41, fun a => nI_add a 48, fun a => nI_add a 50, fun a => nI_add a 57, fun a => nI_add a 60, fun a => nI_add a 85, fun a => nI_add a 96, fun a => nI_add a 97, fun a => nI_add a 98, fun a => nI_add a 99, fun a => nI_add a 100, fun a => nI_add a 122, fun a => nI_add a 159, fun a => nI_add a 160, fun a => nI_add a 200, fun a => nI_add a 240, fun a => nI_add a 255, fun a => nI_add a 300, fun a => nI_add a 999, fun a => nI_add a 1000, fun a => nI_add a 3000⟩
theorem q_sub : (∀ a : Nat, 1 ≤ a → nI a - (1 : Int32) = nI (a - 1)) ∧
  (∀ a : Nat, 2 ≤ a → nI a - (2 : Int32) = nI (a - 2)) ∧
  (∀ a : Nat, 3 ≤ a → nI a - (3 : Int32) = nI (a - 3)) ∧
  (∀ a : Nat, 4 ≤ a → nI a - (4 : Int32) = nI (a - 4)) ∧
  (∀ a : Nat, 5 ≤ a → nI a - (5 : Int32) = nI (a - 5)) ∧
  (∀ a : Nat, 6 ≤ a → nI a - (6 : Int32) = nI (a - 6)) ∧
  (∀ a : Nat, 7 ≤ a → nI a - (7 : Int32) = nI (a - 7)) ∧
  (∀ a : Nat, 8 ≤ a → nI a - (8 : Int32) = nI (a - 8)) ∧
  (∀ a : Nat, 9 ≤ a → nI a - (9 : Int32) = nI (a - 9)) ∧
  (∀ a : Nat, 10 ≤ a → nI a - (10 : Int32) = nI (a - 10)) ∧
  (∀ a : Nat, 11 ≤ a → nI a - (11 : Int32) = nI (a - 11)) ∧
  (∀ a : Nat, 12 ≤ a → nI a - (12 : Int32) = nI (a - 12)) ∧
  (∀ a : Nat, 13 ≤ a → nI a - (13 : Int32) = nI (a - 13)) ∧
  (∀ a : Nat, 14 ≤ a → nI a - (14 : Int32) = nI (a - 14)) ∧
  (∀ a : Nat, 15 ≤ a → nI a - (15 : Int32) = nI (a - 15)) ∧
  (∀ a : Nat, 16 ≤ a → nI a - (16 : Int32) = nI (a - 16)) ∧
  (∀ a : Nat, 17 ≤ a → nI a - (17 : Int32) = nI (a - 17)) ∧
  (∀ a : Nat, 18 ≤ a → nI a - (18 : Int32) = nI (a - 18)) ∧
  (∀ a : Nat, 19 ≤ a → nI a - (19 : Int32) = nI (a - 19)) ∧
  (∀ a : Nat, 20 ≤ a → nI a - (20 : Int32) = nI (a - 20)) ∧
  (∀ a : Nat, 21 ≤ a → nI a - (21 : Int32) = nI (a - 21)) ∧
  (∀ a : Nat, 22 ≤ a → nI a - (22 : Int32) = nI (a - 22)) ∧
  (∀ a : Nat, 23 ≤ a → nI a - (23 : Int32) = nI (a - 23)) ∧
  (∀ a : Nat, 24 ≤ a → nI a - (24 : Int32) = nI (a - 24)) ∧
  (∀ a : Nat, 25 ≤ a → nI a - (25 : Int32) = nI (a - 25)) ∧
  (∀ a : Nat, 30 ≤ a → nI a - (30 : Int32) = nI (a - 30)) ∧
  (∀ a : Nat, 31 ≤ a → nI a - (31 : Int32) = nI (a - 31)) ∧
  (∀ a : Nat, 32 ≤ a → nI a - (32 : Int32) = nI (a - 32)) ∧
  (∀ a : Nat, 33 ≤ a → nI a - (33 : Int32) = nI (a - 33)) ∧
  (∀ a : Nat, 39 ≤ a → nI a - (39 : Int32) = nI (a - 39)) ∧
  (∀ a : Nat, 40 ≤ a → nI a - (40 : Int32) = nI (a - 40)) ∧
  (∀ a : Nat, 41 ≤ a → nI a - (41 : Int32) = nI (a - 41)) ∧
  (∀ a : Nat, 48 ≤ a → nI a - (48 : Int32) = nI (a - 48)) ∧
  (∀ a : Nat, 50 ≤ a → nI a - (50 : Int32) = nI (a - 50)) ∧
  (∀ a : Nat, 57 ≤ a → nI a - (57 : Int32) = nI (a - 57)) ∧
  (∀ a : Nat, 60 ≤ a → nI a - (60 : Int32) = nI (a - 60)) ∧
  (∀ a : Nat, 85 ≤ a → nI a - (85 : Int32) = nI (a - 85)) ∧
  (∀ a : Nat, 96 ≤ a → nI a - (96 : Int32) = nI (a - 96)) ∧
  (∀ a : Nat, 97 ≤ a → nI a - (97 : Int32) = nI (a - 97)) ∧
  (∀ a : Nat, 98 ≤ a → nI a - (98 : Int32) = nI (a - 98)) ∧
  (∀ a : Nat, 99 ≤ a → nI a - (99 : Int32) = nI (a - 99)) ∧
  (∀ a : Nat, 100 ≤ a → nI a - (100 : Int32) = nI (a - 100)) ∧
  (∀ a : Nat, 122 ≤ a → nI a - (122 : Int32) = nI (a - 122)) ∧
  (∀ a : Nat, 159 ≤ a → nI a - (159 : Int32) = nI (a - 159)) ∧
  (∀ a : Nat, 160 ≤ a → nI a - (160 : Int32) = nI (a - 160)) ∧
  (∀ a : Nat, 200 ≤ a → nI a - (200 : Int32) = nI (a - 200)) ∧
  (∀ a : Nat, 240 ≤ a → nI a - (240 : Int32) = nI (a - 240)) ∧
  (∀ a : Nat, 255 ≤ a → nI a - (255 : Int32) = nI (a - 255)) ∧
  (∀ a : Nat, 300 ≤ a → nI a - (300 : Int32) = nI (a - 300)) ∧
  (∀ a : Nat, 999 ≤ a → nI a - (999 : Int32) = nI (a - 999)) ∧
  (∀ a : Nat, 1000 ≤ a → nI a - (1000 : Int32) = nI (a - 1000)) ∧
  (∀ a : Nat, 3000 ≤ a → nI a - (3000 : Int32) = nI (a - 3000)) :=
  ⟨fun _ h => pk_sub (b := 1) h, fun _ h => pk_sub (b := 2) h, fun _ h => pk_sub (b := 3) h, fun _ h => pk_sub (b := 4) h, fun _ h => pk_sub (b := 5) h, fun _ h => pk_sub (b := 6) h, fun _ h => pk_sub (b := 7) h, fun _ h => pk_sub (b := 8) h, fun _ h => pk_sub (b := 9) h, fun _ h => pk_sub (b := 10) h, fun _ h => pk_sub (b := 11) h, fun _ h => pk_sub (b := 12) h, fun _ h => pk_sub (b := 13) h, fun _ h => pk_sub (b := 14) h, fun _ h => pk_sub (b := 15) h, fun _ h => pk_sub (b := 16) h, fun _ h => pk_sub (b := 17) h, fun _ h => pk_sub (b := 18) h, fun _ h => pk_sub (b := 19) h, fun _ h => pk_sub (b := 20) h, fun _ h => pk_sub (b := 21) h, fun _ h => pk_sub (b := 22) h, fun _ h => pk_sub (b := 23) h, fun _ h => pk_sub (b := 24) h, fun _ h => pk_sub (b := 25) h, fun _ h => pk_sub (b := 30) h, fun _ h => pk_sub (b := 31) h, fun _ h => pk_sub (b := 32) h, fun _ h => pk_sub (b := 33) h, fun _ h => pk_sub (b := 39) h, fun _ h => pk_sub (b := 40) h, fun _ h => pk_sub (b := 41) h, fun _ h => pk_sub (b := 48) h, fun _ h => pk_sub (b := 50) h, fun _ h => pk_sub (b := 57) h, fun _ h => pk_sub (b := 60) h, fun _ h => pk_sub (b := 85) h, fun _ h => pk_sub (b := 96) h, fun _ h => pk_sub (b := 97) h, fun _ h => pk_sub (b := 98) h, fun _ h => pk_sub (b := 99) h, fun _ h => pk_sub (b := 100) h, fun _ h => pk_sub (b := 122) h, fun _ h => pk_sub (b := 159) h, fun _ h => pk_sub (b := 160) h, fun _ h => pk_sub (b := 200) h, fun _ h => pk_sub (b := 240) h, fun _ h => pk_sub (b := 255) h, fun _ h => pk_sub (b := 300) h, fun _ h => pk_sub (b := 999) h, fun _ h => pk_sub (b := 1000) h, fun _ h => pk_sub (b := 3000) h⟩
theorem q_mul : (∀ a : Nat, (1 : Int32) * nI a = nI (1 * a)) ∧
  (∀ a : Nat, (2 : Int32) * nI a = nI (2 * a)) ∧
  (∀ a : Nat, (3 : Int32) * nI a = nI (3 * a)) ∧
  (∀ a : Nat, (4 : Int32) * nI a = nI (4 * a)) ∧
  (∀ a : Nat, (5 : Int32) * nI a = nI (5 * a)) ∧
  (∀ a : Nat, (6 : Int32) * nI a = nI (6 * a)) ∧
  (∀ a : Nat, (7 : Int32) * nI a = nI (7 * a)) ∧
  (∀ a : Nat, (8 : Int32) * nI a = nI (8 * a)) ∧
  (∀ a : Nat, (9 : Int32) * nI a = nI (9 * a)) ∧
  (∀ a : Nat, (10 : Int32) * nI a = nI (10 * a)) ∧
  (∀ a : Nat, (11 : Int32) * nI a = nI (11 * a)) ∧
  (∀ a : Nat, (12 : Int32) * nI a = nI (12 * a)) ∧
  (∀ a : Nat, (13 : Int32) * nI a = nI (13 * a)) ∧
  (∀ a : Nat, (14 : Int32) * nI a = nI (14 * a)) ∧
  (∀ a : Nat, (15 : Int32) * nI a = nI (15 * a)) ∧
  (∀ a : Nat, (16 : Int32) * nI a = nI (16 * a)) ∧
  (∀ a : Nat, (17 : Int32) * nI a = nI (17 * a)) ∧
  (∀ a : Nat, (18 : Int32) * nI a = nI (18 * a)) ∧
  (∀ a : Nat, (19 : Int32) * nI a = nI (19 * a)) ∧
  (∀ a : Nat, (20 : Int32) * nI a = nI (20 * a)) ∧
  (∀ a : Nat, (21 : Int32) * nI a = nI (21 * a)) ∧
  (∀ a : Nat, (22 : Int32) * nI a = nI (22 * a)) ∧
  (∀ a : Nat, (23 : Int32) * nI a = nI (23 * a)) ∧
  (∀ a : Nat, (24 : Int32) * nI a = nI (24 * a)) ∧
  (∀ a : Nat, (25 : Int32) * nI a = nI (25 * a)) ∧
  (∀ a : Nat, (30 : Int32) * nI a = nI (30 * a)) ∧
  (∀ a : Nat, (31 : Int32) * nI a = nI (31 * a)) ∧
  (∀ a : Nat, (32 : Int32) * nI a = nI (32 * a)) ∧
  (∀ a : Nat, (33 : Int32) * nI a = nI (33 * a)) ∧
  (∀ a : Nat, (39 : Int32) * nI a = nI (39 * a)) ∧
  (∀ a : Nat, (40 : Int32) * nI a = nI (40 * a)) ∧
  (∀ a : Nat, (41 : Int32) * nI a = nI (41 * a)) ∧
  (∀ a : Nat, (48 : Int32) * nI a = nI (48 * a)) ∧
  (∀ a : Nat, (50 : Int32) * nI a = nI (50 * a)) ∧
  (∀ a : Nat, (57 : Int32) * nI a = nI (57 * a)) ∧
  (∀ a : Nat, (60 : Int32) * nI a = nI (60 * a)) ∧
  (∀ a : Nat, (85 : Int32) * nI a = nI (85 * a)) ∧
  (∀ a : Nat, (96 : Int32) * nI a = nI (96 * a)) ∧
  (∀ a : Nat, (97 : Int32) * nI a = nI (97 * a)) ∧
  (∀ a : Nat, (98 : Int32) * nI a = nI (98 * a)) ∧
  (∀ a : Nat, (99 : Int32) * nI a = nI (99 * a)) ∧
  (∀ a : Nat, (100 : Int32) * nI a = nI (100 * a)) ∧
  (∀ a : Nat, (122 : Int32) * nI a = nI (122 * a)) ∧
  (∀ a : Nat, (159 : Int32) * nI a = nI (159 * a)) ∧
  (∀ a : Nat, (160 : Int32) * nI a = nI (160 * a)) ∧
  (∀ a : Nat, (200 : Int32) * nI a = nI (200 * a)) ∧
  (∀ a : Nat, (240 : Int32) * nI a = nI (240 * a)) ∧
  (∀ a : Nat, (255 : Int32) * nI a = nI (255 * a)) ∧
  (∀ a : Nat, (300 : Int32) * nI a = nI (300 * a)) ∧
  (∀ a : Nat, (999 : Int32) * nI a = nI (999 * a)) ∧
  (∀ a : Nat, (1000 : Int32) * nI a = nI (1000 * a)) ∧
  (∀ a : Nat, (3000 : Int32) * nI a = nI (3000 * a)) :=
  ⟨fun a => pk_mul 1 a, fun a => pk_mul 2 a, fun a => pk_mul 3 a, fun a => pk_mul 4 a, fun a => pk_mul 5 a, fun a => pk_mul 6 a, fun a => pk_mul 7 a, fun a => pk_mul 8 a, fun a => pk_mul 9 a, fun a => pk_mul 10 a, fun a => pk_mul 11 a, fun a => pk_mul 12 a, fun a => pk_mul 13 a, fun a => pk_mul 14 a, fun a => pk_mul 15 a, fun a => pk_mul 16 a, fun a => pk_mul 17 a, fun a => pk_mul 18 a, fun a => pk_mul 19 a, fun a => pk_mul 20 a, fun a => pk_mul 21 a, fun a => pk_mul 22 a, fun a => pk_mul 23 a, fun a => pk_mul 24 a, fun a => pk_mul 25 a, fun a => pk_mul 30 a, fun a => pk_mul 31 a, fun a => pk_mul 32 a, fun a => pk_mul 33 a, fun a => pk_mul 39 a, fun a => pk_mul 40 a, fun a => pk_mul 41 a, fun a => pk_mul 48 a, fun a => pk_mul 50 a, fun a => pk_mul 57 a, fun a => pk_mul 60 a, fun a => pk_mul 85 a, fun a => pk_mul 96 a, fun a => pk_mul 97 a, fun a => pk_mul 98 a, fun a => pk_mul 99 a, fun a => pk_mul 100 a, fun a => pk_mul 122 a, fun a => pk_mul 159 a, fun a => pk_mul 160 a, fun a => pk_mul 200 a, fun a => pk_mul 240 a, fun a => pk_mul 255 a, fun a => pk_mul 300 a, fun a => pk_mul 999 a, fun a => pk_mul 1000 a, fun a => pk_mul 3000 a⟩
theorem q_mulr : (∀ a : Nat, nI a * (1 : Int32) = nI (a * 1)) ∧
  (∀ a : Nat, nI a * (2 : Int32) = nI (a * 2)) ∧
  (∀ a : Nat, nI a * (3 : Int32) = nI (a * 3)) ∧
  (∀ a : Nat, nI a * (4 : Int32) = nI (a * 4)) ∧
  (∀ a : Nat, nI a * (5 : Int32) = nI (a * 5)) ∧
  (∀ a : Nat, nI a * (6 : Int32) = nI (a * 6)) ∧
  (∀ a : Nat, nI a * (7 : Int32) = nI (a * 7)) ∧
  (∀ a : Nat, nI a * (8 : Int32) = nI (a * 8)) ∧
  (∀ a : Nat, nI a * (9 : Int32) = nI (a * 9)) ∧
  (∀ a : Nat, nI a * (10 : Int32) = nI (a * 10)) ∧
  (∀ a : Nat, nI a * (11 : Int32) = nI (a * 11)) ∧
  (∀ a : Nat, nI a * (12 : Int32) = nI (a * 12)) ∧
  (∀ a : Nat, nI a * (13 : Int32) = nI (a * 13)) ∧
  (∀ a : Nat, nI a * (14 : Int32) = nI (a * 14)) ∧
  (∀ a : Nat, nI a * (15 : Int32) = nI (a * 15)) ∧
  (∀ a : Nat, nI a * (16 : Int32) = nI (a * 16)) ∧
  (∀ a : Nat, nI a * (17 : Int32) = nI (a * 17)) ∧
  (∀ a : Nat, nI a * (18 : Int32) = nI (a * 18)) ∧
  (∀ a : Nat, nI a * (19 : Int32) = nI (a * 19)) ∧
  (∀ a : Nat, nI a * (20 : Int32) = nI (a * 20)) ∧
  (∀ a : Nat, nI a * (21 : Int32) = nI (a * 21)) ∧
  (∀ a : Nat, nI a * (22 : Int32) = nI (a * 22)) ∧
  (∀ a : Nat, nI a * (23 : Int32) = nI (a * 23)) ∧
  (∀ a : Nat, nI a * (24 : Int32) = nI (a * 24)) ∧
  (∀ a : Nat, nI a * (25 : Int32) = nI (a * 25)) ∧
  (∀ a : Nat, nI a * (30 : Int32) = nI (a * 30)) ∧
  (∀ a : Nat, nI a * (31 : Int32) = nI (a * 31)) ∧
  (∀ a : Nat, nI a * (32 : Int32) = nI (a * 32)) ∧
  (∀ a : Nat, nI a * (33 : Int32) = nI (a * 33)) ∧
  (∀ a : Nat, nI a * (39 : Int32) = nI (a * 39)) ∧
  (∀ a : Nat, nI a * (40 : Int32) = nI (a * 40)) ∧
  (∀ a : Nat, nI a * (41 : Int32) = nI (a * 41)) ∧
  (∀ a : Nat, nI a * (48 : Int32) = nI (a * 48)) ∧
  (∀ a : Nat, nI a * (50 : Int32) = nI (a * 50)) ∧
  (∀ a : Nat, nI a * (57 : Int32) = nI (a * 57)) ∧
  (∀ a : Nat, nI a * (60 : Int32) = nI (a * 60)) ∧
  (∀ a : Nat, nI a * (85 : Int32) = nI (a * 85)) ∧
  (∀ a : Nat, nI a * (96 : Int32) = nI (a * 96)) ∧
  (∀ a : Nat, nI a * (97 : Int32) = nI (a * 97)) ∧
  (∀ a : Nat, nI a * (98 : Int32) = nI (a * 98)) ∧
  (∀ a : Nat, nI a * (99 : Int32) = nI (a * 99)) ∧
  (∀ a : Nat, nI a * (100 : Int32) = nI (a * 100)) ∧
  (∀ a : Nat, nI a * (122 : Int32) = nI (a * 122)) ∧
  (∀ a : Nat, nI a * (159 : Int32) = nI (a * 159)) ∧
  (∀ a : Nat, nI a * (160 : Int32) = nI (a * 160)) ∧
  (∀ a : Nat, nI a * (200 : Int32) = nI (a * 200)) ∧
  (∀ a : Nat, nI a * (240 : Int32) = nI (a * 240)) ∧
  (∀ a : Nat, nI a * (255 : Int32) = nI (a * 255)) ∧
  (∀ a : Nat, nI a * (300 : Int32) = nI (a * 300)) ∧
  (∀ a : Nat, nI a * (999 : Int32) = nI (a * 999)) ∧
  (∀ a : Nat, nI a * (1000 : Int32) = nI (a * 1000)) ∧
  (∀ a : Nat, nI a * (3000 : Int32) = nI (a * 3000)) :=
  ⟨fun a => pk_mul a 1, fun a => pk_mul a 2, fun a => pk_mul a 3, fun a => pk_mul a 4, fun a => pk_mul a 5, fun a => pk_mul a 6, fun a => pk_mul a 7, fun a => pk_mul a 8, fun a => pk_mul a 9, fun a => pk_mul a 10, fun a => pk_mul a 11, fun a => pk_mul a 12, fun a => pk_mul a 13, fun a => pk_mul a 14, fun a => pk_mul a 15, fun a => pk_mul a 16, fun a => pk_mul a 17, fun a => pk_mul a 18, fun a => pk_mul a 19, fun a => pk_mul a 20, fun a => pk_mul a 21, fun a => pk_mul a 22, fun a => pk_mul a 23, fun a => pk_mul a 24, fun a => pk_mul a 25, fun a => pk_mul a 30, fun a => pk_mul a 31, fun a => pk_mul a 32, fun a => pk_mul a 33, fun a => pk_mul a 39, fun a => pk_mul a 40, fun a => pk_mul a 41, fun a => pk_mul a 48, fun a => pk_mul a 50, fun a => pk_mul a 57, fun a => pk_mul a 60, fun a => pk_mul a 85, fun a => pk_mul a 96, fun a => pk_mul a 97, fun a => pk_mul a 98, fun a => pk_mul a 99, fun a => pk_mul a 100, fun a => pk_mul a 122, fun a => pk_mul a 159, fun a => pk_mul a 160, fun a => pk_mul a 200, fun a => pk_mul a 240, fun a => pk_mul a 255, fun a => pk_mul a 300, fun a => pk_mul a 999, fun a => pk_mul a 1000, fun a => pk_mul a 3000⟩
theorem q_div : (∀ a : Nat, a < 2 ^ 31 → nI a / (1 : Int32) = nI (a / 1)) ∧
  (∀ a : Nat, a < 2 ^ 31 → nI a / (2 : Int32) = nI (a / 2)) ∧
  (∀ a : Nat, a < 2 ^ 31 → nI a / (3 : Int32) = nI (a / 3)) ∧
  (∀ a : Nat, a < 2 ^ 31 → nI a / (4 : Int32) = nI (a / 4)) ∧
  (∀ a : Nat, a < 2 ^ 31 → nI a / (5 : Int32) = nI (a / 5)) ∧
  (∀ a : Nat, a < 2 ^ 31 → nI a / (6 : Int32) = nI (a / 6)) ∧
  (∀ a : Nat, a < 2 ^ 31 → nI a / (7 : Int32) = nI (a / 7)) ∧
  (∀ a : Nat, a < 2 ^ 31 → nI a / (8 : Int32) = nI (a / 8)) ∧
  (∀ a : Nat, a < 2 ^ 31 → nI a / (9 : Int32) = nI (a / 9)) ∧
  (∀ a : Nat, a < 2 ^ 31 → nI a / (10 : Int32) = nI (a / 10)) ∧
  (∀ a : Nat, a < 2 ^ 31 → nI a / (11 : Int32) = nI (a / 11)) ∧
  (∀ a : Nat, a < 2 ^ 31 → nI a / (12 : Int32) = nI (a / 12)) ∧
  (∀ a : Nat, a < 2 ^ 31 → nI a / (13 : Int32) = nI (a / 13)) ∧
  (∀ a : Nat, a < 2 ^ 31 → nI a / (14 : Int32) = nI (a / 14)) ∧
  (∀ a : Nat, a < 2 ^ 31 → nI a / (15 : Int32) = nI (a / 15)) ∧
  (∀ a : Nat, a < 2 ^ 31 → nI a / (16 : Int32) = nI (a / 16)) ∧
  (∀ a : Nat, a < 2 ^ 31 → nI a / (17 : Int32) = nI (a / 17)) ∧
  (∀ a : Nat, a < 2 ^ 31 → nI a / (18 : Int32) = nI (a / 18)) ∧
  (∀ a : Nat, a < 2 ^ 31 → nI a / (19 : Int32) = nI (a / 19)) ∧
  (∀ a : Nat, a < 2 ^ 31 → nI a / (20 : Int32) = nI (a / 20)) ∧
  (∀ a : Nat, a < 2 ^ 31 → nI a / (21 : Int32) = nI (a / 21)) ∧
  (∀ a : Nat, a < 2 ^ 31 → nI a / (22 : Int32) = nI (a / 22)) ∧
  (∀ a : Nat, a < 2 ^ 31 → nI a / (23 : Int32) = nI (a / 23)) ∧
  (∀ a : Nat, a < 2 ^ 31 → nI a / (24 : Int32) = nI (a / 24)) ∧
  (∀ a : Nat, a < 2 ^ 31 → nI a / (25 : Int32) = nI (a / 25)) ∧
  (∀ a : Nat, a < 2 ^ 31 → nI a / (30 : Int32) = nI (a / 30)) ∧
  (∀ a : Nat, a < 2 ^ 31 → nI a / (31 : Int32) = nI (a / 31)) ∧
  (∀ a : Nat, a < 2 ^ 31 → nI a / (32 : Int32) = nI (a / 32)) ∧
  (∀ a : Nat, a < 2 ^ 31 → nI a / (33 : Int32) = nI (a / 33)) ∧
  (∀ a : Nat, a < 2 ^ 31 → nI a / (39 : Int32) = nI (a / 39)) ∧
  (∀ a : Nat, a < 2 ^ 31 → nI a / (40 : Int32) = nI (a / 40)) ∧
  (∀ a : Nat, a < 2 ^ 31 → nI a / (41 : Int32) = nI (a / 41)) ∧
  (∀ a : Nat, a < 2 ^ 31 → nI a / (48 : Int32) = nI (a / 48)) ∧
  (∀ a : Nat, a < 2 ^ 31 → nI a / (50 : Int32) = nI (a / 50)) ∧
  (∀ a : Nat, a < 2 ^ 31 → nI a / (57 : Int32) = nI (a / 57)) ∧
  (∀ a : Nat, a < 2 ^ 31 → nI a / (60 : Int32) = nI (a / 60)) ∧
  (∀ a : Nat, a < 2 ^ 31 → nI a / (85 : Int32) = nI (a / 85)) ∧
  (∀ a : Nat, a < 2 ^ 31 → nI a / (96 : Int32) = nI (a / 96)) ∧
  (∀ a : Nat, a < 2 ^ 31 → nI a / (97 : Int32) = nI (a / 97)) ∧
  (∀ a : Nat, a < 2 ^ 31 → nI a / (98 : Int32) = nI (a / 98)) ∧
  (∀ a : Nat, a < 2 ^ 31 → nI a / (99 : Int32) = nI (a / 99)) ∧
  (∀ a : Nat, a < 2 ^ 31 → nI a / (100 : Int32) = nI (a / 100)) ∧
  (∀ a : Nat, a < 2 ^ 31 → nI a / (122 : Int32) = nI (a / 122)) ∧
  (∀ a : Nat, a < 2 ^ 31 → nI a / (159 : Int32) = nI (a / 159)) ∧
  (∀ a : Nat, a < 2 ^ 31 → nI a / (160 : Int32) = nI (a / 160)) ∧
  (∀ a : Nat, a < 2 ^ 31 → nI a / (200 : Int32) = nI (a / 200)) ∧
  (∀ a : Nat, a < 2 ^ 31 → nI a / (240 : Int32) = nI (a / 240)) ∧
  (∀ a : Nat, a < 2 ^ 31 → nI a / (255 : Int32) = nI (a / 255)) ∧
  (∀ a : Nat, a < 2 ^ 31 → nI a / (300 : Int32) = nI (a / 300)) ∧
  (∀ a : Nat, a < 2 ^ 31 → nI a / (999 : Int32) = nI (a / 999)) ∧
  (∀ a : Nat, a < 2 ^ 31 → nI a / (1000 : Int32) = nI (a / 1000)) ∧
  (∀ a : Nat, a < 2 ^ 31 → nI a / (3000 : Int32) = nI (a / 3000)) :=
  ⟨fun _ h => pk_div (d := 1) h (by decide) (by decide), fun _ h => pk_div (d := 2) h (by decide) (by decide), fun _ h => pk_div (d := 3) h (by decide) (by decide), fun _ h => pk_div (d := 4) h (by decide) (by decide), fun _ h => pk_div (d := 5) h (by decide) (by decide), fun _ h => pk_div (d := 6) h (by decide) (by decide), fun _ h => pk_div (d := 7) h (by decide) (by decide), fun _ h => pk_div (d := 8) h (by decide) (by decide), fun _ h => pk_div (d := 9) h (by decide) (by decide), fun _ h => pk_div (d := 10) h (by decide) (by decide), fun _ h => pk_div (d := 11) h (by decide) (by decide), fun _ h => pk_div (d := 12) h (by decide) (by decide), fun _ h => pk_div (d := 13) h (by decide) (by decide), fun _ h => pk_div (d := 14) h (by decide) (by decide), fun _ h => pk_div (d := 15) h (by decide) (by decide), fun _ h => pk_div (d := 16) h (by decide) (by decide), fun _ h => pk_div (d := 17) h (by decide) (by decide), fun _ h => pk_div (d := 18) h (by decide) (by decide), fun _ h => pk_div (d := 19) h (by decide) (by decide), fun _ h => pk_div (d := 20) h (by decide) (by decide), fun _ h => pk_div (d := 21) h (by decide) (by decide), fun _ h => pk_div (d := 22) h (by decide) (by decide), fun _ h => pk_div (d := 23) h (by decide) (by decide), fun _ h => pk_div (d := 24) h (by decide) (by decide), fun _ h => pk_div (d := 25) h (by decide) (by decide), fun _ h => pk_div (d := 30) h (by decide) (by decide), fun _ h => pk_div (d := 31) h (by decide) (by decide), fun _ h => pk_div (d := 32) h (by decide) (by decide), fun _ h => pk_div (d := 33) h (by decide) (by decide), fun _ h => pk_div (d := 39) h (by decide) (by decide), fun _ h => pk_div (d := 40) h (by decide) (by decide), fun _ h => pk_div (d := 41) h (by decide) (by decide), fun _ h => pk_div (d := 48) h (by decide) (by decide), fun _ h => pk_div (d := 50) h (by decide) (by decide), fun _ h => pk_div (d := 57) h (by decide) (by decide), fun _ h => pk_div (d := 60) h (by decide) (by decide), fun _ h => pk_div (d := 85) h (by decide) (by decide), fun _ h => pk_div (d := 96) h (by decide) (by decide), fun _ h => pk_div (d := 97) h (by decide) (by decide), fun _ h => pk_div (d := 98) h (by decide) (by decide), fun _ h => pk_div (d := 99) h (by decide) (by decide), fun _ h => pk_div (d := 100) h (by decide) (by decide), fun _ h => pk_div (d := 122) h (by decide) (by decide), fun _ h => pk_div (d := 159) h (by decide) (by decide), fun _ h => pk_div (d := 160) h (by decide) (by decide), fun _ h => pk_div (d := 200) h (by decide) (by decide), fun _ h => pk_div (d := 240) h (by decide) (by decide), fun _ h => pk_div (d := 255) h (by decide) (by decide), fun _ h => pk_div (d := 300) h (by decide) (by decide), fun _ h => pk_div (d := 999) h (by decide) (by decide), fun _ h => pk_div (d := 1000) h (by decide) (by decide), fun _ h => pk_div (d := 3000) h (by decide) (by decide)⟩
theorem q_rem : (∀ a : Nat, a < 2 ^ 31 → nI a - nI a / (1 : Int32) * (1 : Int32) = nI (a % 1)) ∧
  (∀ a : Nat, a < 2 ^ 31 → nI a - nI a / (2 : Int32) * (2 : Int32) = nI (a % 2)) ∧
  (∀ a : Nat, a < 2 ^ 31 → nI a - nI a / (3 : Int32) * (3 : Int32) = nI (a % 3)) ∧
  (∀ a : Nat, a < 2 ^ 31 → nI a - nI a / (4 : Int32) * (4 : Int32) = nI (a % 4)) ∧
  (∀ a : Nat, a < 2 ^ 31 → nI a - nI a / (5 : Int32) * (5 : Int32) = nI (a % 5)) ∧
  (∀ a : Nat, a < 2 ^ 31 → nI a - nI a / (6 : Int32) * (6 : Int32) = nI (a % 6)) ∧
  (∀ a : Nat, a < 2 ^ 31 → nI a - nI a / (7 : Int32) * (7 : Int32) = nI (a % 7)) ∧
  (∀ a : Nat, a < 2 ^ 31 → nI a - nI a / (8 : Int32) * (8 : Int32) = nI (a % 8)) ∧
  (∀ a : Nat, a < 2 ^ 31 → nI a - nI a / (9 : Int32) * (9 : Int32) = nI (a % 9)) ∧
  (∀ a : Nat, a < 2 ^ 31 → nI a - nI a / (10 : Int32) * (10 : Int32) = nI (a % 10)) ∧
  (∀ a : Nat, a < 2 ^ 31 → nI a - nI a / (11 : Int32) * (11 : Int32) = nI (a % 11)) ∧
  (∀ a : Nat, a < 2 ^ 31 → nI a - nI a / (12 : Int32) * (12 : Int32) = nI (a % 12)) ∧
  (∀ a : Nat, a < 2 ^ 31 → nI a - nI a / (13 : Int32) * (13 : Int32) = nI (a % 13)) ∧
  (∀ a : Nat, a < 2 ^ 31 → nI a - nI a / (14 : Int32) * (14 : Int32) = nI (a % 14)) ∧
  (∀ a : Nat, a < 2 ^ 31 → nI a - nI a / (15 : Int32) * (15 : Int32) = nI (a % 15)) ∧
  (∀ a : Nat, a < 2 ^ 31 → nI a - nI a / (16 : Int32) * (16 : Int32) = nI (a % 16)) ∧
  (∀ a : Nat, a < 2 ^ 31 → nI a - nI a / (17 : Int32) * (17 : Int32) = nI (a % 17)) ∧
  (∀ a : Nat, a < 2 ^ 31 → nI a - nI a / (18 : Int32) * (18 : Int32) = nI (a % 18)) ∧
  (∀ a : Nat, a < 2 ^ 31 → nI a - nI a / (19 : Int32) * (19 : Int32) = nI (a % 19)) ∧
  (∀ a : Nat, a < 2 ^ 31 → nI a - nI a / (20 : Int32) * (20 : Int32) = nI (a % 20)) ∧
  (∀ a : Nat, a < 2 ^ 31 → nI a - nI a / (21 : Int32) * (21 : Int32) = nI (a % 21)) ∧
  (∀ a : Nat, a < 2 ^ 31 → nI a - nI a / (22 : Int32) * (22 : Int32) = nI (a % 22)) ∧
  (∀ a : Nat, a < 2 ^ 31 → nI a - nI a / (23 : Int32) * (23 : Int32) = nI (a % 23)) ∧
  (∀ a : Nat, a < 2 ^ 31 → nI a - nI a / (24 : Int32) * (24 : Int32) = nI (a % 24)) ∧
  (∀ a : Nat, a < 2 ^ 31 → nI a - nI a / (25 : Int32) * (25 : Int32) = nI (a % 25)) ∧
  (∀ a : Nat, a < 2 ^ 31 → nI a - nI a / (30 : Int32) * (30 : Int32) = nI (a % 30)) ∧
  (∀ a : Nat, a < 2 ^ 31 → nI a - nI a / (31 : Int32) * (31 : Int32) = nI (a % 31)) ∧
  (∀ a : Nat, a < 2 ^ 31 → nI a - nI a / (32 : Int32) * (32 : Int32) = nI (a % 32)) ∧
  (∀ a : Nat, a < 2 ^ 31 → nI a - nI a / (33 : Int32) * (33 : Int32) = nI (a % 33)) ∧
  (∀ a : Nat, a < 2 ^ 31 → nI a - nI a / (39 : Int32) * (39 : Int32) = nI (a % 39)) ∧
  (∀ a : Nat, a < 2 ^ 31 → nI a - nI a / (40 : Int32) * (40 : Int32) = nI (a % 40)) ∧
  (∀ a : Nat, a < 2 ^ 31 → nI a - nI a / (41 : Int32) * (41 : Int32) = nI (a % 41)) ∧
  (∀ a : Nat, a < 2 ^ 31 → nI a - nI a / (48 : Int32) * (48 : Int32) = nI (a % 48)) ∧
  (∀ a : Nat, a < 2 ^ 31 → nI a - nI a / (50 : Int32) * (50 : Int32) = nI (a % 50)) ∧
  (∀ a : Nat, a < 2 ^ 31 → nI a - nI a / (57 : Int32) * (57 : Int32) = nI (a % 57)) ∧
  (∀ a : Nat, a < 2 ^ 31 → nI a - nI a / (60 : Int32) * (60 : Int32) = nI (a % 60)) ∧
  (∀ a : Nat, a < 2 ^ 31 → nI a - nI a / (85 : Int32) * (85 : Int32) = nI (a % 85)) ∧
  (∀ a : Nat, a < 2 ^ 31 → nI a - nI a / (96 : Int32) * (96 : Int32) = nI (a % 96)) ∧
  (∀ a : Nat, a < 2 ^ 31 → nI a - nI a / (97 : Int32) * (97 : Int32) = nI (a % 97)) ∧
  (∀ a : Nat, a < 2 ^ 31 → nI a - nI a / (98 : Int32) * (98 : Int32) = nI (a % 98)) ∧
  (∀ a : Nat, a < 2 ^ 31 → nI a - nI a / (99 : Int32) * (99 : Int32) = nI (a % 99)) ∧
  (∀ a : Nat, a < 2 ^ 31 → nI a - nI a / (100 : Int32) * (100 : Int32) = nI (a % 100)) ∧
  (∀ a : Nat, a < 2 ^ 31 → nI a - nI a / (122 : Int32) * (122 : Int32) = nI (a % 122)) ∧
  (∀ a : Nat, a < 2 ^ 31 → nI a - nI a / (159 : Int32) * (159 : Int32) = nI (a % 159)) ∧
  (∀ a : Nat, a < 2 ^ 31 → nI a - nI a / (160 : Int32) * (160 : Int32) = nI (a % 160)) ∧
  (∀ a : Nat, a < 2 ^ 31 → nI a - nI a / (200 : Int32) * (200 : Int32) = nI (a % 200)) ∧
  (∀ a : Nat, a < 2 ^ 31 → nI a - nI a / (240 : Int32) * (240 : Int32) = nI (a % 240)) ∧
  (∀ a : Nat, a < 2 ^ 31 → nI a - nI a / (255 : Int32) * (255 : Int32) = nI (a % 255)) ∧
  (∀ a : Nat, a < 2 ^ 31 → nI a - nI a / (300 : Int32) * (300 : Int32) = nI (a % 300)) ∧
  (∀ a : Nat, a < 2 ^ 31 → nI a - nI a / (999 : Int32) * (999 : Int32) = nI (a % 999)) ∧
  (∀ a : Nat, a < 2 ^ 31 → nI a - nI a / (1000 : Int32) * (1000 : Int32) = nI (a % 1000)) ∧
  (∀ a : Nat, a < 2 ^ 31 → nI a - nI a / (3000 : Int32) * (3000 : Int32) = nI (a % 3000)) :=
  ⟨fun _ h => pk_rem (d := 1) h (by decide) (by decide), fun _ h => pk_rem (d := 2) h (by decide) (by decide), fun _ h => pk_rem (d := 3) h (by decide) (by decide), fun _ h => pk_rem (d := 4) h (by decide) (by decide), fun _ h => pk_rem (d := 5) h (by decide) (by decide), fun _ h => pk_rem (d := 6) h (by decide) (by decide), fun _ h => pk_rem (d := 7) h (by decide) (by decide), fun _ h => pk_rem (d := 8) h (by decide) (by decide), fun _ h => pk_rem (d := 9) h (by decide) (by decide), fun _ h => pk_rem (d := 10) h (by decide) (by decide), fun _ h => pk_rem (d := 11) h (by decide) (by decide), fun _ h => pk_rem (d := 12) h (by decide) (by decide), fun _ h => pk_rem (d := 13) h (by decide) (by decide), fun _ h => pk_rem (d := 14) h (by decide) (by decide), fun _ h => pk_rem (d := 15) h (by decide) (by decide), fun _ h => pk_rem (d := 16) h (by decide) (by decide), fun _ h => pk_rem (d := 17) h (by decide) (by decide), fun _ h => pk_rem (d := 18) h (by decide) (by decide), fun _ h => pk_rem (d := 19) h (by decide) (by decide), fun _ h => pk_rem (d := 20) h (by decide) (by decide), fun _ h => pk_rem (d := 21) h (by decide) (by decide), fun _ h => pk_rem (d := 22) h (by decide) (by decide), fun _ h => pk_rem (d := 23) h (by decide) (by decide), fun _ h => pk_rem (d := 24) h (by decide) (by decide), fun _ h => pk_rem (d := 25) h (by decide) (by decide), fun _ h => pk_rem (d := 30) h (by decide) (by decide), fun _ h => pk_rem (d := 31) h (by decide) (by decide), fun _ h => pk_rem (d := 32) h (by decide) (by decide), fun _ h => pk_rem (d := 33) h (by decide) (by decide), fun _ h => pk_rem (d := 39) h (by decide) (by decide), fun _ h => pk_rem (d := 40) h (by decide) (by decide), fun _ h => pk_rem (d := 41) h (by decide) (by decide), fun _ h => pk_rem (d := 48) h (by decide) (by decide), fun _ h => pk_rem (d := 50) h (by decide) (by decide), fun _ h => pk_rem (d := 57) h (by decide) (by decide), fun _ h => pk_rem (d := 60) h (by decide) (by decide), fun _ h => pk_rem (d := 85) h (by decide) (by decide), fun _ h => pk_rem (d := 96) h (by decide) (by decide), fun _ h => pk_rem (d := 97) h (by decide) (by decide), fun _ h => pk_rem (d := 98) h (by decide) (by decide), fun _ h => pk_rem (d := 99) h (by decide) (by decide), fun _ h => pk_rem (d := 100) h (by decide) (by decide), fun _ h => pk_rem (d := 122) h (by decide) (by decide), fun _ h => pk_rem (d := 159) h (by decide) (by decide), fun _ h => pk_rem (d := 160) h (by decide) (by decide), fun _ h => pk_rem (d := 200) h (by decide) (by decide), fun _ h => pk_rem (d := 240) h (by decide) (by decide), fun _ h => pk_rem (d := 255) h (by decide) (by decide), fun _ h => pk_rem (d := 300) h (by decide) (by decide), fun _ h => pk_rem (d := 999) h (by decide) (by decide), fun _ h => pk_rem (d := 1000) h (by decide) (by decide), fun _ h => pk_rem (d := 3000) h (by decide) (by decide)⟩
theorem q_ll {a b : Nat} (ha : a < 2 ^ 31) (hb : b < 2 ^ 31) : (nI a < nI b) = (a < b) := propext (nI_ltI ha hb)
theorem q_ee {a b : Nat} (ha : a < 2 ^ 31) (hb : b < 2 ^ 31) : (nI a = nI b) = (a = b) := propext (nI_eq ha hb)
theorem q_addm {a : Nat} (h : 1 ≤ a) : nI a + (-1) = nI (a - 1) := by
  obtain ⟨b, rfl⟩ : ∃ b, a = b + 1 := ⟨a - 1, by omega⟩
  exact pk_m1 b
theorem q_aa {a b : Nat} : nI a + nI b = nI (a + b) := nI_add a b
theorem q_ss {a b : Nat} (h : b ≤ a) : nI a - nI b = nI (a - b) := pk_sub h
theorem q_neg {a : Nat} (ha : a < 2 ^ 31) : (nI a < (0 : Int32)) = False := propext ⟨fun h => nI_pos ha h, False.elim⟩
theorem ne0 (n : Nat) : (nI (n + 1) = 0) = False ∨ True := Or.inr trivial
def clamp99 (v : Int32) : Nat := if v < 0 then 0 else if 99 < v then 99 else v.toNatClampNeg
theorem i32_lt {x y : Int32} : x < y ↔ x.toInt < y.toInt := Int32.lt_iff_toInt_lt
theorem clamp99_le (v : Int32) : clamp99 v ≤ 99 := by
  unfold clamp99
  split
  · omega
  · split
    · omega
    · rename_i h1 h2
      rw [i32_lt] at h1 h2
      have e99 : (99 : Int32).toInt = 99 := by decide
      have e0 : (0 : Int32).toInt = 0 := by decide
      have : v.toNatClampNeg = v.toInt.toNat := rfl
      omega
theorem clamp99_eq (v : Int32) : (if (0 : Int32) < (if (99 : Int32) < v then (99 : Int32) else v) then (if (99 : Int32) < v then (99 : Int32) else v) else 0) = nI (clamp99 v) := by
  unfold clamp99
  have e99 : (99 : Int32).toInt = 99 := by decide
  have e0 : (0 : Int32).toInt = 0 := by decide
  by_cases h1 : v < 0
  · have h2 : ¬ (99 : Int32) < v := by rw [i32_lt] at h1 ⊢; omega
    have h3 : ¬ (0 : Int32) < v := by rw [i32_lt] at h1 ⊢; omega
    simp only [h1, h2, h3, if_true, if_false]
    rfl
  · by_cases h2 : (99 : Int32) < v
    · have h3 : (0 : Int32) < 99 := by decide
      simp only [h1, h2, h3, if_true, if_false]
      rfl
    · simp only [h1, h2, if_false]
      obtain ⟨j, hj, rfl⟩ := nI_of h1
      rw [nI_clamp hj]
      by_cases h3 : (0 : Int32) < nI j
      · rw [if_pos h3]
      · rw [if_neg h3]
        have : j = 0 := by
          rw [i32_lt, nI_toInt hj] at h3
          omega
        rw [this]; rfl
