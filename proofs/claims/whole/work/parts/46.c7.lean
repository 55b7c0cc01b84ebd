/-! the class: roads as they would be -/
section C8
variable {I : Nat → Nat → Int32} {V : Nat → Nat → Nat} {L : Nat → Int64} {A : Nat → Nat → Int32} {b b' : Nat}
theorem S18 (hb : cSh[b]? = some sRoad) (hb1 : cSh[b + 1]? = some (sArr 24)) {p : Nat} (hp : p < 24) (d : Nat) (v : Int32) (P : MP) : mRun (d + 1) 18 [.ref b, .int (nI p), .int v] (mkH cSh I V L A) P = P none (mkH cSh I V L (upA A (b + 1) (upd (A (b + 1)) p v))) := by
  have h1 : ¬ nI p < 0 := nI_pos (by omega)
  simp (disch := first | assumption | exact mnl_i | exact mnl_r | exact mnl_n | exact mnl_0 | omega) only [↓reduceIte, E18_0, E18_4, E18_13, E18_20, B18, kRoad, kA hb1, h1, nI_d, q_ll, hp, pix_nI]
theorem S20 (hb : cSh[b]? = some sRoad) (hb1 : cSh[b + 1]? = some (sArr 24)) (hb' : cSh[b']? = some sRoad) (hb1' : cSh[b' + 1]? = some (sArr 24)) (hne : b' ≠ b) (d : Nat) (P : MP)
    (hP : ∀ A', (∀ c, c ≠ b + 1 → A' c = A c) → (∀ j, j < 24 → A' (b + 1) j = A (b' + 1) j) → P none (mkH cSh (up2 I b 1 (I b' 1)) (up2 V b 2 (V b' 2)) L A')) : mRun (d + 1) 20 [.ref b, .ref b'] (mkH cSh I V L A) P := by
  have z0 : (0 : Int32).toNatClampNeg = 0 := by decide
  have z24 : (24 : Int32).toNatClampNeg = 24 := by decide
  have c : ¬ (0 : Int32) < 0 ∧ ¬ (0 : Int32) < 0 ∧ ¬ (24 : Int32) < 0 ∧ (0 : Int32).toNatClampNeg + (24 : Int32).toNatClampNeg ≤ 24 ∧ (0 : Int32).toNatClampNeg + (24 : Int32).toNatClampNeg ≤ 24 := by decide
  simp (disch := first | assumption | exact mnl_i | exact mnl_r | exact mnl_n | exact mnl_0 | omega) only [E20_0, B20, kRoad, H_copy hb1' hb1, if_pos c, z0, z24]
  refine hP _ (fun c hc => upA_n hc) (fun j hj => ?_)
  rw [upA_s, pk_cpy_in (Nat.zero_le _) (by omega)]
  congr 1
  omega
end C8
