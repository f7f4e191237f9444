/-- no fourth side goes through a corner -/
theorem jNdR {p : Nat → Nat → Int} (hp : ∀ i m, i < 3 → m < 3 → 1 ≤ p i m ∧ p i m ≤ 199) {k1 k2 k3 k : Nat} {y : Nat → Rat} (h : sVtx (jR p) (fun r => ((jbN r : Int) : Rat)) k1 k2 k3 y) (hk : k < 6) (n1 : k ≠ k1) (n2 : k ≠ k2) (n3 : k ≠ k3) : sC (jR p) (fun r => ((jbN r : Int) : Rat)) y k ≠ 0 := by
  obtain ⟨⟨a1, a2, a3⟩, hD, ⟨c1, c2, c3⟩, -⟩ := h
  intro w
  have e := sK_c (b := jbN) (k := k) c1 c2 c3
  rw [w, rZ] at e
  have e2 : jJ p jbN k1 k2 k3 k = 0 := Rat.intCast_eq_zero_iff.mp e.symm
  have n : ∀ k m, sN (jR p) k m = ((jN p k m : Int) : Rat) := fun k m => sN_c
  rw [sDet_c (n k1) (n k2) (n k3)] at hD
  have hD2 : jDet (jN p k1) (jN p k2) (jN p k3) ≠ 0 := fun q => hD (by rw [q, Rat.intCast_zero])
  have q0 := jJ_bd hp a1 a2 a3 hk (r := 0)
  have q1 := jJ_bd hp a1 a2 a3 hk (r := 1)
  have q2 := jJ_bd hp a1 a2 a3 hk (r := 2)
  obtain ⟨N, hN, v0, v1, v2⟩ := jbN_e
  rw [jJ_lin a1 a2 a3 hk, v0, v1, v2] at e2
  obtain ⟨z0, z1, z2⟩ := jZero hN q0 q1 q2 e2
  exact jNd a1 a2 a3 hk n1 n2 n3 hD2 z0 z1 z2
