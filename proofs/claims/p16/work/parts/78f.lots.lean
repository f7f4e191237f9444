/-- a best corner in whole numbers: its own sides, the others and the multipliers -/
theorem jBest {p : Nat → Nat → Int} (hp : ∀ i m, i < 3 → m < 3 → 1 ≤ p i m ∧ p i m ≤ 199) : ∃ k1 k2 k3, (k1 < 6 ∧ k2 < 6 ∧ k3 < 6) ∧ jDet (jN p k1) (jN p k2) (jN p k3) ≠ 0 ∧ (∀ k, k < 6 → 0 ≤ jDet (jN p k1) (jN p k2) (jN p k3) * jJ p (fun _ => 1) k1 k2 k3 k) ∧ jDet (jN p k1) (jN p k2) (jN p k3) * jS (jN p k2) (jN p k3) ≤ 0 ∧ jDet (jN p k1) (jN p k2) (jN p k3) * jS (jN p k3) (jN p k1) ≤ 0 ∧ jDet (jN p k1) (jN p k2) (jN p k3) * jS (jN p k1) (jN p k2) ≤ 0 := by
  have n : ∀ k m, sN (jR p) k m = ((jN p k m : Int) : Rat) := fun k m => sN_c
  have hP : ∀ i m, i < 3 → m < 3 → 0 < jR p i m := fun i m hi hm => by
    have := (hp i m hi hm).1
    exact Rat.intCast_pos.mpr (by omega)
  have hb : ∀ r, r < 3 → 0 ≤ (fun r => ((jbN r : Int) : Rat)) r := fun r hr => Rat.intCast_nonneg.mpr (jbN_nn hr)
  obtain ⟨k1, k2, k3, y, r, ⟨⟨a1, a2, a3⟩, -, ⟨c1, c2, c3⟩, hf⟩, hr, m1, m2, m3⟩ := sBest (P := jR p) (b := fun r => ((jbN r : Int) : Rat)) hP hb (fun k1 k2 k3 y h k hk n1 n2 n3 => jNdR hp h hk n1 n2 n3)
  rw [sDet_c (n k1) (n k2) (n k3)] at hr
  have sg : ∀ k l, (sCr (sN (jR p) k) (sN (jR p) l) 0 + sCr (sN (jR p) k) (sN (jR p) l) 1 + sCr (sN (jR p) k) (sN (jR p) l) 2) * r ≤ 0 → jDet (jN p k1) (jN p k2) (jN p k3) * jS (jN p k) (jN p l) ≤ 0 := fun k l h => by
    rw [sCr_c (n k) (n l), sCr_c (n k) (n l), sCr_c (n k) (n l), ← Rat.intCast_add, ← Rat.intCast_add, ← jS_e] at h
    refine Rat.intCast_nonpos.mp ?_
    rw [Rat.intCast_mul]
    exact rSg hr h
  have hD2 : jDet (jN p k1) (jN p k2) (jN p k3) ≠ 0 := fun q => by
    rw [q] at hr
    exact rNz hr
  refine ⟨k1, k2, k3, ⟨a1, a2, a3⟩, hD2, fun k hk => ?_, sg _ _ m1, sg _ _ m2, sg _ _ m3⟩
  have e := sK_c (b := jbN) (k := k) c1 c2 c3
  have t : 0 ≤ jDet (jN p k1) (jN p k2) (jN p k3) * jJ p jbN k1 k2 k3 k := by
    refine Rat.intCast_nonneg.mp ?_
    rw [Rat.intCast_mul, ← e]
    exact rMu (hf k hk)
  have q0 := jJ_bd hp a1 a2 a3 hk (r := 0)
  have q1 := jJ_bd hp a1 a2 a3 hk (r := 1)
  have q2 := jJ_bd hp a1 a2 a3 hk (r := 2)
  obtain ⟨N, hN, v0, v1, v2⟩ := jbN_e
  rw [jJ_lin a1 a2 a3 hk, v0, v1, v2] at t
  rw [jJ_lin a1 a2 a3 hk]
  exact jFar hN hD2 q0 q1 q2 t
